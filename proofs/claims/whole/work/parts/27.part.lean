set_option maxRecDepth 20000 in
theorem ar_X_X2_65 : ar_X "ArrayText$Parser" 29 65 33 "java/lang/IllegalArgumentException" "no closing parenthesis" := ⟨by decide +kernel, by decide +kernel, by decide +kernel, by decide +kernel, by decide +kernel, by decide +kernel, by decide +kernel, by decide +kernel⟩
abbrev zW6 : Type := (Nat → Int32) × (Nat → Int32) × (Nat → Int32) × (Nat → Nat → UInt64) × (Nat → Nat → Int32) × (Nat → Nat → Option Nat)
def zSt (sc sg : Nat → Int32) (q b : Nat) (S : zXS) : zW6 := (zSc sc q b, sg, S.1, S.2.1, S.2.2.1, S.2.2.2)
def zPo (ad : Nat → Nat) (sc sg : Nat → Int32) (n q b e : Nat) (S : zXS) (o : Option (Nat × zTr)) (v9 : Option Value) (u9 : zW6) : Prop := ∃ (q2 : Nat) (t : zTr) (r : Nat) (T : zXS), o = some (q2, t) ∧ v9 = some (.ref (ad (104 + r))) ∧ q < q2 ∧ q2 ≤ n ∧ zNN t + q ≤ q2 + e ∧ zFr b S T ∧ zGd b (b + zNN t) T ∧ zSo T.1 ∧ zRq T t b r ∧ u9 = zSt sc sg q2 (b + zNN t) T
def zPx (sc sg : Nat → Int32) (S : zXS) (o : Option (Nat × zTr)) (E9 : String) (u9 : zW6) : Prop := E9 = IAE ∧ o = none ∧ ∃ (p9 b9 : Nat) (T : zXS), zFv S T ∧ zSo T.1 ∧ u9 = zSt sc sg p9 b9 T
def zpE (l : Launch) (D : va_G) (ct : Nat → ClassId) (ad : Nat → Nat) (sc sg : Nat → Int32) (n : Nat) (tx : Nat → Nat) (f : Nat) : Prop := ∀ (S : zXS) (q b dp : Nat), f + dp = 41 → q ≤ n → b ≤ q → zSo S.1 → ar_M l yX2_readExpression cX2_readExpression 5 (some (.object "ArrayText$Node")) (2 * f + 20) (100 * f + 1000) D ct (xL ad ct) [.ref (ad 2), .ref (ad 4), .int (nI dp)] (zSc sc q b, sg, S.1, S.2.1, S.2.2.1, S.2.2.2) (zPo ad sc sg n q b 1 S (zE (zCh tx n) f q)) (zPx sc sg S (zE (zCh tx n) f q))
def zpP (l : Launch) (D : va_G) (ct : Nat → ClassId) (ad : Nat → Nat) (sc sg : Nat → Int32) (n : Nat) (tx : Nat → Nat) (f : Nat) : Prop := ∀ (S : zXS) (q b dp : Nat), f + dp = 40 → q ≤ n → b ≤ q + 1 → zSo S.1 → ar_M l yX2_readPart cX2_readPart 4 (some (.object "ArrayText$Node")) (2 * f + 21) (100 * f + 1030) D ct (xL ad ct) [.ref (ad 2), .ref (ad 4), .int (nI dp)] (zSc sc q b, sg, S.1, S.2.1, S.2.2.1, S.2.2.2) (zPo ad sc sg n q b 0 S (zPt (zCh tx n) (zE (zCh tx n) f) q)) (zPx sc sg S (zPt (zCh tx n) (zE (zCh tx n) f) q))
theorem vOk_ch : ∀ ch, ch < 128 → vOk (nI ch - nI 97) = decide (97 ≤ ch ∧ ch ≤ 104) := by decide +kernel
theorem zLf_end {c : Nat → Nat} {q : Nat} (h : c q = 0) : zLf c q = none := by
  have h1 : zC c q = none := by
    unfold zC
    rw [if_pos (zDr_x (by rw [h]; rfl))]
  unfold zLf
  rw [if_neg (by omega), if_neg (by omega), h1]
theorem zNf3 {nf : Nat → Nat → Int32} {b : Nat} {x u : Int32} : zS2 (zS0 (zN0 nf b) b x) b u 0 b = x ∧ zS2 (zS0 (zN0 nf b) b x) b u 1 b = nI 0 ∧ zS2 (zS0 (zN0 nf b) b x) b u 2 b = u := by
  unfold zS2 zS0
  exact ⟨by rw [up2_ot (by decide), up2_at], by rw [up2_ot (by decide), up2_ot (by decide)]; exact zN0_at.2.1, up2_at⟩
theorem zNf2 {nf : Nat → Nat → Int32} {b : Nat} {x : Int32} : zS0 (zN0 nf b) b x 0 b = x ∧ zS0 (zN0 nf b) b x 1 b = nI 0 ∧ zS0 (zN0 nf b) b x 2 b = nI 0 := by
  unfold zS0
  exact ⟨up2_at, by rw [up2_ot (by decide)]; exact zN0_at.2.1, by rw [up2_ot (by decide)]; exact zN0_at.2.2⟩
theorem zNf1 {nf : Nat → Nat → Int32} {b : Nat} {x y : Int32} : zS1 (zS0 (zN0 nf b) b x) b y 0 b = x ∧ zS1 (zS0 (zN0 nf b) b x) b y 1 b = y ∧ zS1 (zS0 (zN0 nf b) b x) b y 2 b = nI 0 := by
  unfold zS1 zS0
  exact ⟨by rw [up2_ot (by decide), up2_at], up2_at, by rw [up2_ot (by decide), up2_ot (by decide)]; exact zN0_at.2.2⟩
theorem zNf4 {nf : Nat → Nat → Int32} {b : Nat} {x y : Int32} : zS0 (zS1 nf b y) b x 0 b = x ∧ zS0 (zS1 nf b y) b x 1 b = y ∧ zS0 (zS1 nf b y) b x 2 b = nf 2 b := by
  unfold zS1 zS0
  exact ⟨up2_at, by rw [up2_ot (by decide), up2_at], by rw [up2_ot (by decide), up2_ot (by decide)]⟩
theorem zFk_ge {c : Nat} (h : zFk c ≠ 0) : 4 ≤ zFk c := by unfold zFk at h ⊢; (repeat' split) <;> first | omega | simp_all
theorem zSk_ge {c : Nat} (h : zSk c ≠ 0) : 8 ≤ zSk c := by unfold zSk at h ⊢; (repeat' split) <;> first | omega | simp_all
theorem zSk_sg {c : Nat} (h : zSk c = 8) : zSg c := by unfold zSk at h; unfold zSg; (repeat' split at h) <;> omega
theorem zRd_sg {c : Nat} (h : zRd c = true) : zSg c := by unfold zRd at h; rw [decide_eq_true_iff] at h; unfold zSg; omega
theorem hd_X2_readExpression : yX2_readExpression.cls ≠ "java/lang/invoke/MethodHandle" ∧ yX2_readExpression.cls ≠ "java/lang/invoke/VarHandle" ∧ (parseMethodDescriptor yX2_readExpression.desc).map (fun d => d.parameters.length) = some 3 := by decide +kernel
theorem zOk_cst {m : Nat} (h1 : 1 ≤ m) (h2 : m ≤ 24) : zOk (if m = 1 then 0 else m) = true := by
  split
  · decide
  · exact zOk_row h1 h2
theorem hd_X2_readPart : yX2_readPart.cls ≠ "java/lang/invoke/MethodHandle" ∧ yX2_readPart.cls ≠ "java/lang/invoke/VarHandle" ∧ (parseMethodDescriptor yX2_readPart.desc).map (fun d => d.parameters.length) = some 3 := by decide +kernel
set_option maxHeartbeats 4000000 in
set_option maxRecDepth 100000 in
theorem c_X2_readPart {l : Launch} (hl9 : l.stackTraces = false) {D : va_G} {ct : Nat → ClassId} {ad : Nat → Nat} (sc sg : Nat → Int32) (n : Nat) (tx : Nat → Nat) (hn : n ≤ 40) (hlen : sc 2 = nI n) (htx : ∀ j, j < n → sg j = nI (tx j)) (hcx : ∀ j, j < n → 1 ≤ tx j ∧ tx j ≤ 127) (f : Nat) (hE : zpE l D ct ad sc sg n tx f) (S : zXS) (q b dp : Nat) (hfd : f + dp = 40) (hq : q ≤ n) (hbq : b ≤ q + 1) (hso : zSo S.1) : ar_M l yX2_readPart cX2_readPart 4 (some (.object "ArrayText$Node")) (2 * f + 21) (100 * f + 1030) D ct (xL ad ct) [.ref (ad 2), .ref (ad 4), .int (nI dp)] (zSc sc q b, sg, S.1, S.2.1, S.2.2.1, S.2.2.2) (zPo ad sc sg n q b 0 S (zPt (zCh tx n) (zE (zCh tx n) f) q)) (zPx sc sg S (zPt (zCh tx n) (zE (zCh tx n) f) q)) := by
  refine ar_ofW hl9 (by decide) (Nat.le_of_ble_eq_true rfl) ?_
  intro p e s m below meth c A ls C hr hnm hW hl
  have hx := C.1
  have hb := C.2.1
  have hown := C.2.2.2.1
  have hts := C.2.2.2.2.1
  have hl : lv_has ls 4 [(0, .ref (ad 2)), (1, .ref (ad 4)), (2, .int (nI dp))] := hl
  refine lv_aload_n hx hb dX2_readPart_0 rfl (lv_at hl 0 rfl) ?_
  refine lv_bipush (v := nI 40) hx hb dX2_readPart_1 (by decide) ?_
  refine ar_callV (As := [.int (nI 40)]) (rest := []) C hW (c_X5_passIfNext hl9 (zSc sc q b) sg S.1 S.2.1 S.2.2.1 S.2.2.2 n q tx hn (zSc_2 hlen) (by omega) zSc_3 htx hcx 40 (by decide) (by decide)) (xl_at (by decide) rfl) rfl q419 q420 q421 q3 q422 hd_X5_passIfNext ⟨by omega, by omega⟩ hl.1 (Nat.le_of_ble_eq_true rfl) rfl dX2_readPart_3 (fun _ _ _ _ _ _ hp => hp.elim) (fun v9 u9 H locs hp hW => ?_)
  obtain ⟨rfl, hu9⟩ := hp
  rw [hu9] at hW
  rw [zSc_p] at hW
  refine W.eq (g2 := F0 m 6 ls [.int (bI (decide (zCh tx n q = 40)))]) rfl ?_
  refine lb_if_eq (tgt := 39) hx hb dX2_readPart_6 (by decide) (fun h1 => ?_) (fun h1 => ?_)
  · skip
    have h1t := of_decide_eq_false h1
    rw [if_neg h1t] at hW
    refine lv_aload_n hx hb dX2_readPart_39 rfl (lv_at hl 1 rfl) ?_
    refine ar_callV (As := []) (rest := []) C hW (c_X6_add hl9 (zSc sc q b) sg S.1 S.2.1 S.2.2.1 S.2.2.2 b (by omega) zSc_4) (xl_at (by decide) rfl) rfl q387 q388 q389 q4 q390 hd_X6_add ⟨by omega, by omega⟩ hl.1 (Nat.le_of_ble_eq_true rfl) rfl dX2_readPart_40 (fun E9 ce9 q9 u9 H locs hp hW h91 h92 h93 => ar_out C hW h91 h92 h93 (⟨hp.1, by unfold zPt; rw [if_neg h1t]; exact zLf_end (zCh_out (by omega)), q, b, S, zFv.rf S, hso, hp.2.2⟩)) (fun v9 u9 H locs hp hW => ?_)
    obtain ⟨hb41, rfl, hu9⟩ := hp
    rw [hu9, zSc_c] at hW
    refine W.eq (g2 := F0 m 43 ls [.ref (ad (104 + b))]) rfl ?_
    refine lv_astore_n (lv' := [(3, .ref (ad (104 + b))), (0, .ref (ad 2)), (1, .ref (ad 4)), (2, .int (nI dp))]) hx hb dX2_readPart_43 rfl hl (by decide) rfl (fun ls hl => ?_)
    refine lv_aload_n hx hb dX2_readPart_44 rfl (lv_at hl 1 rfl) ?_
    refine ar_callV (As := []) (rest := []) C hW (c_X5_next hl9 (zSc sc q (b + 1)) sg S.1 S.2.1 (zN0 S.2.2.1 b) (zL0 S.2.2.2 b) n q tx hn (zSc_2 hlen) (by omega) zSc_3 htx hcx) (xl_at (by decide) rfl) rfl q401 q402 q403 q3 q404 hd_X5_next ⟨by omega, by omega⟩ hl.1 (Nat.le_of_ble_eq_true rfl) rfl dX2_readPart_45 (fun _ _ _ _ _ _ hp => hp.elim) (fun v9 u9 H locs hp hW => ?_)
    obtain ⟨rfl, hu9⟩ := hp
    rw [hu9] at hW
    refine W.eq (g2 := F0 m 48 ls [.int (nI (zCh tx n q))]) rfl ?_
    refine lv_bipush (v := nI 97) hx hb dX2_readPart_48 (by decide) ?_
    refine lv_isub hx hb dX2_readPart_50 ?_
    refine ar_callN (As := [.int (nI (zCh tx n q) - nI 97)]) (rest := []) C hW (c_X8_isVariable hl9 _ (nI (zCh tx n q) - nI 97)) (by decide +kernel) q175 q1 q176 hd_X8_isVariable ⟨by omega, by omega⟩ hl.1 (Nat.le_of_ble_eq_true rfl) rfl dX2_readPart_51 (fun _ _ _ _ _ _ hp => hp.elim) (fun v9 u9 H locs hp hW => ?_)
    obtain ⟨rfl, hu9⟩ := hp
    rw [hu9] at hW
    refine W.eq (g2 := F0 m 54 ls [.int (bI (vOk (nI (zCh tx n q) - nI 97)))]) rfl ?_
    refine lb_if_eq (tgt := 80) hx hb dX2_readPart_54 (by decide) (fun h2 => ?_) (fun h2 => ?_)
    · skip
      have hvk := vOk_ch (zCh tx n q) (by have := zCh_lt (q := q) hcx; omega)
      rw [h2] at hvk
      have hvk := of_decide_eq_false hvk.symm
      refine lv_aload_n hx hb dX2_readPart_80 rfl (lv_at hl 1 rfl) ?_
      refine lv_bipush (v := nI 105) hx hb dX2_readPart_81 (by decide) ?_
      refine ar_callV (As := [.int (nI 105)]) (rest := []) C hW (c_X5_passIfNext hl9 (zSc sc q (b + 1)) sg S.1 S.2.1 (zN0 S.2.2.1 b) (zL0 S.2.2.2 b) n q tx hn (zSc_2 hlen) (by omega) zSc_3 htx hcx 105 (by decide) (by decide)) (xl_at (by decide) rfl) rfl q419 q420 q421 q3 q422 hd_X5_passIfNext ⟨by omega, by omega⟩ hl.1 (Nat.le_of_ble_eq_true rfl) rfl dX2_readPart_83 (fun _ _ _ _ _ _ hp => hp.elim) (fun v9 u9 H locs hp hW => ?_)
      obtain ⟨rfl, hu9⟩ := hp
      rw [hu9] at hW
      rw [zSc_p] at hW
      refine W.eq (g2 := F0 m 86 ls [.int (bI (decide (zCh tx n q = 105)))]) rfl ?_
      refine lb_if_eq (tgt := 105) hx hb dX2_readPart_86 (by decide) (fun h3 => ?_) (fun h3 => ?_)
      · skip
        have h3t := of_decide_eq_false h3
        rw [if_neg h3t] at hW
        refine lv_aload_n hx hb dX2_readPart_105 rfl (lv_at hl 0 rfl) ?_
        refine lv_iconst (v := nI 2) hx hb dX2_readPart_106 (by decide) ?_
        refine xp_kind (k := b) C hW q87 (by omega) dX2_readPart_107 (fun H locs hW => ?_)
        refine lv_aload_n hx hb dX2_readPart_110 rfl (lv_at hl 1 rfl) ?_
        refine lv_aload_n hx hb dX2_readPart_111 rfl (lv_at hl 0 rfl) ?_
        refine xg_result (k := b) C hW q106 (by omega) dX2_readPart_112 ?_
        refine ar_callS (As := [.ref (ad 2), .ref (ad (6 + (8 + b)))]) (rest := []) C hW (c_X2_readConstant hl9 sc sg S.1 S.2.1 (va_up (zN0 S.2.2.1 b) 0 (va_up ((zN0 S.2.2.1 b) 0) b (nI 2))) (zL0 S.2.2.2 b) n q (b + 1) tx hn hlen (by omega) htx hcx (8 + b) (by omega)) q434 q435 q15 q436 hd_X2_readConstant ⟨by omega, by omega⟩ hl.1 (Nat.le_of_ble_eq_true rfl) rfl dX2_readPart_115 (fun E9 ce9 q9 u9 H locs hp hW h91 h92 h93 => ar_out C hW h91 h92 h93 (⟨hp.1, by unfold zPt; rw [if_neg h1t]; unfold zLf; rw [if_neg hvk, if_neg h3t, hp.2.1], by obtain ⟨p9, g, h66⟩ := hp.2.2; exact ⟨p9, b + 1, (S.1, va_up S.2.1 (8 + b) g, zS0 (zN0 S.2.2.1 b) b (nI 2), zL0 S.2.2.2 b), (zO_el (b := b) (S := S)).2, hso, h66⟩⟩)) (fun v9 u9 H locs hp hW => ?_)
        obtain ⟨q2, vs, g, rfl, hzc, hv1, hv2, hvg, hlt2, hle2, hu9⟩ := hp
        rw [hu9] at hW
        refine W.eq (g2 := F0 m 118 ls []) rfl ?_
        refine lv_aload_n hx hb dX2_readPart_118 rfl (lv_at hl 0 rfl) ?_
        exact ar_aret C hr hW dX2_readPart_119 ((fun h66 => ⟨q2, .leaf (2, vs), b, (va_up S.1 (8 + b) (nI (if vs.length = 1 then 0 else vs.length)), va_up S.2.1 (8 + b) g, zS0 (zN0 S.2.2.1 b) b (nI 2), zL0 S.2.2.2 b), by unfold zPt; rw [if_neg h1t]; unfold zLf; rw [if_neg hvk, if_neg h3t, hzc], rfl, hlt2, hle2, (by have h67 : zNN (.leaf (2, vs)) = 1 := rfl; omega), h66.1, h66.2.1, zSo_up hso (zOk_cst hv1 hv2), h66.2.2, rfl⟩) (zMk0 (x := 2) (v := vs) (u := 0) (S1 := (va_up S.1 (8 + b) (nI (if vs.length = 1 then 0 else vs.length)), va_up S.2.1 (8 + b) g, zS0 (zN0 S.2.2.1 b) b (nI 2), zL0 S.2.2.2 b)) (zO_new.tr (zO_S0.tr zO_row)) (zNf2 (x := nI 2)).1 (zNf2 (x := nI 2)).2.1 (zNf2 (x := nI 2)).2.2 (by decide) (Or.inr (Or.inr ⟨rfl, hv1, hv2, va_up_self _ _ _, fun i hi => ⟨(congrFun (va_up_self _ _ _) i).trans (hvg i hi).1, (hvg i hi).2⟩⟩))))
      · skip
        have h3t := of_decide_eq_true h3
        rw [if_pos h3t] at hW
        have h3n : q < n := zCh_pos (by rw [h3t]; decide)
        refine lv_aload_n hx hb dX2_readPart_89 rfl (lv_at hl 0 rfl) ?_
        refine lv_iconst (v := nI 3) hx hb dX2_readPart_90 (by decide) ?_
        refine xp_kind (k := b) C hW q87 (by omega) dX2_readPart_91 (fun H locs hW => ?_)
        refine lv_aload_n hx hb dX2_readPart_94 rfl (lv_at hl 0 rfl) ?_
        refine lv_aload_n hx hb dX2_readPart_95 rfl (lv_at hl 1 rfl) ?_
        refine ar_callS (As := [.ref (ad 2)]) (rest := [.ref (ad (104 + b))]) C hW (c_X2_readNumber hl9 sc sg S.1 S.2.1 (va_up (zN0 S.2.2.1 b) 0 (va_up ((zN0 S.2.2.1 b) 0) b (nI 3))) (zL0 S.2.2.2 b) n (q + 1) (b + 1) tx hn hlen (by omega) htx hcx) q427 q428 q15 q429 hd_X2_readNumber ⟨by omega, by omega⟩ hl.1 (Nat.le_of_ble_eq_true rfl) rfl dX2_readPart_96 (fun E9 ce9 q9 u9 H locs hp hW h91 h92 h93 => ar_out C hW h91 h92 h93 (⟨hp.2.1, by unfold zPt; rw [if_neg h1t]; unfold zLf; rw [if_neg hvk, if_pos h3t, if_pos hp.1], q + 1, b + 1, (S.1, S.2.1, zS0 (zN0 S.2.2.1 b) b (nI 3), zL0 S.2.2.2 b), zFv.rf S, hso, hp.2.2⟩)) (fun v9 u9 H locs hp hW => ?_)
        obtain ⟨hz9, rfl, hu9⟩ := hp
        rw [hu9] at hW
        refine W.eq (g2 := F0 m 99 ls [.int (nI (zNm (zCh tx n) (q + 1) (zDr (zCh tx n) 4 (q + 1)))), .ref (ad (104 + b))]) rfl ?_
        refine xp_number (k := b) C hW q94 (by omega) dX2_readPart_99 (fun H locs hW => ?_)
        refine lv_goto (tgt := 118) hx hb dX2_readPart_102 (by decide) ?_
        refine lv_aload_n hx hb dX2_readPart_118 rfl (lv_at hl 0 rfl) ?_
        exact ar_aret C hr hW dX2_readPart_119 ((fun h66 => ⟨q + 1 + zDr (zCh tx n) 4 (q + 1), .leaf (3, [zNm (zCh tx n) (q + 1) (zDr (zCh tx n) 4 (q + 1))]), b, (S.1, S.2.1, zS2 (zS0 (zN0 S.2.2.1 b) b (nI 3)) b (nI (zNm (zCh tx n) (q + 1) (zDr (zCh tx n) 4 (q + 1)))), zL0 S.2.2.2 b), by unfold zPt; rw [if_neg h1t]; unfold zLf; rw [if_neg hvk, if_pos h3t, if_neg hz9], rfl, by omega, zDr_in (by omega), (by have h67 : zNN (.leaf (3, [zNm (zCh tx n) (q + 1) (zDr (zCh tx n) 4 (q + 1))])) = 1 := rfl; omega), h66.1, h66.2.1, hso, h66.2.2, rfl⟩) (zMk0 (x := 3) (u := zNm (zCh tx n) (q + 1) (zDr (zCh tx n) 4 (q + 1))) (v := [zNm (zCh tx n) (q + 1) (zDr (zCh tx n) 4 (q + 1))]) (S1 := (S.1, S.2.1, zS2 (zS0 (zN0 S.2.2.1 b) b (nI 3)) b (nI (zNm (zCh tx n) (q + 1) (zDr (zCh tx n) 4 (q + 1)))), zL0 S.2.2.2 b)) (zO_new.tr (zO_S0.tr zO_S2)) (zNf3 (x := nI 3) (u := nI (zNm (zCh tx n) (q + 1) (zDr (zCh tx n) 4 (q + 1))))).1 (zNf3 (x := nI 3) (u := nI (zNm (zCh tx n) (q + 1) (zDr (zCh tx n) 4 (q + 1))))).2.1 (zNf3 (x := nI 3) (u := nI (zNm (zCh tx n) (q + 1) (zDr (zCh tx n) 4 (q + 1))))).2.2 (by have h68 := zNm_4 (c := zCh tx n) (q := q + 1); omega) (Or.inr (Or.inl ⟨rfl, rfl⟩))))
    · skip
      have hvk := vOk_ch (zCh tx n q) (by have := zCh_lt (q := q) hcx; omega)
      rw [h2] at hvk
      have hvk := of_decide_eq_true hvk.symm
      refine lv_aload_n hx hb dX2_readPart_57 rfl (lv_at hl 0 rfl) ?_
      refine lv_iconst (v := nI 1) hx hb dX2_readPart_58 (by decide) ?_
      refine xp_kind (k := b) C hW q87 (by omega) dX2_readPart_59 (fun H locs hW => ?_)
      refine lv_aload_n hx hb dX2_readPart_62 rfl (lv_at hl 0 rfl) ?_
      refine lv_aload_n hx hb dX2_readPart_63 rfl (lv_at hl 1 rfl) ?_
      refine ar_callV (As := []) (rest := [.ref (ad (104 + b))]) C hW (c_X5_next hl9 (zSc sc q (b + 1)) sg S.1 S.2.1 (va_up (zN0 S.2.2.1 b) 0 (va_up ((zN0 S.2.2.1 b) 0) b (nI 1))) (zL0 S.2.2.2 b) n q tx hn (zSc_2 hlen) (by omega) zSc_3 htx hcx) (xl_at (by decide) rfl) rfl q401 q402 q403 q3 q404 hd_X5_next ⟨by omega, by omega⟩ hl.1 (Nat.le_of_ble_eq_true rfl) rfl dX2_readPart_64 (fun _ _ _ _ _ _ hp => hp.elim) (fun v9 u9 H locs hp hW => ?_)
      obtain ⟨rfl, hu9⟩ := hp
      rw [hu9] at hW
      refine W.eq (g2 := F0 m 67 ls [.int (nI (zCh tx n q)), .ref (ad (104 + b))]) rfl ?_
      refine lv_bipush (v := nI 97) hx hb dX2_readPart_67 (by decide) ?_
      refine ln_isub hx hb dX2_readPart_69 (by omega) ?_
      refine xp_number (k := b) C hW q94 (by omega) dX2_readPart_70 (fun H locs hW => ?_)
      refine lv_aload_n hx hb dX2_readPart_73 rfl (lv_at hl 1 rfl) ?_
      refine ar_callV (As := []) (rest := []) C hW (c_X5_pass hl9 (zSc sc q (b + 1)) sg S.1 S.2.1 (va_up (va_up (zN0 S.2.2.1 b) 0 (va_up ((zN0 S.2.2.1 b) 0) b (nI 1))) 2 (va_up ((va_up (zN0 S.2.2.1 b) 0 (va_up ((zN0 S.2.2.1 b) 0) b (nI 1))) 2) b (nI ((zCh tx n q) - 97)))) (zL0 S.2.2.2 b) n q hn (zSc_2 hlen) (by omega) zSc_3) (xl_at (by decide) rfl) rfl q408 q409 q410 q3 q411 hd_X5_pass ⟨by omega, by omega⟩ hl.1 (Nat.le_of_ble_eq_true rfl) rfl dX2_readPart_74 (fun _ _ _ _ _ _ hp => hp.elim) (fun v9 u9 H locs hp hW => ?_)
      obtain ⟨rfl, hu9⟩ := hp
      rw [hu9] at hW
      rw [if_pos (zCh_pos (tx := tx) (n := n) (q := q) (by omega)), zSc_p] at hW
      refine W.eq (g2 := F0 m 77 ls []) rfl ?_
      refine lv_goto (tgt := 118) hx hb dX2_readPart_77 (by decide) ?_
      refine lv_aload_n hx hb dX2_readPart_118 rfl (lv_at hl 0 rfl) ?_
      exact ar_aret C hr hW dX2_readPart_119 ((fun h66 => ⟨q + 1, .leaf (1, [zCh tx n q - 97]), b, (S.1, S.2.1, zS2 (zS0 (zN0 S.2.2.1 b) b (nI 1)) b (nI (zCh tx n q - 97)), zL0 S.2.2.2 b), by unfold zPt; rw [if_neg h1t]; unfold zLf; rw [if_pos hvk], rfl, by omega, zCh_pos (tx := tx) (by omega), Nat.le_of_eq (Nat.add_comm _ _), h66.1, h66.2.1, hso, h66.2.2, rfl⟩) (zMk0 (x := 1) (u := zCh tx n q - 97) (v := [zCh tx n q - 97]) (S1 := (S.1, S.2.1, zS2 (zS0 (zN0 S.2.2.1 b) b (nI 1)) b (nI (zCh tx n q - 97)), zL0 S.2.2.2 b)) (zO_new.tr (zO_S0.tr zO_S2)) (zNf3 (x := nI 1) (u := nI (zCh tx n q - 97))).1 (zNf3 (x := nI 1) (u := nI (zCh tx n q - 97))).2.1 (zNf3 (x := nI 1) (u := nI (zCh tx n q - 97))).2.2 (by omega) (Or.inl ⟨rfl, rfl, by omega⟩)))
  · skip
    have h1t := of_decide_eq_true h1
    rw [if_pos h1t] at hW
    have h1n : q < n := zCh_pos (by rw [h1t]; decide)
    refine lv_aload_n hx hb dX2_readPart_9 rfl (lv_at hl 0 rfl) ?_
    refine lv_aload_n hx hb dX2_readPart_10 rfl (lv_at hl 1 rfl) ?_
    refine lv_iload_n hx hb dX2_readPart_11 rfl (lv_at hl 2 rfl) ?_
    refine lv_iconst (v := nI 1) hx hb dX2_readPart_12 (by decide) ?_
    refine ln_iadd hx hb dX2_readPart_13 ?_
    refine ar_callS (As := [.ref (ad 2), .ref (ad 4), .int (nI (dp + 1))]) (rest := []) C hW (hE (S.1, S.2.1, S.2.2.1, S.2.2.2) (q + 1) b (dp + 1) (by omega) (by omega) (by omega) (hso)) q368 q369 q15 q370 hd_X2_readExpression ⟨by omega, by omega⟩ hl.1 (Nat.le_of_ble_eq_true rfl) rfl dX2_readPart_14 (fun E9 ce9 q9 u9 H locs hp hW h91 h92 h93 => ar_out C hW h91 h92 h93 (⟨hp.1, by unfold zPt; rw [if_pos h1t, hp.2.1], hp.2.2⟩)) (fun v9 u9 H locs hp hW => ?_)
    obtain ⟨q2, t2, r2, T2, he2, rfl, hlt2, hle2, hnn2, hFr2, hGd2, hso2, hRq2, hu9⟩ := hp
    rw [hu9] at hW
    refine W.eq (g2 := F0 m 17 ls [.ref (ad (104 + r2))]) rfl ?_
    refine lv_astore_n (lv' := [(3, .ref (ad (104 + r2))), (0, .ref (ad 2)), (1, .ref (ad 4)), (2, .int (nI dp))]) hx hb dX2_readPart_17 rfl hl (by decide) rfl (fun ls hl => ?_)
    refine lv_aload_n hx hb dX2_readPart_18 rfl (lv_at hl 1 rfl) ?_
    refine lv_bipush (v := nI 41) hx hb dX2_readPart_19 (by decide) ?_
    refine ar_callV (As := [.int (nI 41)]) (rest := []) C hW (c_X5_passIfNext hl9 (zSc sc q2 (b + zNN t2)) sg T2.1 T2.2.1 T2.2.2.1 T2.2.2.2 n q2 tx hn (zSc_2 hlen) (by omega) zSc_3 htx hcx 41 (by decide) (by decide)) (xl_at (by decide) rfl) rfl q419 q420 q421 q3 q422 hd_X5_passIfNext ⟨by omega, by omega⟩ hl.1 (Nat.le_of_ble_eq_true rfl) rfl dX2_readPart_21 (fun _ _ _ _ _ _ hp => hp.elim) (fun v9 u9 H locs hp hW => ?_)
    obtain ⟨rfl, hu9⟩ := hp
    rw [hu9] at hW
    rw [zSc_p] at hW
    refine W.eq (g2 := F0 m 24 ls [.int (bI (decide (zCh tx n q2 = 41)))]) rfl ?_
    refine lb_if_ne (tgt := 37) hx hb dX2_readPart_24 (by decide) (fun h4 => ?_) (fun h4 => ?_)
    · skip
      have h4t := of_decide_eq_true h4
      rw [if_pos h4t] at hW
      have h4n : q2 < n := zCh_pos (by rw [h4t]; decide)
      refine lv_aload_n hx hb dX2_readPart_37 rfl (lv_at hl 0 rfl) ?_
      exact ar_aret C hr hW dX2_readPart_38 (⟨q2 + 1, .branch 200 zD0 t2, r2, T2, by unfold zPt; rw [if_pos h1t, he2]; exact if_pos h4t, rfl, by omega, h4n, (by have h66 : zNN (.branch 200 zD0 t2) = zNN t2 := rfl; omega), hFr2, hGd2, hso2, hRq2, rfl⟩)
    · skip
      have h4t := of_decide_eq_false h4
      rw [if_neg h4t] at hW
      exact ar_throw C hW ar_X_X2_65 hl.1 dX2_readPart_27 dX2_readPart_30 dX2_readPart_31 dX2_readPart_33 dX2_readPart_36 (by omega) (by show 0 + 82 ≤ _; omega) (⟨rfl, by unfold zPt; rw [if_pos h1t, he2]; exact if_neg h4t, q2, b + zNN t2, T2, hFr2.2, hso2, rfl⟩)
