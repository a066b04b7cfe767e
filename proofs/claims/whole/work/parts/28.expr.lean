set_option maxRecDepth 20000 in
theorem ar_X_X2_31 : ar_X "ArrayText$Parser" 29 31 33 "java/lang/IllegalArgumentException" "more than an expression" := ⟨by decide +kernel, by decide +kernel, by decide +kernel, by decide +kernel, by decide +kernel, by decide +kernel, by decide +kernel, by decide +kernel⟩
set_option maxRecDepth 20000 in
theorem ar_X_X2_36 : ar_X "ArrayText$Parser" 29 36 33 "java/lang/IllegalArgumentException" "deeper than a text can be" := ⟨by decide +kernel, by decide +kernel, by decide +kernel, by decide +kernel, by decide +kernel, by decide +kernel, by decide +kernel, by decide +kernel⟩
theorem zE_f1 {c : Nat → Nat} {f q : Nat} (h0 : zFk (c q) ≠ 0) (h1 : ¬ (zFk (c q) = 6 ∨ zFk (c q) = 7)) : zE c (f + 1) q = (zE c f (q + 1)).map (fun r => (r.1, .branch (zFk (c q) * 200) zD0 r.2)) := by
  rw [zE, if_pos h0, if_neg h1]
  cases zE c f (q + 1) <;> rfl
theorem zE_f2 {c : Nat → Nat} {f q : Nat} (h0 : zFk (c q) = 6 ∨ zFk (c q) = 7) (h1 : zRd (c (q + 1)) = true) : zE c (f + 1) q = (zE c f (q + 1 + 1)).map (fun r => (r.1, .branch (zFk (c q) * 200 + c (q + 1)) zD0 r.2)) := by
  rw [zE, if_pos (by omega), if_pos h0, if_pos h1]
  show (match zE c f (q + 1 + 1) with
    | none => none
    | some r => some (r.1, Lean.RArray.branch (zFk (c q) * 200 + c (q + 1)) zD0 r.2)) = _
  cases zE c f (q + 1 + 1) <;> rfl
theorem zE_f3 {c : Nat → Nat} {f q : Nat} (h0 : zFk (c q) = 6 ∨ zFk (c q) = 7) (h1 : zRd (c (q + 1)) = false) : zE c (f + 1) q = none := by
  rw [zE, if_pos (by omega), if_pos h0, if_neg (by rw [h1]; decide)]
theorem zE_p0 {c : Nat → Nat} {f q : Nat} (h0 : zFk (c q) = 0) (h : zPt c (zE c f) q = none) : zE c (f + 1) q = none := by
  rw [zE, if_neg (fun q => q h0), h]
theorem zE_p1 {c : Nat → Nat} {f q q1 : Nat} {t1 : zTr} (h0 : zFk (c q) = 0) (h : zPt c (zE c f) q = some (q1, t1)) (hs : zSk (c q1) = 0) : zE c (f + 1) q = some (q1, .branch 0 zD0 t1) := by
  rw [zE, if_neg (fun q => q h0), h]
  exact if_pos hs
theorem zE_p2 {c : Nat → Nat} {f q q1 : Nat} {t1 : zTr} (h0 : zFk (c q) = 0) (h : zPt c (zE c f) q = some (q1, t1)) (hs : zSk (c q1) ≠ 0) : zE c (f + 1) q = (zE c f (q1 + 1)).map (fun r => (r.1, .branch (zSk (c q1) * 200 + c q1) t1 r.2)) := by
  rw [zE, if_neg (fun q => q h0), h]
  show (if zSk (c q1) = 0 then _ else _) = _
  rw [if_neg hs]
  cases zE c f (q1 + 1) <;> rfl
theorem zNN_1 {N : Nat} {l t : zTr} (h : N / 200 ≠ 1) (h8 : N / 200 < 8) : zNN (.branch N l t) = 1 + zNN t := by rw [zNN, if_neg h, if_pos h8]
theorem zNN_2 {N : Nat} {l t : zTr} (h : 8 ≤ N / 200) : zNN (.branch N l t) = 1 + zNN l + zNN t := by rw [zNN, if_neg (by omega), if_neg (by omega)]
/-- the end of an expression with a front -/
theorem zEnd_f {ad : Nat → Nat} {sc sg : Nat → Int32} {n q b q2 r2 x c N : Nat} {S S1 T2 : zXS} {t2 : zTr} {o : Option (Nat × zTr)} (ho : o = some (q2, .branch N zD0 t2)) (hq : q < q2) (hq2 : q2 ≤ n) (hnn : zNN t2 + q ≤ q2) (hO1 : zO b S S1) (hF : zFr (b + 1) S1 T2) (hG : zGd (b + 1) (b + 1 + zNN t2) T2) (hso : zSo T2.1) (hR : zRq T2 t2 (b + 1) r2)
    (h0 : S1.2.2.1 0 b = nI x) (h1 : S1.2.2.1 1 b = nI c) (h2 : S1.2.2.1 2 b = nI 0) (hc : c < 200) (hx : 4 ≤ x ∧ x ≤ 7) (hs : (x = 6 ∨ x = 7) → zSg c) (hN : N = x * 200 + c) :
    zPo ad sc sg n q b 1 S o (some (.ref (ad (104 + b)))) (zSc sc q2 (b + 1 + zNN t2), sg, T2.1, T2.2.1, T2.2.2.1, va_up T2.2.2.2 1 (va_up (T2.2.2.2 1) b (some r2))) := by
  have hN1 : N / 200 = x := by omega
  have hN2 : N % 200 = c := by omega
  have g := hF.1 b (Nat.lt_succ_self _)
  have K := zMk1 (N := N) (r := r2) (S3 := (T2.1, T2.2.1, T2.2.2.1, va_up T2.2.2.2 1 (va_up (T2.2.2.2 1) b (some r2)))) hO1 hF hG hR (zO_l (x := 1) (v := some r2)) ((g.1 0).trans h0) ((g.1 1).trans h1) (by omega) ((g.1 2).trans h2) (Or.inr ⟨hx.1, hx.2, up2_at (f := T2.2.2.2) (x := 1) (b := b) (v := some r2)⟩) hs hN1 (fun _ => hN2)
  rw [if_neg (by omega)] at K
  have e := zNN_1 (l := zD0) (t := t2) (N := N) (by omega) (by omega)
  exact ⟨q2, _, b, _, ho, rfl, hq, hq2, by omega, K.1, K.2.1, hso, K.2.2, by rw [e, ← Nat.add_assoc]; rfl⟩
/-- the end of a part alone -/
theorem zEnd_0 {ad : Nat → Nat} {sc sg : Nat → Int32} {n q b q1 r1 c : Nat} {S S1 T1 : zXS} {t1 : zTr} {o : Option (Nat × zTr)} (ho : o = some (q1, .branch 0 zD0 t1)) (hq : q < q1) (hq1 : q1 ≤ n) (hnn : zNN t1 + q ≤ q1) (hO1 : zO b S S1) (hF : zFr (b + 1) S1 T1) (hG : zGd (b + 1) (b + 1 + zNN t1) T1) (hso : zSo T1.1) (hR : zRq T1 t1 (b + 1) r1) (h2 : S1.2.2.1 2 b = nI 0) (hc : c < 200) :
    zPo ad sc sg n q b 1 S o (some (.ref (ad (104 + r1)))) (zSc sc q1 (b + 1 + zNN t1), sg, T1.1, T1.2.1, zS0 (zS1 T1.2.2.1 b (nI c)) b (nI 0), T1.2.2.2) := by
  have g := hF.1 b (Nat.lt_succ_self _)
  have e4 := zNf4 (nf := T1.2.2.1) (b := b) (x := nI 0) (y := nI c)
  have K := zMk1 (N := 0) (r := r1) (c := c) (x := 0) (S3 := (T1.1, T1.2.1, zS0 (zS1 T1.2.2.1 b (nI c)) b (nI 0), T1.2.2.2)) hO1 hF hG hR ((zO_S1 (v := nI c)).tr (zO_S0 (v := nI 0))) e4.1 e4.2.1 (by omega) (e4.2.2.trans ((g.1 2).trans h2)) (Or.inl rfl) (fun h => by omega) rfl (fun h => absurd rfl h)
  have e := zNN_1 (l := zD0) (t := t1) (N := 0) (by decide) (by decide)
  exact ⟨q1, _, r1, _, ho, rfl, hq, hq1, by omega, K.1, K.2.1, hso, K.2.2, by rw [e, ← Nat.add_assoc]; rfl⟩
/-- the end of an expression with a sign -/
theorem zEnd_2 {ad : Nat → Nat} {sc sg : Nat → Int32} {n q b q1 q2 r1 r2 x c N : Nat} {S S1 T1 S3 T2 : zXS} {t1 t2 : zTr} {o : Option (Nat × zTr)} (ho : o = some (q2, .branch N t1 t2)) (hq1 : q < q1) (hq : q1 + 1 < q2) (hq2 : q2 ≤ n) (hn1 : zNN t1 + q ≤ q1) (hn2 : zNN t2 + (q1 + 1) ≤ q2 + 1) (hO1 : zO b S S1) (hF : zFr (b + 1) S1 T1) (hG : zGd (b + 1) (b + 1 + zNN t1) T1) (hL : zRq T1 t1 (b + 1) r1) (hO2 : zO b T1 S3) (hF2 : zFr (b + 1 + zNN t1) S3 T2) (hG2 : zGd (b + 1 + zNN t1) (b + 1 + zNN t1 + zNN t2) T2) (hso : zSo T2.1) (hR : zRq T2 t2 (b + 1 + zNN t1) r2)
    (h0 : S3.2.2.1 0 b = nI x) (h1 : S3.2.2.1 1 b = nI c) (h2 : S3.2.2.1 2 b = nI 0) (hl : S3.2.2.2 0 b = some r1) (hc : c < 200) (hx : 8 ≤ x ∧ x ≤ 10) (hs : x = 8 → zSg c) (hN : N = x * 200 + c) :
    zPo ad sc sg n q b 1 S o (some (.ref (ad (104 + b)))) (zSc sc q2 (b + 1 + zNN t1 + zNN t2), sg, T2.1, T2.2.1, T2.2.2.1, va_up T2.2.2.2 1 (va_up (T2.2.2.2 1) b (some r2))) := by
  have hN1 : N / 200 = x := by omega
  have hN2 : N % 200 = c := by omega
  have g := hF2.1 b (by omega)
  have K := zMk2 (N := N) (r := r2) (S5 := (T2.1, T2.2.1, T2.2.2.1, va_up T2.2.2.2 1 (va_up (T2.2.2.2 1) b (some r2)))) hO1 hF hG hL hO2 hF2 hG2 hR (zO_l (x := 1) (v := some r2)) ((g.1 0).trans h0) ((g.1 1).trans h1) (by omega) ((g.1 2).trans h2) hx ((up2_ot (f := T2.2.2.2) (x := 1) (y := 0) (b := b) (v := some r2) (by decide)).trans ((g.2.1 0).trans hl)) (up2_at (f := T2.2.2.2) (x := 1) (b := b) (v := some r2)) hs hN1 hN2
  have e := zNN_2 (l := t1) (t := t2) (N := N) (by omega)
  exact ⟨q2, _, b, _, ho, rfl, by omega, hq2, by omega, K.1, K.2.1, hso, K.2.2, by rw [e, ← Nat.add_assoc, ← Nat.add_assoc]; rfl⟩
set_option maxHeartbeats 4000000 in
set_option maxRecDepth 100000 in
theorem c_X2_readExpression {l : Launch} (hl9 : l.stackTraces = false) {D : va_G} {ct : Nat → ClassId} {ad : Nat → Nat} (sc sg : Nat → Int32) (n : Nat) (tx : Nat → Nat) (hn : n ≤ 40) (hlen : sc 2 = nI n) (htx : ∀ j, j < n → sg j = nI (tx j)) (hcx : ∀ j, j < n → 1 ≤ tx j ∧ tx j ≤ 127) (f : Nat) (hE : zpE l D ct ad sc sg n tx f) (hP : zpP l D ct ad sc sg n tx f) (S : zXS) (q b dp : Nat) (hfd : f + 1 + dp = 41) (hq : q ≤ n) (hbq : b ≤ q) (hso : zSo S.1) : ar_M l yX2_readExpression cX2_readExpression 5 (some (.object "ArrayText$Node")) (2 * (f + 1) + 20) (100 * (f + 1) + 1000) D ct (xL ad ct) [.ref (ad 2), .ref (ad 4), .int (nI dp)] (zSc sc q b, sg, S.1, S.2.1, S.2.2.1, S.2.2.2) (zPo ad sc sg n q b 1 S (zE (zCh tx n) (f + 1) q)) (zPx sc sg S (zE (zCh tx n) (f + 1) q)) := by
  refine ar_ofW hl9 (by decide) (Nat.le_of_ble_eq_true rfl) ?_
  intro p e s m below meth c A ls C hr hnm hW hl
  have hx := C.1
  have hb := C.2.1
  have hown := C.2.2.2.1
  have hts := C.2.2.2.2.1
  have hl : lv_has ls 5 [(0, .ref (ad 2)), (1, .ref (ad 4)), (2, .int (nI dp))] := hl
  refine lv_iload_n hx hb dX2_readExpression_0 rfl (lv_at hl 2 rfl) ?_
  refine lv_bipush (v := nI 40) hx hb dX2_readExpression_1 (by decide) ?_
  refine ln_icmp_le (tgt := 16) hx hb dX2_readExpression_3 (by decide) (by omega) (by omega) (fun h1 => ?_) (fun h1 => ?_)
  · skip
    refine lv_aload_n hx hb dX2_readExpression_16 rfl (lv_at hl 1 rfl) ?_
    refine ar_callV (As := []) (rest := []) C hW (c_X6_add hl9 (zSc sc q b) sg S.1 S.2.1 S.2.2.1 S.2.2.2 b (by omega) zSc_4) (xl_at (by decide) rfl) rfl q387 q388 q389 q4 q390 hd_X6_add ⟨by omega, by omega⟩ hl.1 (Nat.le_of_ble_eq_true rfl) rfl dX2_readExpression_17 (fun E9 ce9 q9 u9 H locs hp hW h91 h92 h93 => ar_out C hW h91 h92 h93 (absurd hp.2.1 (by omega))) (fun v9 u9 H locs hp hW => ?_)
    obtain ⟨hb41, rfl, hu9⟩ := hp
    rw [hu9, zSc_c] at hW
    refine W.eq (g2 := F0 m 20 ls [.ref (ad (104 + b))]) rfl ?_
    refine lv_astore_n (lv' := [(3, .ref (ad (104 + b))), (0, .ref (ad 2)), (1, .ref (ad 4)), (2, .int (nI dp))]) hx hb dX2_readExpression_20 rfl hl (by decide) rfl (fun ls hl => ?_)
    refine lv_aload_n hx hb dX2_readExpression_21 rfl (lv_at hl 1 rfl) ?_
    refine lv_aload_n hx hb dX2_readExpression_22 rfl (lv_at hl 0 rfl) ?_
    refine ar_callS (As := [.ref (ad 2), .ref (ad (104 + b))]) (rest := []) C hW (c_X2_readFront hl9 sc sg S.1 S.2.1 (zN0 S.2.2.1 b) (zL0 S.2.2.2 b) n q (b + 1) tx hn hlen hq htx hcx b (by omega)) q398 q399 q15 q400 hd_X2_readFront ⟨by omega, by omega⟩ hl.1 (Nat.le_of_ble_eq_true rfl) rfl dX2_readExpression_23 (fun E9 ce9 q9 u9 H locs hp hW h91 h92 h93 => ar_out C hW h91 h92 h93 (⟨hp.2.2.1, zE_f3 hp.1 hp.2.1, by obtain ⟨p9, h66⟩ := hp.2.2.2; exact ⟨p9, b + 1, (S.1, S.2.1, zS0 (zN0 S.2.2.1 b) b (nI (zFk (zCh tx n q))), zL0 S.2.2.2 b), zFv.rf S, hso, h66⟩⟩)) (fun v9 u9 H locs hp hW => ?_)
    rcases hp with ⟨hk0, rfl, hu9⟩ | ⟨hk0, hk1, hqn, rfl, hu9⟩ | ⟨hk0, hk1, hqn, rfl, hu9⟩
    · skip
      rw [hu9] at hW
      refine W.eq (g2 := F0 m 26 ls [.int (bI false)]) rfl ?_
      refine lb_if_ne (tgt := 54) hx hb dX2_readExpression_26 (by decide) (fun h2 => absurd h2 (by decide)) (fun _ => ?_)
      refine lv_aload_n hx hb dX2_readExpression_29 rfl (lv_at hl 1 rfl) ?_
      refine lv_aload_n hx hb dX2_readExpression_30 rfl (lv_at hl 2 rfl) ?_
      refine lv_iload_n hx hb dX2_readExpression_31 rfl (lv_at hl 3 rfl) ?_
      refine ar_callS (As := [.ref (ad 2), .ref (ad 4), .int (nI dp)]) (rest := []) C hW (hP (S.1, S.2.1, zS0 (zN0 S.2.2.1 b) b (nI (zFk (zCh tx n q))), zL0 S.2.2.2 b) q (b + 1) dp (by omega) (by omega) (by omega) (hso)) q416 q417 q15 q418 hd_X2_readPart ⟨by omega, by omega⟩ hl.1 (Nat.le_of_ble_eq_true rfl) rfl dX2_readExpression_32 (fun E9 ce9 q9 u9 H locs hp hW h91 h92 h93 => ar_out C hW h91 h92 h93 (⟨hp.1, zE_p0 hk0 hp.2.1, hp.2.2⟩)) (fun v9 u9 H locs hp hW => ?_)
      obtain ⟨q1, t1, r1, T1, he1, rfl, hlt1, hle1, hnn1, hFr1, hGd1, hso1, hRq1, hu9⟩ := hp
      rw [hu9] at hW
      refine W.eq (g2 := F0 m 35 ls [.ref (ad (104 + r1))]) rfl ?_
      refine lv_astore (lv' := [(4, .ref (ad (104 + r1))), (3, .ref (ad (104 + b))), (0, .ref (ad 2)), (1, .ref (ad 4)), (2, .int (nI dp))]) hx hb dX2_readExpression_35 hl (by decide) rfl (fun ls hl => ?_)
      refine lv_aload_n hx hb dX2_readExpression_37 rfl (lv_at hl 2 rfl) ?_
      refine lv_aload_n hx hb dX2_readExpression_38 rfl (lv_at hl 1 rfl) ?_
      refine ar_callS (As := [.ref (ad 2), .ref (ad (104 + b))]) (rest := []) C hW (c_X2_readSign hl9 sc sg T1.1 T1.2.1 T1.2.2.1 T1.2.2.2 n q1 ((b + 1) + zNN t1) tx hn hlen hle1 htx hcx b (by omega)) q437 q438 q15 q439 hd_X2_readSign ⟨by omega, by omega⟩ hl.1 (Nat.le_of_ble_eq_true rfl) rfl dX2_readExpression_39 (fun _ _ _ _ _ _ hp => hp.elim) (fun v9 u9 H locs hp hW => ?_)
      rcases hp with ⟨hk2, rfl, hu9⟩ | ⟨hk2, hqn1, rfl, hu9⟩
      · skip
        rw [hu9, hk2] at hW
        refine W.eq (g2 := F0 m 42 ls [.int (bI false)]) rfl ?_
        refine lb_if_ne (tgt := 48) hx hb dX2_readExpression_42 (by decide) (fun h3 => absurd h3 (by decide)) (fun _ => ?_)
        refine lv_aload hx hb dX2_readExpression_45 (lv_at hl 0 rfl) ?_
        exact ar_aret C hr hW dX2_readExpression_47 (zEnd_0 (c := zCh tx n q1) (zE_p1 hk0 he1 hk2) hlt1 hle1 hnn1 (zO_new.tr zO_S0) hFr1 hGd1 hso1 hRq1 (zNf2 (nf := S.2.2.1) (b := b) (x := nI (zFk (zCh tx n q)))).2.2 (by have := zCh_lt (q := q1) hcx; omega))
      · skip
        rw [hu9] at hW
        refine W.eq (g2 := F0 m 42 ls [.int (bI true)]) rfl ?_
        refine lb_if_ne (tgt := 48) hx hb dX2_readExpression_42 (by decide) (fun _ => ?_) (fun h4 => absurd h4 (by decide))
        refine lv_aload_n hx hb dX2_readExpression_48 rfl (lv_at hl 1 rfl) ?_
        refine lv_aload hx hb dX2_readExpression_49 (lv_at hl 0 rfl) ?_
        refine xp_left (k := b) (v := some r1) C hW q96 (by omega) dX2_readExpression_51 (fun H locs hW => ?_)
        refine lv_aload_n hx hb dX2_readExpression_54 rfl (lv_at hl 1 rfl) ?_
        refine lv_aload_n hx hb dX2_readExpression_55 rfl (lv_at hl 2 rfl) ?_
        refine lv_aload_n hx hb dX2_readExpression_56 rfl (lv_at hl 3 rfl) ?_
        refine lv_iload_n hx hb dX2_readExpression_57 rfl (lv_at hl 4 rfl) ?_
        refine lv_iconst (v := nI 1) hx hb dX2_readExpression_58 (by decide) ?_
        refine ln_iadd hx hb dX2_readExpression_59 ?_
        refine ar_callS (As := [.ref (ad 2), .ref (ad 4), .int (nI (dp + 1))]) (rest := [.ref (ad (104 + b))]) C hW (hE (T1.1, T1.2.1, zS0 (zS1 T1.2.2.1 b (nI (zCh tx n q1))) b (nI (zSk (zCh tx n q1))), va_up T1.2.2.2 0 (va_up (T1.2.2.2 0) b (some r1))) (q1 + 1) ((b + 1) + zNN t1) (dp + 1) (by omega) (by omega) (by omega) (hso1)) q368 q369 q15 q370 hd_X2_readExpression ⟨by omega, by omega⟩ hl.1 (Nat.le_of_ble_eq_true rfl) rfl dX2_readExpression_60 (fun E9 ce9 q9 u9 H locs hp hW h91 h92 h93 => ar_out C hW h91 h92 h93 (⟨hp.1, by rw [zE_p2 hk0 he1 hk2, hp.2.1]; rfl, by obtain ⟨p9, b9, T9, h66, h67, h68⟩ := hp.2.2; exact ⟨p9, b9, T9, hFr1.2.tr h66, h67, h68⟩⟩)) (fun v9 u9 H locs hp hW => ?_)
        obtain ⟨q2, t2, r2, T2, he2, rfl, hlt2, hle2, hnn2, hFr2, hGd2, hso2, hRq2, hu9⟩ := hp
        rw [hu9] at hW
        refine W.eq (g2 := F0 m 63 ls [.ref (ad (104 + r2)), .ref (ad (104 + b))]) rfl ?_
        refine xp_right (k := b) (v := some r2) C hW q100 (by omega) dX2_readExpression_63 (fun H locs hW => ?_)
        refine lv_aload_n hx hb dX2_readExpression_66 rfl (lv_at hl 1 rfl) ?_
        exact ar_aret C hr hW dX2_readExpression_67 (zEnd_2 (x := zSk (zCh tx n q1)) (c := zCh tx n q1) (by rw [zE_p2 hk0 he1 hk2, he2]; rfl) hlt1 hlt2 hle2 hnn1 hnn2 (zO_new.tr zO_S0) hFr1 hGd1 hRq1 (zO_S1.tr (zO_S0.tr (zO_l (x := 0) (v := some r1)))) hFr2 hGd2 hso2 hRq2 (zNf4 (nf := T1.2.2.1) (b := b) (x := nI (zSk (zCh tx n q1))) (y := nI (zCh tx n q1))).1 (zNf4 (nf := T1.2.2.1) (b := b) (x := nI (zSk (zCh tx n q1))) (y := nI (zCh tx n q1))).2.1 ((zNf4 (nf := T1.2.2.1) (b := b) (x := nI (zSk (zCh tx n q1))) (y := nI (zCh tx n q1))).2.2.trans (((hFr1.1 b (Nat.lt_succ_self _)).1 2).trans (zNf2 (nf := S.2.2.1) (b := b) (x := nI (zFk (zCh tx n q)))).2.2)) (up2_at (f := T1.2.2.2) (x := 0) (b := b) (v := some r1)) (by have := zCh_lt (q := q1) hcx; omega) ⟨zSk_ge hk2, zSk_lt _⟩ zSk_sg rfl)
    · skip
      rw [hu9] at hW
      refine W.eq (g2 := F0 m 26 ls [.int (bI true)]) rfl ?_
      refine lb_if_ne (tgt := 54) hx hb dX2_readExpression_26 (by decide) (fun _ => ?_) (fun h5 => absurd h5 (by decide))
      refine lv_aload_n hx hb dX2_readExpression_54 rfl (lv_at hl 0 rfl) ?_
      refine lv_aload_n hx hb dX2_readExpression_55 rfl (lv_at hl 1 rfl) ?_
      refine lv_aload_n hx hb dX2_readExpression_56 rfl (lv_at hl 2 rfl) ?_
      refine lv_iload_n hx hb dX2_readExpression_57 rfl (lv_at hl 3 rfl) ?_
      refine lv_iconst (v := nI 1) hx hb dX2_readExpression_58 (by decide) ?_
      refine ln_iadd hx hb dX2_readExpression_59 ?_
      refine ar_callS (As := [.ref (ad 2), .ref (ad 4), .int (nI (dp + 1))]) (rest := [.ref (ad (104 + b))]) C hW (hE (S.1, S.2.1, zS0 (zN0 S.2.2.1 b) b (nI (zFk (zCh tx n q))), zL0 S.2.2.2 b) (q + 1) (b + 1) (dp + 1) (by omega) (by omega) (by omega) (hso)) q368 q369 q15 q370 hd_X2_readExpression ⟨by omega, by omega⟩ hl.1 (Nat.le_of_ble_eq_true rfl) rfl dX2_readExpression_60 (fun E9 ce9 q9 u9 H locs hp hW h91 h92 h93 => ar_out C hW h91 h92 h93 (⟨hp.1, by rw [zE_f1 hk0 hk1, hp.2.1]; rfl, hp.2.2⟩)) (fun v9 u9 H locs hp hW => ?_)
      obtain ⟨q2, t2, r2, T2, he2, rfl, hlt2, hle2, hnn2, hFr2, hGd2, hso2, hRq2, hu9⟩ := hp
      rw [hu9] at hW
      refine W.eq (g2 := F0 m 63 ls [.ref (ad (104 + r2)), .ref (ad (104 + b))]) rfl ?_
      refine xp_right (k := b) (v := some r2) C hW q100 (by omega) dX2_readExpression_63 (fun H locs hW => ?_)
      refine lv_aload_n hx hb dX2_readExpression_66 rfl (lv_at hl 0 rfl) ?_
      exact ar_aret C hr hW dX2_readExpression_67 (zEnd_f (x := zFk (zCh tx n q)) (c := 0) (by rw [zE_f1 hk0 hk1, he2]; rfl) (by omega) hle2 (by omega) (zO_new.tr zO_S0) hFr2 hGd2 hso2 hRq2 (zNf2 (nf := S.2.2.1) (b := b) (x := nI (zFk (zCh tx n q)))).1 (zNf2 (nf := S.2.2.1) (b := b) (x := nI (zFk (zCh tx n q)))).2.1 (zNf2 (nf := S.2.2.1) (b := b) (x := nI (zFk (zCh tx n q)))).2.2 (by decide) ⟨zFk_ge hk0, zFk_lt _⟩ (fun h77 => absurd h77 hk1) rfl)
    · skip
      rw [hu9] at hW
      have hqn2 : q + 1 < n := zCh_pos (tx := tx) (by intro h77; rw [h77] at hk1; cases hk1)
      refine W.eq (g2 := F0 m 26 ls [.int (bI true)]) rfl ?_
      refine lb_if_ne (tgt := 54) hx hb dX2_readExpression_26 (by decide) (fun _ => ?_) (fun h6 => absurd h6 (by decide))
      refine lv_aload_n hx hb dX2_readExpression_54 rfl (lv_at hl 0 rfl) ?_
      refine lv_aload_n hx hb dX2_readExpression_55 rfl (lv_at hl 1 rfl) ?_
      refine lv_aload_n hx hb dX2_readExpression_56 rfl (lv_at hl 2 rfl) ?_
      refine lv_iload_n hx hb dX2_readExpression_57 rfl (lv_at hl 3 rfl) ?_
      refine lv_iconst (v := nI 1) hx hb dX2_readExpression_58 (by decide) ?_
      refine ln_iadd hx hb dX2_readExpression_59 ?_
      refine ar_callS (As := [.ref (ad 2), .ref (ad 4), .int (nI (dp + 1))]) (rest := [.ref (ad (104 + b))]) C hW (hE (S.1, S.2.1, zS1 (zS0 (zN0 S.2.2.1 b) b (nI (zFk (zCh tx n q)))) b (nI (zCh tx n (q + 1))), zL0 S.2.2.2 b) (q + 1 + 1) (b + 1) (dp + 1) (by omega) (by omega) (by omega) (hso)) q368 q369 q15 q370 hd_X2_readExpression ⟨by omega, by omega⟩ hl.1 (Nat.le_of_ble_eq_true rfl) rfl dX2_readExpression_60 (fun E9 ce9 q9 u9 H locs hp hW h91 h92 h93 => ar_out C hW h91 h92 h93 (⟨hp.1, by rw [zE_f2 hk0 hk1, hp.2.1]; rfl, hp.2.2⟩)) (fun v9 u9 H locs hp hW => ?_)
      obtain ⟨q2, t2, r2, T2, he2, rfl, hlt2, hle2, hnn2, hFr2, hGd2, hso2, hRq2, hu9⟩ := hp
      rw [hu9] at hW
      refine W.eq (g2 := F0 m 63 ls [.ref (ad (104 + r2)), .ref (ad (104 + b))]) rfl ?_
      refine xp_right (k := b) (v := some r2) C hW q100 (by omega) dX2_readExpression_63 (fun H locs hW => ?_)
      refine lv_aload_n hx hb dX2_readExpression_66 rfl (lv_at hl 0 rfl) ?_
      exact ar_aret C hr hW dX2_readExpression_67 (zEnd_f (x := zFk (zCh tx n q)) (c := zCh tx n (q + 1)) (by rw [zE_f2 hk0 hk1, he2]; rfl) (by omega) hle2 (by omega) (zO_new.tr (zO_S0.tr zO_S1)) hFr2 hGd2 hso2 hRq2 (zNf1 (nf := S.2.2.1) (b := b) (x := nI (zFk (zCh tx n q))) (y := nI (zCh tx n (q + 1)))).1 (zNf1 (nf := S.2.2.1) (b := b) (x := nI (zFk (zCh tx n q))) (y := nI (zCh tx n (q + 1)))).2.1 (zNf1 (nf := S.2.2.1) (b := b) (x := nI (zFk (zCh tx n q))) (y := nI (zCh tx n (q + 1)))).2.2 (by have := zCh_lt (q := q + 1) hcx; omega) ⟨by omega, by omega⟩ (fun _ => zRd_sg hk1) rfl)
  · skip
    exfalso; omega
set_option maxHeartbeats 4000000 in
set_option maxRecDepth 100000 in
theorem c_X2_readExpression0 {l : Launch} (hl9 : l.stackTraces = false) {D : va_G} {ct : Nat → ClassId} {ad : Nat → Nat} (sc sg : Nat → Int32) (n : Nat) (tx : Nat → Nat) (hn : n ≤ 40) (hlen : sc 2 = nI n) (htx : ∀ j, j < n → sg j = nI (tx j)) (hcx : ∀ j, j < n → 1 ≤ tx j ∧ tx j ≤ 127) (S : zXS) (q b dp : Nat) (hfd : 0 + dp = 41) (hq : q ≤ n) (hbq : b ≤ q) (hso : zSo S.1) : ar_M l yX2_readExpression cX2_readExpression 5 (some (.object "ArrayText$Node")) (2 * 0 + 20) (100 * 0 + 1000) D ct (xL ad ct) [.ref (ad 2), .ref (ad 4), .int (nI dp)] (zSc sc q b, sg, S.1, S.2.1, S.2.2.1, S.2.2.2) (zPo ad sc sg n q b 1 S (zE (zCh tx n) 0 q)) (zPx sc sg S (zE (zCh tx n) 0 q)) := by
  refine ar_ofW hl9 (by decide) (Nat.le_of_ble_eq_true rfl) ?_
  intro p e s m below meth c A ls C hr hnm hW hl
  have hx := C.1
  have hb := C.2.1
  have hown := C.2.2.2.1
  have hts := C.2.2.2.2.1
  have hl : lv_has ls 5 [(0, .ref (ad 2)), (1, .ref (ad 4)), (2, .int (nI dp))] := hl
  refine lv_iload_n hx hb dX2_readExpression_0 rfl (lv_at hl 2 rfl) ?_
  refine lv_bipush (v := nI 40) hx hb dX2_readExpression_1 (by decide) ?_
  refine ln_icmp_le (tgt := 16) hx hb dX2_readExpression_3 (by decide) (by omega) (by omega) (fun h1 => ?_) (fun h1 => ?_)
  · skip
    exfalso; omega
  · skip
    exact ar_throw C hW ar_X_X2_36 hl.1 dX2_readExpression_6 dX2_readExpression_9 dX2_readExpression_10 dX2_readExpression_12 dX2_readExpression_15 (by omega) (by show 0 + 82 ≤ _; omega) (⟨rfl, rfl, q, b, S, zFv.rf S, hso, rfl⟩)
theorem zpE_all {l : Launch} (hl9 : l.stackTraces = false) {D : va_G} {ct : Nat → ClassId} {ad : Nat → Nat} (sc sg : Nat → Int32) (n : Nat) (tx : Nat → Nat) (hn : n ≤ 40) (hlen : sc 2 = nI n) (htx : ∀ j, j < n → sg j = nI (tx j)) (hcx : ∀ j, j < n → 1 ≤ tx j ∧ tx j ≤ 127) : ∀ f, zpE l D ct ad sc sg n tx f := by
  intro f
  induction f with
  | zero => exact fun S q b dp h1 h2 h3 h4 => c_X2_readExpression0 hl9 sc sg n tx hn hlen htx hcx S q b dp h1 h2 h3 h4
  | succ f ih => exact fun S q b dp h1 h2 h3 h4 => c_X2_readExpression hl9 sc sg n tx hn hlen htx hcx f ih (fun S q b dp g1 g2 g3 g4 => c_X2_readPart hl9 sc sg n tx hn hlen htx hcx f ih S q b dp g1 g2 g3 g4) S q b dp h1 h2 h3 h4
theorem hd_X2_readWhole : yX2_readWhole.cls ≠ "java/lang/invoke/MethodHandle" ∧ yX2_readWhole.cls ≠ "java/lang/invoke/VarHandle" ∧ (parseMethodDescriptor yX2_readWhole.desc).map (fun d => d.parameters.length) = some 2 := by decide +kernel
set_option maxHeartbeats 4000000 in
set_option maxRecDepth 100000 in
theorem c_X2_readWhole {l : Launch} (hl9 : l.stackTraces = false) {D : va_G} {ct : Nat → ClassId} {ad : Nat → Nat} (sc sg sh : Nat → Int32) (el : Nat → Nat → UInt64) (nf : Nat → Nat → Int32) (lr : Nat → Nat → Option Nat) (n : Nat) (tx : Nat → Nat) (hn : n ≤ 40) (hlen : sc 2 = nI n) (htx : ∀ j, j < n → sg j = nI (tx j)) (hcx : ∀ j, j < n → 1 ≤ tx j ∧ tx j ≤ 127) (hso : zSo sh) : ar_M l yX2_readWhole cX2_readWhole 3 (some (.object "ArrayText$Node")) 103 5124 D ct (xL ad ct) [.ref (ad 2), .ref (ad 4)] (sc, sg, sh, el, nf, lr) (fun v9 u9 => ∃ (t : zTr) (r : Nat) (T : zXS), zE (zCh tx n) 41 0 = some (n, t) ∧ v9 = some (.ref (ad (104 + r))) ∧ zNN t ≤ 41 ∧ zFv (sh, el, nf, lr) T ∧ zGd 0 (zNN t) T ∧ zSo T.1 ∧ zRq T t 0 r ∧ ∃ p9 : Nat, u9 = zSt sc sg p9 (zNN t) T) (fun E9 u9 => E9 = IAE ∧ (match zE (zCh tx n) 41 0 with | none => True | some r => r.1 ≠ n) ∧ ∃ (p9 b9 : Nat) (T : zXS), zFv (sh, el, nf, lr) T ∧ zSo T.1 ∧ u9 = zSt sc sg p9 b9 T) := by
  refine ar_ofW hl9 (by decide) (Nat.le_of_ble_eq_true rfl) ?_
  intro p e s m below meth c A ls C hr hnm hW hl
  have hx := C.1
  have hb := C.2.1
  have hown := C.2.2.2.1
  have hts := C.2.2.2.2.1
  have hl : lv_has ls 3 [(0, .ref (ad 2)), (1, .ref (ad 4))] := hl
  refine lv_aload_n hx hb dX2_readWhole_0 rfl (lv_at hl 0 rfl) ?_
  refine ar_callV (As := []) (rest := []) C hW (c_X5_startReading hl9 sc sg sh el nf lr) (xl_at (by decide) rfl) rfl q360 q361 q362 q3 q363 hd_X5_startReading ⟨Nat.le_of_ble_eq_true rfl, Nat.le_of_ble_eq_true rfl⟩ hl.1 (Nat.le_of_ble_eq_true rfl) rfl dX2_readWhole_1 (fun _ _ _ _ _ _ hp => hp.elim) (fun v9 u9 H locs hp hW => ?_)
  obtain ⟨rfl, hu9⟩ := hp
  rw [hu9] at hW
  refine W.eq (g2 := F0 m 4 ls []) rfl ?_
  refine lv_aload_n hx hb dX2_readWhole_4 rfl (lv_at hl 1 rfl) ?_
  refine ar_callV (As := []) (rest := []) C hW (c_X6_clear hl9 (va_up sc 3 (nI 0)) sg sh el nf lr) (xl_at (by decide) rfl) rfl q364 q365 q366 q4 q367 hd_X6_clear ⟨Nat.le_of_ble_eq_true rfl, Nat.le_of_ble_eq_true rfl⟩ hl.1 (Nat.le_of_ble_eq_true rfl) rfl dX2_readWhole_5 (fun _ _ _ _ _ _ hp => hp.elim) (fun v9 u9 H locs hp hW => ?_)
  obtain ⟨rfl, hu9⟩ := hp
  rw [hu9] at hW
  refine W.eq (g2 := F0 m 8 ls []) rfl ?_
  have hW : ar_W D A s.heap H locs (xL ad ct (zSc sc 0 0, sg, sh, el, nf, lr)) := hW
  refine lv_aload_n hx hb dX2_readWhole_8 rfl (lv_at hl 0 rfl) ?_
  refine lv_aload_n hx hb dX2_readWhole_9 rfl (lv_at hl 1 rfl) ?_
  refine lv_iconst (v := nI 0) hx hb dX2_readWhole_10 (by decide) ?_
  refine ar_callS (As := [.ref (ad 2), .ref (ad 4), .int (nI 0)]) (rest := []) C hW (zpE_all hl9 sc sg n tx hn hlen htx hcx 41 (sh, el, nf, lr) 0 0 0 rfl (by omega) (Nat.le_refl _) hso) q368 q369 q15 q370 hd_X2_readExpression ⟨Nat.le_of_ble_eq_true rfl, Nat.le_of_ble_eq_true rfl⟩ hl.1 (Nat.le_of_ble_eq_true rfl) rfl dX2_readWhole_11 (fun E9 ce9 q9 u9 H locs hp hW h91 h92 h93 => ar_out C hW h91 h92 h93 (⟨hp.1, by rw [hp.2.1]; trivial, hp.2.2⟩)) (fun v9 u9 H locs hp hW => ?_)
  obtain ⟨q2, t2, r2, T2, he2, rfl, hlt2, hle2, hnn2, hFr2, hGd2, hso2, hRq2, hu9⟩ := hp
  rw [hu9] at hW
  refine W.eq (g2 := F0 m 14 ls [.ref (ad (104 + r2))]) rfl ?_
  refine lv_astore_n (lv' := [(2, .ref (ad (104 + r2))), (0, .ref (ad 2)), (1, .ref (ad 4))]) hx hb dX2_readWhole_14 rfl hl (by decide) rfl (fun ls hl => ?_)
  refine lv_aload_n hx hb dX2_readWhole_15 rfl (lv_at hl 1 rfl) ?_
  refine ar_callV (As := []) (rest := []) C hW (c_X5_next hl9 (zSc sc q2 (0 + zNN t2)) sg T2.1 T2.2.1 T2.2.2.1 T2.2.2.2 n q2 tx hn (zSc_2 hlen) (hle2) zSc_3 htx hcx) (xl_at (by decide) rfl) rfl q401 q402 q403 q3 q404 hd_X5_next ⟨Nat.le_of_ble_eq_true rfl, Nat.le_of_ble_eq_true rfl⟩ hl.1 (Nat.le_of_ble_eq_true rfl) rfl dX2_readWhole_16 (fun _ _ _ _ _ _ hp => hp.elim) (fun v9 u9 H locs hp hW => ?_)
  obtain ⟨rfl, hu9⟩ := hp
  rw [hu9] at hW
  refine W.eq (g2 := F0 m 19 ls [.int (nI (zCh tx n q2))]) rfl ?_
  refine ln_if_eq (tgt := 32) hx hb dX2_readWhole_19 (by decide) (by have := zCh_lt (q := q2) hcx; omega) (fun h1 => ?_) (fun h1 => ?_)
  · skip
    refine lv_aload_n hx hb dX2_readWhole_32 rfl (lv_at hl 0 rfl) ?_
    exact ar_aret C hr hW dX2_readWhole_33 (⟨t2, r2, T2, by rw [he2, show q2 = n from (Nat.le_antisymm hle2 (Nat.not_lt.mp fun h77 => by rw [zCh_in h77] at h1; have := hcx q2 h77; omega))], rfl, by omega, hFr2.2, by have h78 := hGd2; rw [Nat.zero_add] at h78; exact h78, hso2, hRq2, q2, by rw [Nat.zero_add]; rfl⟩)
  · skip
    exact ar_throw C hW ar_X_X2_31 hl.1 dX2_readWhole_22 dX2_readWhole_25 dX2_readWhole_26 dX2_readWhole_28 dX2_readWhole_31 (Nat.le_of_ble_eq_true rfl) (Nat.le_of_ble_eq_true rfl) (⟨rfl, by rw [he2]; exact fun h77 => h1 (zCh_out (Nat.le_of_eq h77.symm)), _, _, T2, hFr2.2, hso2, rfl⟩)
