set_option maxRecDepth 20000 in
theorem ar_X_X2_105 : ar_X "ArrayText$Parser" 29 105 33 "java/lang/IllegalArgumentException" "no part or number" := ⟨by decide +kernel, by decide +kernel, by decide +kernel, by decide +kernel, by decide +kernel, by decide +kernel, by decide +kernel, by decide +kernel⟩
set_option maxRecDepth 20000 in
theorem ar_X_X2_119 : ar_X "ArrayText$Parser" 29 119 33 "java/lang/IllegalArgumentException" "no sign to reduce or run by" := ⟨by decide +kernel, by decide +kernel, by decide +kernel, by decide +kernel, by decide +kernel, by decide +kernel, by decide +kernel, by decide +kernel⟩
def zSc (sc : Nat → Int32) (q b : Nat) : Nat → Int32 := va_up (va_up sc 3 (nI q)) 4 (nI b)
theorem zSc_3 {sc : Nat → Int32} {q b : Nat} : zSc sc q b 3 = nI q := rfl
theorem zSc_4 {sc : Nat → Int32} {q b : Nat} : zSc sc q b 4 = nI b := rfl
theorem zSc_2 {sc : Nat → Int32} {q b n : Nat} (h : sc 2 = nI n) : zSc sc q b 2 = nI n := h
theorem zSc_p {sc : Nat → Int32} {q b p : Nat} : va_up (zSc sc q b) 3 (nI p) = zSc sc p b := by
  funext i
  unfold zSc va_up
  by_cases h : i = 3
  · rw [if_pos h, if_neg (by omega), if_pos h]
  · rw [if_neg h]
    by_cases h2 : i = 4
    · rw [if_pos h2, if_pos h2]
    · rw [if_neg h2, if_neg h2, if_neg h, if_neg h]
theorem zSc_c {sc : Nat → Int32} {q b p : Nat} : va_up (zSc sc q b) 4 (nI p) = zSc sc q p := by
  funext i
  unfold zSc va_up
  by_cases h : i = 4
  · rw [if_pos h, if_pos h]
  · rw [if_neg h, if_neg h, if_neg h]
theorem zDr_c {c : Nat → Nat} {d p : Nat} (hd : d < 4) (h : zDg (c p) = true) : zDr c (4 - d) p = 1 + zDr c (4 - (d + 1)) (p + 1) := by
  rw [show 4 - d = (4 - (d + 1)) + 1 by omega, zDr, if_pos h]
theorem zDr_x {c : Nat → Nat} {k p : Nat} (h : zDg (c p) = false) : zDr c k p = 0 := by
  cases k with
  | zero => rfl
  | succ k => rw [zDr, if_neg (by rw [h]; decide)]
theorem zFk_lt (c : Nat) : zFk c ≤ 7 := by unfold zFk; (repeat' split) <;> omega
theorem zSk_lt (c : Nat) : zSk c ≤ 10 := by unfold zSk; (repeat' split) <;> omega
theorem zFk_0 {c : Nat} (h : zFk c ≠ 0) : c ≠ 0 := fun q => h (by rw [q]; rfl)
theorem zSk_0 {c : Nat} (h : zSk c ≠ 0) : c ≠ 0 := fun q => h (by rw [q]; rfl)
def zS0 (nf : Nat → Nat → Int32) (k : Nat) (v : Int32) : Nat → Nat → Int32 := va_up nf 0 (va_up (nf 0) k v)
def zS1 (nf : Nat → Nat → Int32) (k : Nat) (v : Int32) : Nat → Nat → Int32 := va_up nf 1 (va_up (nf 1) k v)
def zS2 (nf : Nat → Nat → Int32) (k : Nat) (v : Int32) : Nat → Nat → Int32 := va_up nf 2 (va_up (nf 2) k v)
theorem hd_X2_readNumber : yX2_readNumber.cls ≠ "java/lang/invoke/MethodHandle" ∧ yX2_readNumber.cls ≠ "java/lang/invoke/VarHandle" ∧ (parseMethodDescriptor yX2_readNumber.desc).map (fun d => d.parameters.length) = some 1 := by decide +kernel
set_option maxHeartbeats 4000000 in
set_option maxRecDepth 100000 in
theorem c_X2_readNumber {l : Launch} (hl9 : l.stackTraces = false) {D : va_G} {ct : Nat → ClassId} {ad : Nat → Nat} (sc sg sh : Nat → Int32) (el : Nat → Nat → UInt64) (nf : Nat → Nat → Int32) (lr : Nat → Nat → Option Nat) (n q b : Nat) (tx : Nat → Nat) (hn : n ≤ 40) (hlen : sc 2 = nI n) (hq : q ≤ n) (htx : ∀ j, j < n → sg j = nI (tx j)) (hcx : ∀ j, j < n → 1 ≤ tx j ∧ tx j ≤ 127) : ar_M l yX2_readNumber cX2_readNumber 3 (some .int) 6 90 D ct (xL ad ct) [.ref (ad 2)] (zSc sc q b, sg, sh, el, nf, lr) (fun v9 u9 => zDr (zCh tx n) 4 q ≠ 0 ∧ v9 = some (.int (nI (zNm (zCh tx n) q (zDr (zCh tx n) 4 q)))) ∧ u9 = (zSc sc (q + zDr (zCh tx n) 4 q) b, sg, sh, el, nf, lr)) (fun E9 u9 => zDr (zCh tx n) 4 q = 0 ∧ E9 = IAE ∧ u9 = (zSc sc q b, sg, sh, el, nf, lr)) := by
  refine ar_ofW hl9 (by decide) (Nat.le_of_ble_eq_true rfl) ?_
  intro p e s m below meth c A ls C hr hnm hW hl
  have hx := C.1
  have hb := C.2.1
  have hown := C.2.2.2.1
  have hts := C.2.2.2.2.1
  have hl : lv_has ls 3 [(0, .ref (ad 2))] := hl
  refine lv_iconst (v := nI 0) hx hb dX2_readNumber_0 (by decide) ?_
  refine lv_istore_n (lv' := [(1, .int (nI 0)), (0, .ref (ad 2))]) hx hb dX2_readNumber_1 rfl hl (by decide) rfl (fun ls hl => ?_)
  refine lv_iconst (v := nI 0) hx hb dX2_readNumber_2 (by decide) ?_
  refine lv_istore_n (lv' := [(2, .int (nI 0)), (1, .int (nI 0)), (0, .ref (ad 2))]) hx hb dX2_readNumber_3 rfl hl (by decide) rfl (fun ls hl => ?_)
  have lp : ∀ (N9 : Nat) (d : Nat) (H : Heap) (locs : List Loc) (ls : Array Slot), 4 - d < N9 → (d ≤ 4) → (zDr (zCh tx n) 4 q = d + zDr (zCh tx n) (4 - d) (q + d)) → (q + d ≤ n) → ar_W D A s.heap H locs (xL ad ct (zSc sc (q + d) b, sg, sh, el, nf, lr)) → lv_has ls 3 [(0, .ref (ad 2)), (1, .int (nI (zNm (zCh tx n) q d))), (2, .int (nI d))] → W p l e (ar_rm 6 90) s m [.ref (ad 2)].toArray below meth c H locs 0 0 (ar_E below (ar_Q D ct (xL ad ct) A (fun v9 u9 => zDr (zCh tx n) 4 q ≠ 0 ∧ v9 = some (.int (nI (zNm (zCh tx n) q (zDr (zCh tx n) 4 q)))) ∧ u9 = (zSc sc (q + zDr (zCh tx n) 4 q) b, sg, sh, el, nf, lr)) (fun E9 u9 => zDr (zCh tx n) 4 q = 0 ∧ E9 = IAE ∧ u9 = (zSc sc q b, sg, sh, el, nf, lr))) [.ref (ad 2)].toArray s) (F0 m 4 ls []) := by
    intro N9
    induction N9 with
    | zero =>
      intro d H locs ls hN9
      exact absurd hN9 (Nat.not_lt_zero _)
    | succ N9 ihlp =>
      intro d H locs ls hN9 hd hz hqd hW hl
      refine lv_iload_n hx hb dX2_readNumber_4 rfl (lv_at hl 2 rfl) ?_
      refine lv_iconst (v := nI 4) hx hb dX2_readNumber_5 (by decide) ?_
      refine ln_icmp_ge (tgt := 42) hx hb dX2_readNumber_6 (by decide) (by omega) (by omega) (fun h1 => ?_) (fun h1 => ?_)
      · skip
        refine lv_iload_n hx hb dX2_readNumber_42 rfl (lv_at hl 2 rfl) ?_
        refine ln_if_ne (tgt := 56) hx hb dX2_readNumber_43 (by decide) (by omega) (fun h2 => ?_) (fun h2 => ?_)
        · skip
          refine lv_iload_n hx hb dX2_readNumber_56 rfl (lv_at hl 1 rfl) ?_
          exact ar_iret C hr hW dX2_readNumber_57 ((fun hz9 : zDr (zCh tx n) 4 q = d => ⟨by rw [hz9]; exact h2, by rw [hz9], by rw [hz9]⟩) (by rw [hz, show 4 - d = 0 by omega]; rfl))
        · skip
          exact ar_throw C hW ar_X_X2_105 hl.1 dX2_readNumber_46 dX2_readNumber_49 dX2_readNumber_50 dX2_readNumber_52 dX2_readNumber_55 (Nat.le_of_ble_eq_true rfl) (Nat.le_of_ble_eq_true rfl) ((fun hz9 : zDr (zCh tx n) 4 q = d => ⟨by rw [hz9]; exact h2, rfl, by rw [h2]; rfl⟩) (by rw [hz, show 4 - d = 0 by omega]; rfl))
      · skip
        refine lv_aload_n hx hb dX2_readNumber_9 rfl (lv_at hl 0 rfl) ?_
        refine ar_callV (As := []) (rest := []) C hW (c_X5_next hl9 (zSc sc (q + d) b) sg sh el nf lr n (q + d) tx hn (zSc_2 hlen) (by omega) zSc_3 htx hcx) (xl_at (by decide) rfl) rfl q401 q402 q403 q3 q404 hd_X5_next ⟨Nat.le_of_ble_eq_true rfl, Nat.le_of_ble_eq_true rfl⟩ hl.1 (Nat.le_of_ble_eq_true rfl) rfl dX2_readNumber_10 (fun _ _ _ _ _ _ hp => hp.elim) (fun v9 u9 H locs hp hW => ?_)
        obtain ⟨rfl, hu9⟩ := hp
        rw [hu9] at hW
        refine W.eq (g2 := F0 m 13 ls [.int (nI (zCh tx n (q + d)))]) rfl ?_
        refine ar_callS (As := [.int (nI (zCh tx n (q + d)))]) (rest := []) C hW (c_X2_isDigit hl9 _ (zCh tx n (q + d)) (by have := zCh_lt (q := q + d) hcx; omega)) q430 q431 q15 q432 hd_X2_isDigit ⟨Nat.le_of_ble_eq_true rfl, Nat.le_of_ble_eq_true rfl⟩ hl.1 (Nat.le_of_ble_eq_true rfl) rfl dX2_readNumber_13 (fun _ _ _ _ _ _ hp => hp.elim) (fun v9 u9 H locs hp hW => ?_)
        obtain ⟨rfl, hu9⟩ := hp
        rw [hu9] at hW
        refine W.eq (g2 := F0 m 16 ls [.int (bI (zDg (zCh tx n (q + d))))]) rfl ?_
        refine lb_if_eq (tgt := 42) hx hb dX2_readNumber_16 (by decide) (fun h3 => ?_) (fun h3 => ?_)
        · skip
          refine lv_iload_n hx hb dX2_readNumber_42 rfl (lv_at hl 2 rfl) ?_
          refine ln_if_ne (tgt := 56) hx hb dX2_readNumber_43 (by decide) (by omega) (fun h4 => ?_) (fun h4 => ?_)
          · skip
            refine lv_iload_n hx hb dX2_readNumber_56 rfl (lv_at hl 1 rfl) ?_
            exact ar_iret C hr hW dX2_readNumber_57 ((fun hz9 : zDr (zCh tx n) 4 q = d => ⟨by rw [hz9]; exact h4, by rw [hz9], by rw [hz9]⟩) (by rw [hz, zDr_x h3]; rfl))
          · skip
            exact ar_throw C hW ar_X_X2_105 hl.1 dX2_readNumber_46 dX2_readNumber_49 dX2_readNumber_50 dX2_readNumber_52 dX2_readNumber_55 (Nat.le_of_ble_eq_true rfl) (Nat.le_of_ble_eq_true rfl) ((fun hz9 : zDr (zCh tx n) 4 q = d => ⟨by rw [hz9]; exact h4, rfl, by rw [h4]; rfl⟩) (by rw [hz, zDr_x h3]; rfl))
        · skip
          have hin : q + d < n := zCh_pos (tx := tx) (by have := (zDg_iff.mp h3).1; omega)
          have hdig := h3
          refine lv_iload_n hx hb dX2_readNumber_19 rfl (lv_at hl 1 rfl) ?_
          refine lv_bipush (v := nI 10) hx hb dX2_readNumber_20 (by decide) ?_
          refine ln_imul hx hb dX2_readNumber_22 ?_
          refine lv_aload_n hx hb dX2_readNumber_23 rfl (lv_at hl 0 rfl) ?_
          refine ar_callV (As := []) (rest := [.int (nI ((zNm (zCh tx n) q d) * 10))]) C hW (c_X5_next hl9 (zSc sc (q + d) b) sg sh el nf lr n (q + d) tx hn (zSc_2 hlen) (by omega) zSc_3 htx hcx) (xl_at (by decide) rfl) rfl q401 q402 q403 q3 q404 hd_X5_next ⟨Nat.le_of_ble_eq_true rfl, Nat.le_of_ble_eq_true rfl⟩ hl.1 (Nat.le_of_ble_eq_true rfl) rfl dX2_readNumber_24 (fun _ _ _ _ _ _ hp => hp.elim) (fun v9 u9 H locs hp hW => ?_)
          obtain ⟨rfl, hu9⟩ := hp
          rw [hu9] at hW
          refine W.eq (g2 := F0 m 27 ls [.int (nI (zCh tx n (q + d))), .int (nI ((zNm (zCh tx n) q d) * 10))]) rfl ?_
          refine lv_bipush (v := nI 48) hx hb dX2_readNumber_27 (by decide) ?_
          refine ln_isub hx hb dX2_readNumber_29 (by have := (zDg_iff.mp hdig).1; omega) ?_
          refine ln_iadd hx hb dX2_readNumber_30 ?_
          refine lv_istore_n (lv' := [(1, .int (nI (((zNm (zCh tx n) q d) * 10) + ((zCh tx n (q + d)) - 48)))), (0, .ref (ad 2)), (2, .int (nI d))]) hx hb dX2_readNumber_31 rfl hl (by decide) rfl (fun ls hl => ?_)
          refine ln_iinc (k := 2) (n := 1) (lv' := [(2, .int (nI (d + 1))), (1, .int (nI (((zNm (zCh tx n) q d) * 10) + ((zCh tx n (q + d)) - 48)))), (0, .ref (ad 2))]) hx hb dX2_readNumber_32 hl rfl (by decide) rfl (fun ls hl => ?_)
          refine lv_aload_n hx hb dX2_readNumber_35 rfl (lv_at hl 2 rfl) ?_
          refine ar_callV (As := []) (rest := []) C hW (c_X5_pass hl9 (zSc sc (q + d) b) sg sh el nf lr n (q + d) hn (zSc_2 hlen) (by omega) zSc_3) (xl_at (by decide) rfl) rfl q408 q409 q410 q3 q411 hd_X5_pass ⟨Nat.le_of_ble_eq_true rfl, Nat.le_of_ble_eq_true rfl⟩ hl.1 (Nat.le_of_ble_eq_true rfl) rfl dX2_readNumber_36 (fun _ _ _ _ _ _ hp => hp.elim) (fun v9 u9 H locs hp hW => ?_)
          obtain ⟨rfl, hu9⟩ := hp
          rw [hu9] at hW
          rw [if_pos (hin), zSc_p] at hW
          refine W.eq (g2 := F0 m 39 ls []) rfl ?_
          refine lv_goto (tgt := 4) hx hb dX2_readNumber_39 (by decide) ?_
          exact ihlp (d + 1) _ _ _ (by omega) (by omega) (by rw [hz, zDr_c (by omega) h3, Nat.add_assoc q d 1]; omega) (by have := hin; omega) (hW) (lv_sub hl [2, 1, 0] rfl)
  exact lp _ 0 _ _ _ (Nat.lt_succ_self _) (by omega) ((Nat.zero_add _).symm) (hq) (hW) (lv_sub hl [2, 1, 0] rfl)
theorem hd_X2_readFoldingSign : yX2_readFoldingSign.cls ≠ "java/lang/invoke/MethodHandle" ∧ yX2_readFoldingSign.cls ≠ "java/lang/invoke/VarHandle" ∧ (parseMethodDescriptor yX2_readFoldingSign.desc).map (fun d => d.parameters.length) = some 1 := by decide +kernel
set_option maxHeartbeats 4000000 in
set_option maxRecDepth 100000 in
theorem c_X2_readFoldingSign {l : Launch} (hl9 : l.stackTraces = false) {D : va_G} {ct : Nat → ClassId} {ad : Nat → Nat} (sc sg sh : Nat → Int32) (el : Nat → Nat → UInt64) (nf : Nat → Nat → Int32) (lr : Nat → Nat → Option Nat) (n q b : Nat) (tx : Nat → Nat) (hn : n ≤ 40) (hlen : sc 2 = nI n) (hq : q ≤ n) (htx : ∀ j, j < n → sg j = nI (tx j)) (hcx : ∀ j, j < n → 1 ≤ tx j ∧ tx j ≤ 127) : ar_M l yX2_readFoldingSign cX2_readFoldingSign 2 (some .char) 6 90 D ct (xL ad ct) [.ref (ad 2)] (zSc sc q b, sg, sh, el, nf, lr) (fun v9 u9 => zRd (zCh tx n q) = true ∧ v9 = some (.int (nI (zCh tx n q))) ∧ u9 = (zSc sc (q + 1) b, sg, sh, el, nf, lr)) (fun E9 u9 => zRd (zCh tx n q) = false ∧ E9 = IAE ∧ u9 = (zSc sc q b, sg, sh, el, nf, lr)) := by
  refine ar_ofW hl9 (by decide) (Nat.le_of_ble_eq_true rfl) ?_
  intro p e s m below meth c A ls C hr hnm hW hl
  have hx := C.1
  have hb := C.2.1
  have hown := C.2.2.2.1
  have hts := C.2.2.2.2.1
  have hl : lv_has ls 2 [(0, .ref (ad 2))] := hl
  refine lv_aload_n hx hb dX2_readFoldingSign_0 rfl (lv_at hl 0 rfl) ?_
  refine ar_callV (As := []) (rest := []) C hW (c_X5_next hl9 (zSc sc q b) sg sh el nf lr n q tx hn (zSc_2 hlen) (by omega) zSc_3 htx hcx) (xl_at (by decide) rfl) rfl q401 q402 q403 q3 q404 hd_X5_next ⟨Nat.le_of_ble_eq_true rfl, Nat.le_of_ble_eq_true rfl⟩ hl.1 (Nat.le_of_ble_eq_true rfl) rfl dX2_readFoldingSign_1 (fun _ _ _ _ _ _ hp => hp.elim) (fun v9 u9 H locs hp hW => ?_)
  obtain ⟨rfl, hu9⟩ := hp
  rw [hu9] at hW
  refine W.eq (g2 := F0 m 4 ls [.int (nI (zCh tx n q))]) rfl ?_
  refine lv_istore_n (lv' := [(1, .int (nI (zCh tx n q))), (0, .ref (ad 2))]) hx hb dX2_readFoldingSign_4 rfl hl (by decide) rfl (fun ls hl => ?_)
  refine lv_iload_n hx hb dX2_readFoldingSign_5 rfl (lv_at hl 0 rfl) ?_
  refine lv_bipush (v := nI 43) hx hb dX2_readFoldingSign_6 (by decide) ?_
  refine ln_icmp_eq (tgt := 39) hx hb dX2_readFoldingSign_8 (by decide) (by have := zCh_lt (q := q) hcx; omega) (by decide) (fun h1 => ?_) (fun h1 => ?_)
  · skip
    refine lv_aload_n hx hb dX2_readFoldingSign_39 rfl (lv_at hl 1 rfl) ?_
    refine ar_callV (As := []) (rest := []) C hW (c_X5_pass hl9 (zSc sc q b) sg sh el nf lr n q hn (zSc_2 hlen) (by omega) zSc_3) (xl_at (by decide) rfl) rfl q408 q409 q410 q3 q411 hd_X5_pass ⟨Nat.le_of_ble_eq_true rfl, Nat.le_of_ble_eq_true rfl⟩ hl.1 (Nat.le_of_ble_eq_true rfl) rfl dX2_readFoldingSign_40 (fun _ _ _ _ _ _ hp => hp.elim) (fun v9 u9 H locs hp hW => ?_)
    obtain ⟨rfl, hu9⟩ := hp
    rw [hu9] at hW
    rw [if_pos (zCh_pos (tx := tx) (n := n) (q := q) (by omega)), zSc_p] at hW
    refine W.eq (g2 := F0 m 43 ls []) rfl ?_
    refine lv_iload_n hx hb dX2_readFoldingSign_43 rfl (lv_at hl 0 rfl) ?_
    exact ar_zret C hr ((pk_charN (by have := zCh_lt (q := q) hcx; omega)).1) hW dX2_readFoldingSign_44 (⟨by unfold zRd; rw [decide_eq_true_iff]; omega, rfl, rfl⟩)
  · skip
    refine lv_iload_n hx hb dX2_readFoldingSign_11 rfl (lv_at hl 0 rfl) ?_
    refine lv_bipush (v := nI 42) hx hb dX2_readFoldingSign_12 (by decide) ?_
    refine ln_icmp_eq (tgt := 39) hx hb dX2_readFoldingSign_14 (by decide) (by have := zCh_lt (q := q) hcx; omega) (by decide) (fun h2 => ?_) (fun h2 => ?_)
    · skip
      refine lv_aload_n hx hb dX2_readFoldingSign_39 rfl (lv_at hl 1 rfl) ?_
      refine ar_callV (As := []) (rest := []) C hW (c_X5_pass hl9 (zSc sc q b) sg sh el nf lr n q hn (zSc_2 hlen) (by omega) zSc_3) (xl_at (by decide) rfl) rfl q408 q409 q410 q3 q411 hd_X5_pass ⟨Nat.le_of_ble_eq_true rfl, Nat.le_of_ble_eq_true rfl⟩ hl.1 (Nat.le_of_ble_eq_true rfl) rfl dX2_readFoldingSign_40 (fun _ _ _ _ _ _ hp => hp.elim) (fun v9 u9 H locs hp hW => ?_)
      obtain ⟨rfl, hu9⟩ := hp
      rw [hu9] at hW
      rw [if_pos (zCh_pos (tx := tx) (n := n) (q := q) (by omega)), zSc_p] at hW
      refine W.eq (g2 := F0 m 43 ls []) rfl ?_
      refine lv_iload_n hx hb dX2_readFoldingSign_43 rfl (lv_at hl 0 rfl) ?_
      exact ar_zret C hr ((pk_charN (by have := zCh_lt (q := q) hcx; omega)).1) hW dX2_readFoldingSign_44 (⟨by unfold zRd; rw [decide_eq_true_iff]; omega, rfl, rfl⟩)
    · skip
      refine lv_iload_n hx hb dX2_readFoldingSign_17 rfl (lv_at hl 0 rfl) ?_
      refine lv_bipush (v := nI 38) hx hb dX2_readFoldingSign_18 (by decide) ?_
      refine ln_icmp_eq (tgt := 39) hx hb dX2_readFoldingSign_20 (by decide) (by have := zCh_lt (q := q) hcx; omega) (by decide) (fun h3 => ?_) (fun h3 => ?_)
      · skip
        refine lv_aload_n hx hb dX2_readFoldingSign_39 rfl (lv_at hl 1 rfl) ?_
        refine ar_callV (As := []) (rest := []) C hW (c_X5_pass hl9 (zSc sc q b) sg sh el nf lr n q hn (zSc_2 hlen) (by omega) zSc_3) (xl_at (by decide) rfl) rfl q408 q409 q410 q3 q411 hd_X5_pass ⟨Nat.le_of_ble_eq_true rfl, Nat.le_of_ble_eq_true rfl⟩ hl.1 (Nat.le_of_ble_eq_true rfl) rfl dX2_readFoldingSign_40 (fun _ _ _ _ _ _ hp => hp.elim) (fun v9 u9 H locs hp hW => ?_)
        obtain ⟨rfl, hu9⟩ := hp
        rw [hu9] at hW
        rw [if_pos (zCh_pos (tx := tx) (n := n) (q := q) (by omega)), zSc_p] at hW
        refine W.eq (g2 := F0 m 43 ls []) rfl ?_
        refine lv_iload_n hx hb dX2_readFoldingSign_43 rfl (lv_at hl 0 rfl) ?_
        exact ar_zret C hr ((pk_charN (by have := zCh_lt (q := q) hcx; omega)).1) hW dX2_readFoldingSign_44 (⟨by unfold zRd; rw [decide_eq_true_iff]; omega, rfl, rfl⟩)
      · skip
        refine lv_iload_n hx hb dX2_readFoldingSign_23 rfl (lv_at hl 0 rfl) ?_
        refine lv_bipush (v := nI 124) hx hb dX2_readFoldingSign_24 (by decide) ?_
        refine ln_icmp_eq (tgt := 39) hx hb dX2_readFoldingSign_26 (by decide) (by have := zCh_lt (q := q) hcx; omega) (by decide) (fun h4 => ?_) (fun h4 => ?_)
        · skip
          refine lv_aload_n hx hb dX2_readFoldingSign_39 rfl (lv_at hl 1 rfl) ?_
          refine ar_callV (As := []) (rest := []) C hW (c_X5_pass hl9 (zSc sc q b) sg sh el nf lr n q hn (zSc_2 hlen) (by omega) zSc_3) (xl_at (by decide) rfl) rfl q408 q409 q410 q3 q411 hd_X5_pass ⟨Nat.le_of_ble_eq_true rfl, Nat.le_of_ble_eq_true rfl⟩ hl.1 (Nat.le_of_ble_eq_true rfl) rfl dX2_readFoldingSign_40 (fun _ _ _ _ _ _ hp => hp.elim) (fun v9 u9 H locs hp hW => ?_)
          obtain ⟨rfl, hu9⟩ := hp
          rw [hu9] at hW
          rw [if_pos (zCh_pos (tx := tx) (n := n) (q := q) (by omega)), zSc_p] at hW
          refine W.eq (g2 := F0 m 43 ls []) rfl ?_
          refine lv_iload_n hx hb dX2_readFoldingSign_43 rfl (lv_at hl 0 rfl) ?_
          exact ar_zret C hr ((pk_charN (by have := zCh_lt (q := q) hcx; omega)).1) hW dX2_readFoldingSign_44 (⟨by unfold zRd; rw [decide_eq_true_iff]; omega, rfl, rfl⟩)
        · skip
          exact ar_throw C hW ar_X_X2_119 hl.1 dX2_readFoldingSign_29 dX2_readFoldingSign_32 dX2_readFoldingSign_33 dX2_readFoldingSign_35 dX2_readFoldingSign_38 (Nat.le_of_ble_eq_true rfl) (Nat.le_of_ble_eq_true rfl) (⟨by unfold zRd; rw [decide_eq_false_iff_not]; omega, rfl, rfl⟩)
theorem hd_X2_readFront : yX2_readFront.cls ≠ "java/lang/invoke/MethodHandle" ∧ yX2_readFront.cls ≠ "java/lang/invoke/VarHandle" ∧ (parseMethodDescriptor yX2_readFront.desc).map (fun d => d.parameters.length) = some 2 := by decide +kernel
set_option maxHeartbeats 4000000 in
set_option maxRecDepth 100000 in
theorem c_X2_readFront {l : Launch} (hl9 : l.stackTraces = false) {D : va_G} {ct : Nat → ClassId} {ad : Nat → Nat} (sc sg sh : Nat → Int32) (el : Nat → Nat → UInt64) (nf : Nat → Nat → Int32) (lr : Nat → Nat → Option Nat) (n q b : Nat) (tx : Nat → Nat) (hn : n ≤ 40) (hlen : sc 2 = nI n) (hq : q ≤ n) (htx : ∀ j, j < n → sg j = nI (tx j)) (hcx : ∀ j, j < n → 1 ≤ tx j ∧ tx j ≤ 127) (k : Nat) (hk : k < 41) : ar_M l yX2_readFront cX2_readFront 2 (some .boolean) 7 111 D ct (xL ad ct) [.ref (ad 2), .ref (ad (104 + k))] (zSc sc q b, sg, sh, el, nf, lr) (fun v9 u9 => (zFk (zCh tx n q) = 0 ∧ v9 = some (.int (bI false)) ∧ u9 = (zSc sc q b, sg, sh, el, zS0 nf k (nI (zFk (zCh tx n q))), lr)) ∨ (zFk (zCh tx n q) ≠ 0 ∧ ¬ (zFk (zCh tx n q) = 6 ∨ zFk (zCh tx n q) = 7) ∧ q < n ∧ v9 = some (.int (bI true)) ∧ u9 = (zSc sc (q + 1) b, sg, sh, el, zS0 nf k (nI (zFk (zCh tx n q))), lr)) ∨ ((zFk (zCh tx n q) = 6 ∨ zFk (zCh tx n q) = 7) ∧ zRd (zCh tx n (q + 1)) = true ∧ q < n ∧ v9 = some (.int (bI true)) ∧ u9 = (zSc sc (q + 1 + 1) b, sg, sh, el, zS1 (zS0 nf k (nI (zFk (zCh tx n q)))) k (nI (zCh tx n (q + 1))), lr))) (fun E9 u9 => (zFk (zCh tx n q) = 6 ∨ zFk (zCh tx n q) = 7) ∧ zRd (zCh tx n (q + 1)) = false ∧ E9 = IAE ∧ ∃ p9 : Nat, u9 = (zSc sc p9 b, sg, sh, el, zS0 nf k (nI (zFk (zCh tx n q))), lr)) := by
  refine ar_ofW hl9 (by decide) (Nat.le_of_ble_eq_true rfl) ?_
  intro p e s m below meth c A ls C hr hnm hW hl
  have hx := C.1
  have hb := C.2.1
  have hown := C.2.2.2.1
  have hts := C.2.2.2.2.1
  have hl : lv_has ls 2 [(0, .ref (ad 2)), (1, .ref (ad (104 + k)))] := hl
  refine lv_aload_n hx hb dX2_readFront_0 rfl (lv_at hl 1 rfl) ?_
  refine lv_aload_n hx hb dX2_readFront_1 rfl (lv_at hl 0 rfl) ?_
  refine ar_callV (As := []) (rest := [.ref (ad (104 + k))]) C hW (c_X5_next hl9 (zSc sc q b) sg sh el nf lr n q tx hn (zSc_2 hlen) (by omega) zSc_3 htx hcx) (xl_at (by decide) rfl) rfl q401 q402 q403 q3 q404 hd_X5_next ⟨Nat.le_of_ble_eq_true rfl, Nat.le_of_ble_eq_true rfl⟩ hl.1 (Nat.le_of_ble_eq_true rfl) rfl dX2_readFront_2 (fun _ _ _ _ _ _ hp => hp.elim) (fun v9 u9 H locs hp hW => ?_)
  obtain ⟨rfl, hu9⟩ := hp
  rw [hu9] at hW
  refine W.eq (g2 := F0 m 5 ls [.int (nI (zCh tx n q)), .ref (ad (104 + k))]) rfl ?_
  refine ar_callS (As := [.int (nI (zCh tx n q))]) (rest := [.ref (ad (104 + k))]) C hW (c_X2_kindOfFront hl9 _ (zCh tx n q) (by have := zCh_lt (q := q) hcx; omega)) q405 q406 q15 q407 hd_X2_kindOfFront ⟨Nat.le_of_ble_eq_true rfl, Nat.le_of_ble_eq_true rfl⟩ hl.1 (Nat.le_of_ble_eq_true rfl) rfl dX2_readFront_5 (fun _ _ _ _ _ _ hp => hp.elim) (fun v9 u9 H locs hp hW => ?_)
  obtain ⟨rfl, hu9⟩ := hp
  rw [hu9] at hW
  refine W.eq (g2 := F0 m 8 ls [.int (nI (zFk (zCh tx n q))), .ref (ad (104 + k))]) rfl ?_
  refine xp_kind (k := k) C hW q87 (by omega) dX2_readFront_8 (fun H locs hW => ?_)
  refine lv_aload_n hx hb dX2_readFront_11 rfl (lv_at hl 1 rfl) ?_
  refine xg_kind (k := k) C hW q87 (by omega) dX2_readFront_12 ?_
  rw [va_up_self]
  rw [va_up_self]
  refine ln_if_ne (tgt := 20) hx hb dX2_readFront_15 (by decide) (by have := zFk_lt (zCh tx n q); omega) (fun h1 => ?_) (fun h1 => ?_)
  · skip
    refine lv_aload_n hx hb dX2_readFront_20 rfl (lv_at hl 0 rfl) ?_
    refine ar_callV (As := []) (rest := []) C hW (c_X5_pass hl9 (zSc sc q b) sg sh el (va_up nf 0 (va_up (nf 0) k (nI (zFk (zCh tx n q))))) lr n q hn (zSc_2 hlen) (by omega) zSc_3) (xl_at (by decide) rfl) rfl q408 q409 q410 q3 q411 hd_X5_pass ⟨Nat.le_of_ble_eq_true rfl, Nat.le_of_ble_eq_true rfl⟩ hl.1 (Nat.le_of_ble_eq_true rfl) rfl dX2_readFront_21 (fun _ _ _ _ _ _ hp => hp.elim) (fun v9 u9 H locs hp hW => ?_)
    obtain ⟨rfl, hu9⟩ := hp
    rw [hu9] at hW
    rw [if_pos (zCh_pos (zFk_0 h1)), zSc_p] at hW
    refine W.eq (g2 := F0 m 24 ls []) rfl ?_
    refine lv_aload_n hx hb dX2_readFront_24 rfl (lv_at hl 1 rfl) ?_
    refine xg_kind (k := k) C hW q87 (by omega) dX2_readFront_25 ?_
    rw [va_up_self]
    rw [va_up_self]
    refine lv_bipush (v := nI 6) hx hb dX2_readFront_28 (by decide) ?_
    refine ln_icmp_eq (tgt := 42) hx hb dX2_readFront_30 (by decide) (by have := zFk_lt (zCh tx n q); omega) (by decide) (fun h2 => ?_) (fun h2 => ?_)
    · skip
      refine lv_aload_n hx hb dX2_readFront_42 rfl (lv_at hl 1 rfl) ?_
      refine lv_aload_n hx hb dX2_readFront_43 rfl (lv_at hl 0 rfl) ?_
      refine ar_callS (As := [.ref (ad 2)]) (rest := [.ref (ad (104 + k))]) C hW (c_X2_readFoldingSign hl9 sc sg sh el (va_up nf 0 (va_up (nf 0) k (nI (zFk (zCh tx n q))))) lr n (q + 1) b tx hn hlen (zCh_pos (zFk_0 h1)) htx hcx) q412 q413 q15 q414 hd_X2_readFoldingSign ⟨Nat.le_of_ble_eq_true rfl, Nat.le_of_ble_eq_true rfl⟩ hl.1 (Nat.le_of_ble_eq_true rfl) rfl dX2_readFront_44 (fun E9 ce9 q9 u9 H locs hp hW h91 h92 h93 => ar_out C hW h91 h92 h93 (⟨by omega, hp.1, hp.2.1, _, hp.2.2⟩)) (fun v9 u9 H locs hp hW => ?_)
      obtain ⟨hz9, rfl, hu9⟩ := hp
      rw [hu9] at hW
      refine W.eq (g2 := F0 m 47 ls [.int (nI (zCh tx n (q + 1))), .ref (ad (104 + k))]) rfl ?_
      refine xp_sign (k := k) (pk_charN (by have := zCh_lt (q := q + 1) hcx; omega)) C hW q90 (by omega) dX2_readFront_47 (fun H locs hW => ?_)
      refine lv_iconst (v := nI 1) hx hb dX2_readFront_50 (by decide) ?_
      exact ar_zret C hr (nI_z1.1) hW dX2_readFront_51 (Or.inr (Or.inr ⟨by omega, hz9, zCh_pos (zFk_0 h1), rfl, rfl⟩))
    · skip
      refine lv_aload_n hx hb dX2_readFront_33 rfl (lv_at hl 1 rfl) ?_
      refine xg_kind (k := k) C hW q87 (by omega) dX2_readFront_34 ?_
      rw [va_up_self]
      rw [va_up_self]
      refine lv_bipush (v := nI 7) hx hb dX2_readFront_37 (by decide) ?_
      refine ln_icmp_ne (tgt := 50) hx hb dX2_readFront_39 (by decide) (by have := zFk_lt (zCh tx n q); omega) (by decide) (fun h3 => ?_) (fun h3 => ?_)
      · skip
        refine lv_iconst (v := nI 1) hx hb dX2_readFront_50 (by decide) ?_
        exact ar_zret C hr (nI_z1.1) hW dX2_readFront_51 (Or.inr (Or.inl ⟨h1, by omega, zCh_pos (zFk_0 h1), rfl, rfl⟩))
      · skip
        refine lv_aload_n hx hb dX2_readFront_42 rfl (lv_at hl 1 rfl) ?_
        refine lv_aload_n hx hb dX2_readFront_43 rfl (lv_at hl 0 rfl) ?_
        refine ar_callS (As := [.ref (ad 2)]) (rest := [.ref (ad (104 + k))]) C hW (c_X2_readFoldingSign hl9 sc sg sh el (va_up nf 0 (va_up (nf 0) k (nI (zFk (zCh tx n q))))) lr n (q + 1) b tx hn hlen (zCh_pos (zFk_0 h1)) htx hcx) q412 q413 q15 q414 hd_X2_readFoldingSign ⟨Nat.le_of_ble_eq_true rfl, Nat.le_of_ble_eq_true rfl⟩ hl.1 (Nat.le_of_ble_eq_true rfl) rfl dX2_readFront_44 (fun E9 ce9 q9 u9 H locs hp hW h91 h92 h93 => ar_out C hW h91 h92 h93 (⟨by omega, hp.1, hp.2.1, _, hp.2.2⟩)) (fun v9 u9 H locs hp hW => ?_)
        obtain ⟨hz9, rfl, hu9⟩ := hp
        rw [hu9] at hW
        refine W.eq (g2 := F0 m 47 ls [.int (nI (zCh tx n (q + 1))), .ref (ad (104 + k))]) rfl ?_
        refine xp_sign (k := k) (pk_charN (by have := zCh_lt (q := q + 1) hcx; omega)) C hW q90 (by omega) dX2_readFront_47 (fun H locs hW => ?_)
        refine lv_iconst (v := nI 1) hx hb dX2_readFront_50 (by decide) ?_
        exact ar_zret C hr (nI_z1.1) hW dX2_readFront_51 (Or.inr (Or.inr ⟨by omega, hz9, zCh_pos (zFk_0 h1), rfl, rfl⟩))
  · skip
    refine lv_iconst (v := nI 0) hx hb dX2_readFront_18 (by decide) ?_
    exact ar_zret C hr (nI_z0.1) hW dX2_readFront_19 (Or.inl ⟨h1, rfl, rfl⟩)
theorem hd_X2_readSign : yX2_readSign.cls ≠ "java/lang/invoke/MethodHandle" ∧ yX2_readSign.cls ≠ "java/lang/invoke/VarHandle" ∧ (parseMethodDescriptor yX2_readSign.desc).map (fun d => d.parameters.length) = some 2 := by decide +kernel
set_option maxHeartbeats 4000000 in
set_option maxRecDepth 100000 in
theorem c_X2_readSign {l : Launch} (hl9 : l.stackTraces = false) {D : va_G} {ct : Nat → ClassId} {ad : Nat → Nat} (sc sg sh : Nat → Int32) (el : Nat → Nat → UInt64) (nf : Nat → Nat → Int32) (lr : Nat → Nat → Option Nat) (n q b : Nat) (tx : Nat → Nat) (hn : n ≤ 40) (hlen : sc 2 = nI n) (hq : q ≤ n) (htx : ∀ j, j < n → sg j = nI (tx j)) (hcx : ∀ j, j < n → 1 ≤ tx j ∧ tx j ≤ 127) (k : Nat) (hk : k < 41) : ar_M l yX2_readSign cX2_readSign 2 (some .boolean) 1 20 D ct (xL ad ct) [.ref (ad 2), .ref (ad (104 + k))] (zSc sc q b, sg, sh, el, nf, lr) (fun v9 u9 => (zSk (zCh tx n q) = 0 ∧ v9 = some (.int (bI false)) ∧ u9 = (zSc sc q b, sg, sh, el, zS0 (zS1 nf k (nI (zCh tx n q))) k (nI (zSk (zCh tx n q))), lr)) ∨ (zSk (zCh tx n q) ≠ 0 ∧ q < n ∧ v9 = some (.int (bI true)) ∧ u9 = (zSc sc (q + 1) b, sg, sh, el, zS0 (zS1 nf k (nI (zCh tx n q))) k (nI (zSk (zCh tx n q))), lr))) (fun _ _ => False) := by
  refine ar_ofW hl9 (by decide) (Nat.le_of_ble_eq_true rfl) ?_
  intro p e s m below meth c A ls C hr hnm hW hl
  have hx := C.1
  have hb := C.2.1
  have hown := C.2.2.2.1
  have hts := C.2.2.2.2.1
  have hl : lv_has ls 2 [(0, .ref (ad 2)), (1, .ref (ad (104 + k)))] := hl
  refine lv_aload_n hx hb dX2_readSign_0 rfl (lv_at hl 1 rfl) ?_
  refine lv_aload_n hx hb dX2_readSign_1 rfl (lv_at hl 0 rfl) ?_
  refine ar_callV (As := []) (rest := [.ref (ad (104 + k))]) C hW (c_X5_next hl9 (zSc sc q b) sg sh el nf lr n q tx hn (zSc_2 hlen) (by omega) zSc_3 htx hcx) (xl_at (by decide) rfl) rfl q401 q402 q403 q3 q404 hd_X5_next ⟨Nat.le_of_ble_eq_true rfl, Nat.le_of_ble_eq_true rfl⟩ hl.1 (Nat.le_of_ble_eq_true rfl) rfl dX2_readSign_2 (fun _ _ _ _ _ _ hp => hp.elim) (fun v9 u9 H locs hp hW => ?_)
  obtain ⟨rfl, hu9⟩ := hp
  rw [hu9] at hW
  refine W.eq (g2 := F0 m 5 ls [.int (nI (zCh tx n q)), .ref (ad (104 + k))]) rfl ?_
  refine xp_sign (k := k) (pk_charN (by have := zCh_lt (q := q) hcx; omega)) C hW q90 (by omega) dX2_readSign_5 (fun H locs hW => ?_)
  refine lv_aload_n hx hb dX2_readSign_8 rfl (lv_at hl 1 rfl) ?_
  refine lv_aload_n hx hb dX2_readSign_9 rfl (lv_at hl 1 rfl) ?_
  refine xg_sign (k := k) C hW q90 (by omega) dX2_readSign_10 ?_
  rw [va_up_self]
  rw [va_up_self]
  refine ar_callS (As := [.int (nI (zCh tx n q))]) (rest := [.ref (ad (104 + k))]) C hW (c_X2_kindOfSign hl9 _ (zCh tx n q) (by have := zCh_lt (q := q) hcx; omega)) q440 q441 q15 q442 hd_X2_kindOfSign ⟨Nat.le_of_ble_eq_true rfl, Nat.le_of_ble_eq_true rfl⟩ hl.1 (Nat.le_of_ble_eq_true rfl) rfl dX2_readSign_13 (fun _ _ _ _ _ _ hp => hp.elim) (fun v9 u9 H locs hp hW => ?_)
  obtain ⟨rfl, hu9⟩ := hp
  rw [hu9] at hW
  refine W.eq (g2 := F0 m 16 ls [.int (nI (zSk (zCh tx n q))), .ref (ad (104 + k))]) rfl ?_
  refine xp_kind (k := k) C hW q87 (by omega) dX2_readSign_16 (fun H locs hW => ?_)
  refine lv_aload_n hx hb dX2_readSign_19 rfl (lv_at hl 1 rfl) ?_
  refine xg_kind (k := k) C hW q87 (by omega) dX2_readSign_20 ?_
  rw [va_up_self]
  rw [va_up_self]
  refine ln_if_ne (tgt := 28) hx hb dX2_readSign_23 (by decide) (by have := zSk_lt (zCh tx n q); omega) (fun h1 => ?_) (fun h1 => ?_)
  · skip
    refine lv_aload_n hx hb dX2_readSign_28 rfl (lv_at hl 0 rfl) ?_
    refine ar_callV (As := []) (rest := []) C hW (c_X5_pass hl9 (zSc sc q b) sg sh el (va_up (va_up nf 1 (va_up (nf 1) k (nI (zCh tx n q)))) 0 (va_up ((va_up nf 1 (va_up (nf 1) k (nI (zCh tx n q)))) 0) k (nI (zSk (zCh tx n q))))) lr n q hn (zSc_2 hlen) (by omega) zSc_3) (xl_at (by decide) rfl) rfl q408 q409 q410 q3 q411 hd_X5_pass ⟨Nat.le_of_ble_eq_true rfl, Nat.le_of_ble_eq_true rfl⟩ hl.1 (Nat.le_of_ble_eq_true rfl) rfl dX2_readSign_29 (fun _ _ _ _ _ _ hp => hp.elim) (fun v9 u9 H locs hp hW => ?_)
    obtain ⟨rfl, hu9⟩ := hp
    rw [hu9] at hW
    rw [if_pos (zCh_pos (zSk_0 h1)), zSc_p] at hW
    refine W.eq (g2 := F0 m 32 ls []) rfl ?_
    refine lv_iconst (v := nI 1) hx hb dX2_readSign_32 (by decide) ?_
    exact ar_zret C hr (nI_z1.1) hW dX2_readSign_33 (Or.inr ⟨h1, zCh_pos (zSk_0 h1), rfl, rfl⟩)
  · skip
    refine lv_iconst (v := nI 0) hx hb dX2_readSign_26 (by decide) ?_
    exact ar_zret C hr (nI_z0.1) hW dX2_readSign_27 (Or.inl ⟨h1, rfl, rfl⟩)
theorem zC_0 {c : Nat → Nat} {q : Nat} (h : zDr c 4 q ≠ 0) : zC c q = (zCr c 23 (q + zDr c 4 q)).map (fun r => (r.1, [zNm c q (zDr c 4 q)] ++ r.2)) := by
  unfold zC
  rw [if_neg h]
  cases zCr c 23 (q + zDr c 4 q) <;> rfl
theorem zCr_s {c : Nat → Nat} {k p : Nat} (hk : k < 24) (h1 : c p = 32) (h : zDr c 4 (p + 1) ≠ 0) : zCr c (24 - k) p = (zCr c (24 - (k + 1)) (p + 1 + zDr c 4 (p + 1))).map (fun r => (r.1, zNm c (p + 1) (zDr c 4 (p + 1)) :: r.2)) := by
  rw [show 24 - k = (24 - (k + 1)) + 1 by omega, zCr, if_pos h1, if_neg h]
  cases zCr c (24 - (k + 1)) (p + 1 + zDr c 4 (p + 1)) <;> rfl
theorem zCr_n {c : Nat → Nat} {k p : Nat} (hk : k < 24) (h1 : c p = 32) (h : zDr c 4 (p + 1) = 0) : zCr c (24 - k) p = none := by
  rw [show 24 - k = (24 - (k + 1)) + 1 by omega, zCr, if_pos h1, if_pos h]
theorem zCr_e {c : Nat → Nat} {k p : Nat} (h1 : c p ≠ 32) : zCr c k p = some (p, []) := by
  cases k <;> rw [zCr, if_neg h1]
theorem gD_app {l : List Nat} {v i : Nat} : (l ++ [v]).getD i 0 = if i < l.length then l.getD i 0 else if i = l.length then v else 0 := by
  rw [List.getD_eq_getElem?_getD, List.getElem?_append]
  by_cases h : i < l.length
  · rw [if_pos h, if_pos h, List.getD_eq_getElem?_getD]
  · rw [if_neg h, if_neg h]
    by_cases h2 : i = l.length
    · rw [if_pos h2, h2, Nat.sub_self]; rfl
    · rw [if_neg h2]
      obtain ⟨j, hj⟩ : ∃ j, i - l.length = j + 1 := ⟨i - l.length - 1, by omega⟩
      rw [hj]; rfl
theorem hd_X2_readConstant : yX2_readConstant.cls ≠ "java/lang/invoke/MethodHandle" ∧ yX2_readConstant.cls ≠ "java/lang/invoke/VarHandle" ∧ (parseMethodDescriptor yX2_readConstant.desc).map (fun d => d.parameters.length) = some 2 := by decide +kernel
set_option maxHeartbeats 4000000 in
set_option maxRecDepth 100000 in
theorem c_X2_readConstant {l : Launch} (hl9 : l.stackTraces = false) {D : va_G} {ct : Nat → ClassId} {ad : Nat → Nat} (sc sg sh : Nat → Int32) (el : Nat → Nat → UInt64) (nf : Nat → Nat → Int32) (lr : Nat → Nat → Option Nat) (n q b : Nat) (tx : Nat → Nat) (hn : n ≤ 40) (hlen : sc 2 = nI n) (hq : q ≤ n) (htx : ∀ j, j < n → sg j = nI (tx j)) (hcx : ∀ j, j < n → 1 ≤ tx j ∧ tx j ≤ 127) (j : Nat) (hj : j < 49) : ar_M l yX2_readConstant cX2_readConstant 3 none 7 112 D ct (xL ad ct) [.ref (ad 2), .ref (ad (6 + j))] (zSc sc q b, sg, sh, el, nf, lr) (fun v9 u9 => ∃ (q2 : Nat) (vs : List Nat) (g : Nat → UInt64), v9 = none ∧ zC (zCh tx n) q = some (q2, vs) ∧ 1 ≤ vs.length ∧ vs.length ≤ 24 ∧ (∀ i, i < vs.length → g i = FP.i2d (nI (vs.getD i 0)) ∧ vs.getD i 0 < 10000) ∧ q < q2 ∧ q2 ≤ n ∧ u9 = (zSc sc q2 b, sg, va_up sh j (nI (if vs.length = 1 then 0 else vs.length)), va_up el j g, nf, lr)) (fun E9 u9 => E9 = IAE ∧ zC (zCh tx n) q = none ∧ ∃ (p9 : Nat) (g : Nat → UInt64), u9 = (zSc sc p9 b, sg, sh, va_up el j g, nf, lr)) := by
  refine ar_ofW hl9 (by decide) (Nat.le_of_ble_eq_true rfl) ?_
  intro p e s m below meth c A ls C hr hnm hW hl
  have hx := C.1
  have hb := C.2.1
  have hown := C.2.2.2.1
  have hts := C.2.2.2.2.1
  have hl : lv_has ls 3 [(0, .ref (ad 2)), (1, .ref (ad (6 + j)))] := hl
  refine lv_aload_n hx hb dX2_readConstant_0 rfl (lv_at hl 1 rfl) ?_
  refine xg_elements (j := j) C hW q44 (by omega) dX2_readConstant_1 ?_
  refine lv_iconst (v := nI 0) hx hb dX2_readConstant_4 (by decide) ?_
  refine lv_aload_n hx hb dX2_readConstant_5 rfl (lv_at hl 0 rfl) ?_
  refine ar_callS (As := [.ref (ad 2)]) (rest := [.int (nI 0), .ref (ad (55 + j))]) C hW (c_X2_readNumber hl9 sc sg sh el nf lr n q b tx hn hlen (by omega) htx hcx) q427 q428 q15 q429 hd_X2_readNumber ⟨Nat.le_of_ble_eq_true rfl, Nat.le_of_ble_eq_true rfl⟩ hl.1 (Nat.le_of_ble_eq_true rfl) rfl dX2_readConstant_6 (fun E9 ce9 q9 u9 H locs hp hW h91 h92 h93 => ar_out C hW h91 h92 h93 (⟨hp.2.1, by unfold zC; rw [if_pos hp.1], q, el j, by rw [va_up_id]; exact hp.2.2⟩)) (fun v9 u9 H locs hp hW => ?_)
  obtain ⟨hz9, rfl, hu9⟩ := hp
  rw [hu9] at hW
  refine W.eq (g2 := F0 m 9 ls [.int (nI (zNm (zCh tx n) q (zDr (zCh tx n) 4 q))), .int (nI 0), .ref (ad (55 + j))]) rfl ?_
  refine lv_i2d hx hb dX2_readConstant_9 ?_
  refine xs_elements (j := j) (i := 0) C hW (by omega) (by omega) dX2_readConstant_10 (fun H locs hW => ?_)
  refine lv_iconst (v := nI 1) hx hb dX2_readConstant_11 (by decide) ?_
  refine lv_istore_n (lv' := [(2, .int (nI 1)), (0, .ref (ad 2)), (1, .ref (ad (6 + j)))]) hx hb dX2_readConstant_12 rfl hl (by decide) rfl (fun ls hl => ?_)
  have lp : ∀ (N9 : Nat) (k : Nat) (z : Nat) (g : Nat → UInt64) (acc : List Nat) (H : Heap) (locs : List Loc) (ls : Array Slot), 24 - k < N9 → (acc.length = k ∧ 1 ≤ k) → (2 * k ≤ z + 1 ∧ z ≤ n ∧ q < z) → (zC (zCh tx n) q = (zCr (zCh tx n) (24 - k) z).map (fun r => (r.1, acc ++ r.2))) → (∀ i, i < k → g i = FP.i2d (nI (acc.getD i 0)) ∧ acc.getD i 0 < 10000) → ar_W D A s.heap H locs (xL ad ct (zSc sc z b, sg, sh, va_up el j g, nf, lr)) → lv_has ls 3 [(0, .ref (ad 2)), (1, .ref (ad (6 + j))), (2, .int (nI k))] → W p l e (ar_rm 7 112) s m [.ref (ad 2), .ref (ad (6 + j))].toArray below meth c H locs 0 0 (ar_E below (ar_Q D ct (xL ad ct) A (fun v9 u9 => ∃ (q2 : Nat) (vs : List Nat) (g : Nat → UInt64), v9 = none ∧ zC (zCh tx n) q = some (q2, vs) ∧ 1 ≤ vs.length ∧ vs.length ≤ 24 ∧ (∀ i, i < vs.length → g i = FP.i2d (nI (vs.getD i 0)) ∧ vs.getD i 0 < 10000) ∧ q < q2 ∧ q2 ≤ n ∧ u9 = (zSc sc q2 b, sg, va_up sh j (nI (if vs.length = 1 then 0 else vs.length)), va_up el j g, nf, lr)) (fun E9 u9 => E9 = IAE ∧ zC (zCh tx n) q = none ∧ ∃ (p9 : Nat) (g : Nat → UInt64), u9 = (zSc sc p9 b, sg, sh, va_up el j g, nf, lr))) [.ref (ad 2), .ref (ad (6 + j))].toArray s) (F0 m 13 ls []) := by
    intro N9
    induction N9 with
    | zero =>
      intro k z g acc H locs ls hN9
      exact absurd hN9 (Nat.not_lt_zero _)
    | succ N9 ihlp =>
      intro k z g acc H locs ls hN9 hk hz hzc hg hW hl
      refine lv_iload_n hx hb dX2_readConstant_13 rfl (lv_at hl 2 rfl) ?_
      refine lv_bipush (v := nI 24) hx hb dX2_readConstant_14 (by decide) ?_
      refine ln_icmp_ge (tgt := 45) hx hb dX2_readConstant_16 (by decide) (by omega) (by omega) (fun h1 => ?_) (fun h1 => ?_)
      · skip
        exfalso; omega
      · skip
        refine lv_aload_n hx hb dX2_readConstant_19 rfl (lv_at hl 0 rfl) ?_
        refine lv_bipush (v := nI 32) hx hb dX2_readConstant_20 (by decide) ?_
        refine ar_callV (As := [.int (nI 32)]) (rest := []) C hW (c_X5_passIfNext hl9 (zSc sc z b) sg sh (va_up el j g) nf lr n z tx hn (zSc_2 hlen) (by omega) zSc_3 htx hcx 32 (by decide) (by decide)) (xl_at (by decide) rfl) rfl q419 q420 q421 q3 q422 hd_X5_passIfNext ⟨Nat.le_of_ble_eq_true rfl, Nat.le_of_ble_eq_true rfl⟩ hl.1 (Nat.le_of_ble_eq_true rfl) rfl dX2_readConstant_22 (fun _ _ _ _ _ _ hp => hp.elim) (fun v9 u9 H locs hp hW => ?_)
        obtain ⟨rfl, hu9⟩ := hp
        rw [hu9] at hW
        rw [zSc_p] at hW
        refine W.eq (g2 := F0 m 25 ls [.int (bI (decide (zCh tx n z = 32)))]) rfl ?_
        refine lb_if_eq (tgt := 45) hx hb dX2_readConstant_25 (by decide) (fun h2 => ?_) (fun h2 => ?_)
        · skip
          have h2t := of_decide_eq_false h2
          rw [if_neg h2t] at hW
          refine lv_aload_n hx hb dX2_readConstant_45 rfl (lv_at hl 1 rfl) ?_
          refine lv_iload_n hx hb dX2_readConstant_46 rfl (lv_at hl 2 rfl) ?_
          refine lv_iconst (v := nI 1) hx hb dX2_readConstant_47 (by decide) ?_
          refine ln_icmp_ne (tgt := 55) hx hb dX2_readConstant_48 (by decide) (by omega) (by omega) (fun h3 => ?_) (fun h3 => ?_)
          · skip
            refine lv_iload_n hx hb dX2_readConstant_55 rfl (lv_at hl 2 rfl) ?_
            refine xp_shape (j := j) C hW q39 (by omega) dX2_readConstant_56 (fun H locs hW => ?_)
            exact ar_vret C hr hW dX2_readConstant_59 (⟨z, acc, g, rfl, by rw [hzc, zCr_e h2t]; simp, by rw [hk.1]; exact hk.2, by omega, fun i hi => hg i (by omega), by omega, by omega, by rw [hk.1, if_neg h3]⟩)
          · skip
            refine lv_iconst (v := nI 0) hx hb dX2_readConstant_51 (by decide) ?_
            refine lv_goto (tgt := 56) hx hb dX2_readConstant_52 (by decide) ?_
            refine xp_shape (j := j) C hW q39 (by omega) dX2_readConstant_56 (fun H locs hW => ?_)
            exact ar_vret C hr hW dX2_readConstant_59 (⟨z, acc, g, rfl, by rw [hzc, zCr_e h2t]; simp, by rw [hk.1]; exact hk.2, by omega, fun i hi => hg i (by omega), by omega, by omega, by rw [hk.1, if_pos h3]⟩)
        · skip
          have h2t := of_decide_eq_true h2
          rw [if_pos h2t] at hW
          have h2n : z < n := zCh_pos (by rw [h2t]; decide)
          refine lv_aload_n hx hb dX2_readConstant_28 rfl (lv_at hl 1 rfl) ?_
          refine xg_elements (j := j) C hW q44 (by omega) dX2_readConstant_29 ?_
          refine lv_iload_n hx hb dX2_readConstant_32 rfl (lv_at hl 2 rfl) ?_
          refine lv_aload_n hx hb dX2_readConstant_33 rfl (lv_at hl 0 rfl) ?_
          refine ar_callS (As := [.ref (ad 2)]) (rest := [.int (nI k), .ref (ad (55 + j))]) C hW (c_X2_readNumber hl9 sc sg sh (va_up el j g) nf lr n (z + 1) b tx hn hlen (by omega) htx hcx) q427 q428 q15 q429 hd_X2_readNumber ⟨Nat.le_of_ble_eq_true rfl, Nat.le_of_ble_eq_true rfl⟩ hl.1 (Nat.le_of_ble_eq_true rfl) rfl dX2_readConstant_34 (fun E9 ce9 q9 u9 H locs hp hW h91 h92 h93 => ar_out C hW h91 h92 h93 (⟨hp.2.1, by rw [hzc, zCr_n h1 h2t hp.1]; rfl, z + 1, g, hp.2.2⟩)) (fun v9 u9 H locs hp hW => ?_)
          obtain ⟨hz9, rfl, hu9⟩ := hp
          rw [hu9] at hW
          refine W.eq (g2 := F0 m 37 ls [.int (nI (zNm (zCh tx n) (z + 1) (zDr (zCh tx n) 4 (z + 1)))), .int (nI k), .ref (ad (55 + j))]) rfl ?_
          refine lv_i2d hx hb dX2_readConstant_37 ?_
          refine xs_elements (j := j) (i := k) C hW (by omega) (by omega) dX2_readConstant_38 (fun H locs hW => ?_)
          simp only [bx_uu, va_up_self] at hW
          refine ln_iinc (k := 2) (n := 1) (lv' := [(2, .int (nI (k + 1))), (0, .ref (ad 2)), (1, .ref (ad (6 + j)))]) hx hb dX2_readConstant_39 hl rfl (by decide) rfl (fun ls hl => ?_)
          refine lv_goto (tgt := 13) hx hb dX2_readConstant_42 (by decide) ?_
          exact ihlp (k + 1) (z + 1 + zDr (zCh tx n) 4 (z + 1)) (va_up g k (FP.i2d (nI (zNm (zCh tx n) (z + 1) (zDr (zCh tx n) 4 (z + 1)))))) (acc ++ [zNm (zCh tx n) (z + 1) (zDr (zCh tx n) 4 (z + 1))]) _ _ _ (by omega) (⟨by rw [List.length_append, hk.1]; rfl, by omega⟩) (⟨by omega, zDr_in (by omega), by omega⟩) (by rw [hzc, zCr_s h1 h2t hz9, Option.map_map]; congr 1; funext r; simp) (fun i hi => by rw [gD_app, hk.1]; unfold va_up; by_cases h77 : i = k; (rw [if_pos h77, if_neg (by omega), if_pos h77]; exact ⟨rfl, zNm_4⟩); rw [if_neg h77, if_pos (by omega)]; exact hg i (by omega)) (hW) (lv_sub hl [1, 2, 0] rfl)
  exact lp _ 1 (q + zDr (zCh tx n) 4 q) (va_up (el j) 0 (FP.i2d (nI (zNm (zCh tx n) q (zDr (zCh tx n) 4 q))))) ([zNm (zCh tx n) q (zDr (zCh tx n) 4 q)]) _ _ _ (Nat.lt_succ_self _) (⟨rfl, Nat.le_refl _⟩) (⟨by omega, zDr_in hq, by omega⟩) (zC_0 hz9) (fun i hi => by rw [show i = 0 by omega]; exact ⟨va_up_self _ _ _, zNm_4⟩) (hW) (lv_sub hl [1, 2, 0] rfl)
