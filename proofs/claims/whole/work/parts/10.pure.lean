/-! shapes as numbers -/
def zLn (s : Nat) : Nat := if 31 < s then s / 32 else 1
def zLg (s : Nat) : Nat := if s = 0 then 1 else s % 32
def zCt (s : Nat) : Nat := zLn s * zLg s
def zTb (s : Nat) : Bool := decide (31 < s)
def zFit (a b : Nat) : Bool := decide (1 ≤ a ∧ a ≤ 24 ∧ 1 ≤ b ∧ b ≤ 24 ∧ a * b ≤ 24)
/-- there is such a shape -/
def zOk (s : Nat) : Bool := s == 0 || zFit (zLn s) (zLg s)
def zEx (x : Int32) : Bool := if x < 0 ∨ nI 792 < x then false else zOk x.toNatClampNeg
def vOk (v : Int32) : Bool := decide (0 ≤ v ∧ v < nI 8)
theorem vOk_nat {v : Int32} (h : vOk v = true) : ∃ j : Nat, j < 8 ∧ v = nI j := by
  simp only [vOk, decide_eq_true_eq] at h
  obtain ⟨j, hj, rfl⟩ := nI_of (x := v) (fun q => absurd q (Int32.not_lt.mpr h.1))
  exact ⟨j, (nI_ltI hj (by decide)).mp h.2, rfl⟩
theorem zLn_lt {s : Nat} (h : s < 2 ^ 31) : zLn s < 2 ^ 26 + 1 := by unfold zLn; split <;> omega
theorem zLg_lt (s : Nat) : zLg s < 32 := by unfold zLg; split <;> omega
theorem zCt_lo {x : Nat} (h0 : x ≠ 0) (h : x < 32) : zCt x = x := by
  unfold zCt zLn zLg
  rw [if_neg (by omega), if_neg h0, Nat.mod_eq_of_lt h, Nat.one_mul]
theorem zCt_hi {x : Nat} (h : 32 ≤ x) : zCt x = x / 32 * (x % 32) := by
  unfold zCt zLn zLg
  rw [if_pos (by omega), if_neg (by omega)]
theorem hd_X4_isTable : yX4_isTable.cls ≠ "java/lang/invoke/MethodHandle" ∧ yX4_isTable.cls ≠ "java/lang/invoke/VarHandle" ∧ (parseMethodDescriptor yX4_isTable.desc).map (fun d => d.parameters.length) = some 1 := by decide +kernel
set_option maxHeartbeats 4000000 in
set_option maxRecDepth 100000 in
theorem c_X4_isTable {l : Launch} (hl9 : l.stackTraces = false) {D : va_G} {ct : Nat → ClassId} {S : Type} {wl : S → va_W} (u0 : S) (x : Nat) (hx9 : x < 2 ^ 31) : ar_M l yX4_isTable cX4_isTable 1 (some .boolean) 0 0 D ct wl [.int (nI x)] u0 (fun v9 u9 => v9 = some (.int (bI (zTb x))) ∧ u9 = u0) (fun _ _ => False) := by
  refine ar_ofW hl9 (by decide) (Nat.le_of_ble_eq_true rfl) ?_
  intro p e s m below meth c A ls C hr hnm hW hl
  have hx := C.1
  have hb := C.2.1
  have hown := C.2.2.2.1
  have hts := C.2.2.2.2.1
  have hl : lv_has ls 1 [(0, .int (nI x))] := hl
  refine lv_iload_n hx hb dX4_isTable_0 rfl (lv_at hl 0 rfl) ?_
  refine lv_bipush (v := nI 31) hx hb dX4_isTable_1 (by decide) ?_
  refine ln_icmp_le (tgt := 10) hx hb dX4_isTable_3 (by decide) (by omega) (by omega) (fun h1 => ?_) (fun h1 => ?_)
  · skip
    refine lv_iconst (v := nI 0) hx hb dX4_isTable_10 (by decide) ?_
    exact ar_zret C hr (nI_z0.1) hW dX4_isTable_11 (⟨congrArg (fun z => some (Value.int z)) (bI_f (by simp [zTb]; omega)), rfl⟩)
  · skip
    refine lv_iconst (v := nI 1) hx hb dX4_isTable_6 (by decide) ?_
    refine lv_goto (tgt := 11) hx hb dX4_isTable_7 (by decide) ?_
    exact ar_zret C hr (nI_z1.1) hW dX4_isTable_11 (⟨congrArg (fun z => some (Value.int z)) (bI_t (by simp [zTb]; omega)), rfl⟩)
theorem hd_X4_lines : yX4_lines.cls ≠ "java/lang/invoke/MethodHandle" ∧ yX4_lines.cls ≠ "java/lang/invoke/VarHandle" ∧ (parseMethodDescriptor yX4_lines.desc).map (fun d => d.parameters.length) = some 1 := by decide +kernel
set_option maxHeartbeats 4000000 in
set_option maxRecDepth 100000 in
theorem c_X4_lines {l : Launch} (hl9 : l.stackTraces = false) {D : va_G} {ct : Nat → ClassId} {S : Type} {wl : S → va_W} (u0 : S) (x : Nat) (hx9 : x < 2 ^ 31) : ar_M l yX4_lines cX4_lines 1 (some .int) 0 0 D ct wl [.int (nI x)] u0 (fun v9 u9 => v9 = some (.int (nI (zLn x))) ∧ u9 = u0) (fun _ _ => False) := by
  refine ar_ofW hl9 (by decide) (Nat.le_of_ble_eq_true rfl) ?_
  intro p e s m below meth c A ls C hr hnm hW hl
  have hx := C.1
  have hb := C.2.1
  have hown := C.2.2.2.1
  have hts := C.2.2.2.2.1
  have hl : lv_has ls 1 [(0, .int (nI x))] := hl
  refine lv_iload_n hx hb dX4_lines_0 rfl (lv_at hl 0 rfl) ?_
  refine lv_bipush (v := nI 31) hx hb dX4_lines_1 (by decide) ?_
  refine ln_icmp_le (tgt := 12) hx hb dX4_lines_3 (by decide) (by omega) (by omega) (fun h1 => ?_) (fun h1 => ?_)
  · skip
    refine lv_iconst (v := nI 1) hx hb dX4_lines_12 (by decide) ?_
    exact ar_iret C hr hW dX4_lines_13 (⟨congrArg (fun z => some (Value.int (nI z))) (by simp [zLn]; omega), rfl⟩)
  · skip
    refine lv_iload_n hx hb dX4_lines_6 rfl (lv_at hl 0 rfl) ?_
    refine lv_iconst (v := nI 5) hx hb dX4_lines_7 (by decide) ?_
    refine lv_ishr hx hb dX4_lines_8 ?_
    rw [show nI x >>> (nI 5 &&& 31) = nI (x / 32) from pk_shrN hx9 _ 5 (by decide)]
    refine lv_goto (tgt := 13) hx hb dX4_lines_9 (by decide) ?_
    exact ar_iret C hr hW dX4_lines_13 (⟨congrArg (fun z => some (Value.int (nI z))) (by simp [zLn]; omega), rfl⟩)
theorem hd_X4_length : yX4_length.cls ≠ "java/lang/invoke/MethodHandle" ∧ yX4_length.cls ≠ "java/lang/invoke/VarHandle" ∧ (parseMethodDescriptor yX4_length.desc).map (fun d => d.parameters.length) = some 1 := by decide +kernel
set_option maxHeartbeats 4000000 in
set_option maxRecDepth 100000 in
theorem c_X4_length {l : Launch} (hl9 : l.stackTraces = false) {D : va_G} {ct : Nat → ClassId} {S : Type} {wl : S → va_W} (u0 : S) (x : Nat) (hx9 : x < 2 ^ 31) : ar_M l yX4_length cX4_length 1 (some .int) 0 0 D ct wl [.int (nI x)] u0 (fun v9 u9 => v9 = some (.int (nI (zLg x))) ∧ u9 = u0) (fun _ _ => False) := by
  refine ar_ofW hl9 (by decide) (Nat.le_of_ble_eq_true rfl) ?_
  intro p e s m below meth c A ls C hr hnm hW hl
  have hx := C.1
  have hb := C.2.1
  have hown := C.2.2.2.1
  have hts := C.2.2.2.2.1
  have hl : lv_has ls 1 [(0, .int (nI x))] := hl
  refine lv_iload_n hx hb dX4_length_0 rfl (lv_at hl 0 rfl) ?_
  refine ln_if_ne (tgt := 8) hx hb dX4_length_1 (by decide) (by omega) (fun h1 => ?_) (fun h1 => ?_)
  · skip
    refine lv_iload_n hx hb dX4_length_8 rfl (lv_at hl 0 rfl) ?_
    refine lv_bipush (v := nI 31) hx hb dX4_length_9 (by decide) ?_
    refine lv_iand hx hb dX4_length_11 ?_
    rw [show nI x &&& nI 31 = nI (x % 32) from pk_andN (by omega) 5 (by decide)]
    exact ar_iret C hr hW dX4_length_12 (⟨congrArg (fun z => some (Value.int (nI z))) (by simp [zLg]; omega), rfl⟩)
  · skip
    refine lv_iconst (v := nI 1) hx hb dX4_length_4 (by decide) ?_
    refine lv_goto (tgt := 12) hx hb dX4_length_5 (by decide) ?_
    exact ar_iret C hr hW dX4_length_12 (⟨congrArg (fun z => some (Value.int (nI z))) (by simp [zLg]; omega), rfl⟩)
theorem hd_X4_elements : yX4_elements.cls ≠ "java/lang/invoke/MethodHandle" ∧ yX4_elements.cls ≠ "java/lang/invoke/VarHandle" ∧ (parseMethodDescriptor yX4_elements.desc).map (fun d => d.parameters.length) = some 1 := by decide +kernel
set_option maxHeartbeats 4000000 in
set_option maxRecDepth 100000 in
theorem c_X4_elements {l : Launch} (hl9 : l.stackTraces = false) {D : va_G} {ct : Nat → ClassId} {S : Type} {wl : S → va_W} (u0 : S) (x : Nat) (hx9 : x < 2 ^ 31) : ar_M l yX4_elements cX4_elements 1 (some .int) 1 20 D ct wl [.int (nI x)] u0 (fun v9 u9 => v9 = some (.int (nI (zCt x))) ∧ u9 = u0) (fun _ _ => False) := by
  refine ar_ofW hl9 (by decide) (Nat.le_of_ble_eq_true rfl) ?_
  intro p e s m below meth c A ls C hr hnm hW hl
  have hx := C.1
  have hb := C.2.1
  have hown := C.2.2.2.1
  have hts := C.2.2.2.2.1
  have hl : lv_has ls 1 [(0, .int (nI x))] := hl
  refine lv_iload_n hx hb dX4_elements_0 rfl (lv_at hl 0 rfl) ?_
  refine ar_callS (As := [.int (nI x)]) (rest := []) C hW (c_X4_lines hl9 _ x (by omega)) q192 q193 q7 q194 hd_X4_lines ⟨Nat.le_of_ble_eq_true rfl, Nat.le_of_ble_eq_true rfl⟩ hl.1 (Nat.le_of_ble_eq_true rfl) rfl dX4_elements_1 (fun _ _ _ _ _ _ hp => hp.elim) (fun v9 u9 H locs hp hW => ?_)
  obtain ⟨rfl, hu9⟩ := hp
  rw [hu9] at hW
  refine W.eq (g2 := F0 m 4 ls [.int (nI (zLn x))]) rfl ?_
  refine lv_iload_n hx hb dX4_elements_4 rfl (lv_at hl 0 rfl) ?_
  refine ar_callS (As := [.int (nI x)]) (rest := [.int (nI (zLn x))]) C hW (c_X4_length hl9 _ x (by omega)) q195 q196 q7 q197 hd_X4_length ⟨Nat.le_of_ble_eq_true rfl, Nat.le_of_ble_eq_true rfl⟩ hl.1 (Nat.le_of_ble_eq_true rfl) rfl dX4_elements_5 (fun _ _ _ _ _ _ hp => hp.elim) (fun v9 u9 H locs hp hW => ?_)
  obtain ⟨rfl, hu9⟩ := hp
  rw [hu9] at hW
  refine W.eq (g2 := F0 m 8 ls [.int (nI (zLg x)), .int (nI (zLn x))]) rfl ?_
  refine ln_imul hx hb dX4_elements_8 ?_
  exact ar_iret C hr hW dX4_elements_9 (⟨congrArg (fun z => some (Value.int (nI z))) (rfl), rfl⟩)
theorem hd_X4_tableOf : yX4_tableOf.cls ≠ "java/lang/invoke/MethodHandle" ∧ yX4_tableOf.cls ≠ "java/lang/invoke/VarHandle" ∧ (parseMethodDescriptor yX4_tableOf.desc).map (fun d => d.parameters.length) = some 2 := by decide +kernel
set_option maxHeartbeats 4000000 in
set_option maxRecDepth 100000 in
theorem c_X4_tableOf {l : Launch} (hl9 : l.stackTraces = false) {D : va_G} {ct : Nat → ClassId} {S : Type} {wl : S → va_W} (u0 : S) (a b : Nat) (ha9 : a < 2 ^ 20) : ar_M l yX4_tableOf cX4_tableOf 2 (some .int) 0 0 D ct wl [.int (nI a), .int (nI b)] u0 (fun v9 u9 => v9 = some (.int (nI (a * 32 + b))) ∧ u9 = u0) (fun _ _ => False) := by
  refine ar_ofW hl9 (by decide) (Nat.le_of_ble_eq_true rfl) ?_
  intro p e s m below meth c A ls C hr hnm hW hl
  have hx := C.1
  have hb := C.2.1
  have hown := C.2.2.2.1
  have hts := C.2.2.2.2.1
  have hl : lv_has ls 2 [(0, .int (nI a)), (1, .int (nI b))] := hl
  refine lv_iload_n hx hb dX4_tableOf_0 rfl (lv_at hl 0 rfl) ?_
  refine lv_iconst (v := nI 5) hx hb dX4_tableOf_1 (by decide) ?_
  refine lv_ishl hx hb dX4_tableOf_2 ?_
  rw [show nI a <<< (nI 5 &&& 31) = nI (a * 32) from pk_shlN _ 5 (by decide) (by omega)]
  refine lv_iload_n hx hb dX4_tableOf_3 rfl (lv_at hl 1 rfl) ?_
  refine ln_iadd hx hb dX4_tableOf_4 ?_
  exact ar_iret C hr hW dX4_tableOf_5 (⟨congrArg (fun z => some (Value.int (nI z))) (rfl), rfl⟩)
theorem hd_X4_fits : yX4_fits.cls ≠ "java/lang/invoke/MethodHandle" ∧ yX4_fits.cls ≠ "java/lang/invoke/VarHandle" ∧ (parseMethodDescriptor yX4_fits.desc).map (fun d => d.parameters.length) = some 2 := by decide +kernel
set_option maxHeartbeats 4000000 in
set_option maxRecDepth 100000 in
theorem c_X4_fits {l : Launch} (hl9 : l.stackTraces = false) {D : va_G} {ct : Nat → ClassId} {S : Type} {wl : S → va_W} (u0 : S) (a b : Nat) (ha9 : a < 2 ^ 15) (hb9 : b < 2 ^ 15) : ar_M l yX4_fits cX4_fits 2 (some .boolean) 0 0 D ct wl [.int (nI a), .int (nI b)] u0 (fun v9 u9 => v9 = some (.int (bI (zFit a b))) ∧ u9 = u0) (fun _ _ => False) := by
  refine ar_ofW hl9 (by decide) (Nat.le_of_ble_eq_true rfl) ?_
  intro p e s m below meth c A ls C hr hnm hW hl
  have hx := C.1
  have hb := C.2.1
  have hown := C.2.2.2.1
  have hts := C.2.2.2.2.1
  have hl : lv_has ls 2 [(0, .int (nI a)), (1, .int (nI b))] := hl
  refine lv_iload_n hx hb dX4_fits_0 rfl (lv_at hl 0 rfl) ?_
  refine lv_iconst (v := nI 1) hx hb dX4_fits_1 (by decide) ?_
  refine ln_icmp_lt (tgt := 34) hx hb dX4_fits_2 (by decide) (by have := Nat.mul_lt_mul'' ha9 hb9; omega) (by have := Nat.mul_lt_mul'' ha9 hb9; omega) (fun h1 => ?_) (fun h1 => ?_)
  · skip
    refine lv_iconst (v := nI 0) hx hb dX4_fits_34 (by decide) ?_
    exact ar_zret C hr (nI_z0.1) hW dX4_fits_35 (⟨congrArg (fun z => some (Value.int z)) (bI_f (by simp [zFit]; omega)), rfl⟩)
  · skip
    refine lv_iload_n hx hb dX4_fits_5 rfl (lv_at hl 0 rfl) ?_
    refine lv_bipush (v := nI 24) hx hb dX4_fits_6 (by decide) ?_
    refine ln_icmp_gt (tgt := 34) hx hb dX4_fits_8 (by decide) (by have := Nat.mul_lt_mul'' ha9 hb9; omega) (by have := Nat.mul_lt_mul'' ha9 hb9; omega) (fun h2 => ?_) (fun h2 => ?_)
    · skip
      refine lv_iconst (v := nI 0) hx hb dX4_fits_34 (by decide) ?_
      exact ar_zret C hr (nI_z0.1) hW dX4_fits_35 (⟨congrArg (fun z => some (Value.int z)) (bI_f (by simp [zFit]; omega)), rfl⟩)
    · skip
      refine lv_iload_n hx hb dX4_fits_11 rfl (lv_at hl 1 rfl) ?_
      refine lv_iconst (v := nI 1) hx hb dX4_fits_12 (by decide) ?_
      refine ln_icmp_lt (tgt := 34) hx hb dX4_fits_13 (by decide) (by have := Nat.mul_lt_mul'' ha9 hb9; omega) (by have := Nat.mul_lt_mul'' ha9 hb9; omega) (fun h3 => ?_) (fun h3 => ?_)
      · skip
        refine lv_iconst (v := nI 0) hx hb dX4_fits_34 (by decide) ?_
        exact ar_zret C hr (nI_z0.1) hW dX4_fits_35 (⟨congrArg (fun z => some (Value.int z)) (bI_f (by simp [zFit]; omega)), rfl⟩)
      · skip
        refine lv_iload_n hx hb dX4_fits_16 rfl (lv_at hl 1 rfl) ?_
        refine lv_bipush (v := nI 24) hx hb dX4_fits_17 (by decide) ?_
        refine ln_icmp_gt (tgt := 34) hx hb dX4_fits_19 (by decide) (by have := Nat.mul_lt_mul'' ha9 hb9; omega) (by have := Nat.mul_lt_mul'' ha9 hb9; omega) (fun h4 => ?_) (fun h4 => ?_)
        · skip
          refine lv_iconst (v := nI 0) hx hb dX4_fits_34 (by decide) ?_
          exact ar_zret C hr (nI_z0.1) hW dX4_fits_35 (⟨congrArg (fun z => some (Value.int z)) (bI_f (by simp [zFit]; omega)), rfl⟩)
        · skip
          refine lv_iload_n hx hb dX4_fits_22 rfl (lv_at hl 0 rfl) ?_
          refine lv_iload_n hx hb dX4_fits_23 rfl (lv_at hl 1 rfl) ?_
          refine ln_imul hx hb dX4_fits_24 ?_
          refine lv_bipush (v := nI 24) hx hb dX4_fits_25 (by decide) ?_
          refine ln_icmp_gt (tgt := 34) hx hb dX4_fits_27 (by decide) (by have := Nat.mul_lt_mul'' ha9 hb9; omega) (by have := Nat.mul_lt_mul'' ha9 hb9; omega) (fun h5 => ?_) (fun h5 => ?_)
          · skip
            refine lv_iconst (v := nI 0) hx hb dX4_fits_34 (by decide) ?_
            exact ar_zret C hr (nI_z0.1) hW dX4_fits_35 (⟨congrArg (fun z => some (Value.int z)) (bI_f (by simp [zFit]; omega)), rfl⟩)
          · skip
            refine lv_iconst (v := nI 1) hx hb dX4_fits_30 (by decide) ?_
            refine lv_goto (tgt := 35) hx hb dX4_fits_31 (by decide) ?_
            exact ar_zret C hr (nI_z1.1) hW dX4_fits_35 (⟨congrArg (fun z => some (Value.int z)) (bI_t (by simp [zFit]; omega)), rfl⟩)
theorem hd_X8_isVariable : yX8_isVariable.cls ≠ "java/lang/invoke/MethodHandle" ∧ yX8_isVariable.cls ≠ "java/lang/invoke/VarHandle" ∧ (parseMethodDescriptor yX8_isVariable.desc).map (fun d => d.parameters.length) = some 1 := by decide +kernel
set_option maxHeartbeats 4000000 in
set_option maxRecDepth 100000 in
theorem c_X8_isVariable {l : Launch} (hl9 : l.stackTraces = false) {D : va_G} {ct : Nat → ClassId} {S : Type} {wl : S → va_W} (u0 : S) (v : Int32) : ar_M l yX8_isVariable cX8_isVariable 1 (some .boolean) 0 0 D ct wl [.int v] u0 (fun v9 u9 => v9 = some (.int (bI (vOk v))) ∧ u9 = u0) (fun _ _ => False) := by
  refine ar_ofW hl9 (by decide) (Nat.le_of_ble_eq_true rfl) ?_
  intro p e s m below meth c A ls C hr hnm hW hl
  have hx := C.1
  have hb := C.2.1
  have hown := C.2.2.2.1
  have hts := C.2.2.2.2.1
  have hl : lv_has ls 1 [(0, .int v)] := hl
  refine lv_iload_n hx hb dX8_isVariable_0 rfl (lv_at hl 0 rfl) ?_
  refine lv_if_lt (tgt := 14) hx hb dX8_isVariable_1 (by decide) (fun h1 => ?_) (fun h1 => ?_)
  · skip
    refine lv_iconst (v := nI 0) hx hb dX8_isVariable_14 (by decide) ?_
    exact ar_zret C hr (nI_z0.1) hW dX8_isVariable_15 (⟨congrArg (fun z => some (Value.int z)) (bI_f (by simp only [vOk, decide_eq_true_eq, decide_eq_false_iff_not]; first | exact ⟨by simpa using h1, by simpa using h2⟩ | (intro q; first | exact absurd q.2 (Int32.not_lt.mpr (by simpa using h2)) | exact absurd q.1 (Int32.not_le.mpr h1)))), rfl⟩)
  · skip
    refine lv_iload_n hx hb dX8_isVariable_4 rfl (lv_at hl 0 rfl) ?_
    refine lv_bipush (v := nI 8) hx hb dX8_isVariable_5 (by decide) ?_
    refine lv_icmp_ge (tgt := 14) hx hb dX8_isVariable_7 (by decide) (fun h2 => ?_) (fun h2 => ?_)
    · skip
      refine lv_iconst (v := nI 0) hx hb dX8_isVariable_14 (by decide) ?_
      exact ar_zret C hr (nI_z0.1) hW dX8_isVariable_15 (⟨congrArg (fun z => some (Value.int z)) (bI_f (by simp only [vOk, decide_eq_true_eq, decide_eq_false_iff_not]; first | exact ⟨by simpa using h1, by simpa using h2⟩ | (intro q; first | exact absurd q.2 (Int32.not_lt.mpr (by simpa using h2)) | exact absurd q.1 (Int32.not_le.mpr h1)))), rfl⟩)
    · skip
      refine lv_iconst (v := nI 1) hx hb dX8_isVariable_10 (by decide) ?_
      refine lv_goto (tgt := 15) hx hb dX8_isVariable_11 (by decide) ?_
      exact ar_zret C hr (nI_z1.1) hW dX8_isVariable_15 (⟨congrArg (fun z => some (Value.int z)) (bI_t (by simp only [vOk, decide_eq_true_eq, decide_eq_false_iff_not]; first | exact ⟨by simpa using h1, by simpa using h2⟩ | (intro q; first | exact absurd q.2 (Int32.not_lt.mpr (by simpa using h2)) | exact absurd q.1 (Int32.not_le.mpr h1)))), rfl⟩)
