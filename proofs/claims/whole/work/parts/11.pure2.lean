def zRg (x : UInt64) : Bool := decide (¬ Op.cmpValue (FP.dcmp x 14009883241494872064) CmpOp.l < 0 ∧ ¬ 0 < Op.cmpValue (FP.dcmp x 4786511204640096256) CmpOp.g)
def zDg (c : Nat) : Bool := decide (48 ≤ c ∧ c ≤ 57)
def zFk (c : Nat) : Nat := if c = 45 then 4 else if c = 47 then 6 else if c = 92 then 7 else if c = 126 then 5 else 0
def zSk (c : Nat) : Nat := if c = 35 then 10 else if c = 38 then 8 else if c = 42 then 8 else if c = 43 then 8 else if c = 44 then 9 else if c = 45 then 8 else if c = 60 then 8 else if c = 61 then 8 else if c = 62 then 8 else if c = 124 then 8 else 0
def zSg (c : Nat) : Prop := c = 43 ∨ c = 45 ∨ c = 42 ∨ c = 60 ∨ c = 62 ∨ c = 61 ∨ c = 38 ∨ c = 124
def zOp (c : Nat) (x y : UInt64) : UInt64 :=
  if c = 43 then FP.dadd x y else if c = 45 then FP.dsub x y else if c = 42 then FP.dmul x y
  else if c = 60 then (if 0 ≤ Op.cmpValue (FP.dcmp x y) CmpOp.g then FP.dconst0 else FP.dconst1)
  else if c = 62 then (if Op.cmpValue (FP.dcmp x y) CmpOp.l ≤ 0 then FP.dconst0 else FP.dconst1)
  else if c = 61 then (if Op.cmpValue (FP.dcmp x y) CmpOp.l = 0 then FP.dconst1 else FP.dconst0)
  else if c = 38 then (if 0 ≤ Op.cmpValue (FP.dcmp x y) CmpOp.g then y else x)
  else (if Op.cmpValue (FP.dcmp x y) CmpOp.l ≤ 0 then y else x)
def zNn (c : Nat) (x y : UInt64) : Prop := (c = 43 → vf_n64 (FP.dadd x y)) ∧ (c = 45 → vf_n64 (FP.dsub x y)) ∧ (c = 42 → vf_n64 (FP.dmul x y))
def zIn (x a b : Int32) : Bool := decide (a ≤ x ∧ x ≤ b)
def zSgn (c : Nat) : Bool := decide (c = 43 ∨ c = 45 ∨ c = 42 ∨ c = 60 ∨ c = 62 ∨ c = 61 ∨ c = 38 ∨ c = 124 ∨ c = 44 ∨ c = 35)
def zRd (c : Nat) : Bool := decide (c = 43 ∨ c = 42 ∨ c = 38 ∨ c = 124)
theorem hd_X4_exists : yX4_exists.cls ≠ "java/lang/invoke/MethodHandle" ∧ yX4_exists.cls ≠ "java/lang/invoke/VarHandle" ∧ (parseMethodDescriptor yX4_exists.desc).map (fun d => d.parameters.length) = some 1 := by decide +kernel
set_option maxHeartbeats 4000000 in
set_option maxRecDepth 100000 in
theorem c_X4_exists {l : Launch} (hl9 : l.stackTraces = false) {D : va_G} {ct : Nat → ClassId} {S : Type} {wl : S → va_W} (u0 : S) (x : Int32) : ar_M l yX4_exists cX4_exists 1 (some .boolean) 1 21 D ct wl [.int x] u0 (fun v9 u9 => v9 = some (.int (bI (zEx x))) ∧ u9 = u0) (fun _ _ => False) := by
  refine ar_ofW hl9 (by decide) (Nat.le_of_ble_eq_true rfl) ?_
  intro p e s m below meth c A ls C hr hnm hW hl
  have hx := C.1
  have hb := C.2.1
  have hown := C.2.2.2.1
  have hts := C.2.2.2.2.1
  have hl : lv_has ls 1 [(0, .int x)] := hl
  refine lv_iload_n hx hb dX4_exists_0 rfl (lv_at hl 0 rfl) ?_
  refine lv_if_lt (tgt := 15) hx hb dX4_exists_1 (by decide) (fun h1 => ?_) (fun h1 => ?_)
  · skip
    refine lv_iconst (v := nI 0) hx hb dX4_exists_15 (by decide) ?_
    exact ar_zret C hr (nI_z0.1) hW dX4_exists_16 (⟨congrArg (fun z => some (Value.int z)) (bI_f (by unfold zEx; rw [if_pos (by first | exact Or.inl h1 | exact Or.inr (Int32.not_le.mp (by simpa using h2)))])), rfl⟩)
  · skip
    refine lv_iload_n hx hb dX4_exists_4 rfl (lv_at hl 0 rfl) ?_
    refine lv_bipush (v := nI 24) hx hb dX4_exists_5 (by decide) ?_
    refine lv_bipush (v := nI 24) hx hb dX4_exists_7 (by decide) ?_
    refine ar_callS (As := [.int (nI 24), .int (nI 24)]) (rest := [.int x]) C hW (c_X4_tableOf hl9 _ 24 24 (by omega)) q189 q190 q7 q191 hd_X4_tableOf ⟨Nat.le_of_ble_eq_true rfl, Nat.le_of_ble_eq_true rfl⟩ hl.1 (Nat.le_of_ble_eq_true rfl) rfl dX4_exists_9 (fun _ _ _ _ _ _ hp => hp.elim) (fun v9 u9 H locs hp hW => ?_)
    obtain ⟨rfl, hu9⟩ := hp
    rw [hu9] at hW
    refine W.eq (g2 := F0 m 12 ls [.int (nI (24 * 32 + 24)), .int x]) rfl ?_
    refine lv_icmp_le (tgt := 17) hx hb dX4_exists_12 (by decide) (fun h2 => ?_) (fun h2 => ?_)
    · skip
      obtain ⟨j, hj9, rfl⟩ := nI_of (x := x) h1
      have hj8 : j ≤ 792 := by
        have q := h2
        have q2 : nI j ≤ nI (24 * 32 + 24) := by simpa using q
        exact (nI_leI hj9 (by decide)).mp q2
      have hex : zEx (nI j) = zOk j := by
        unfold zEx
        rw [if_neg (by rintro (q | q)
                       · exact nI_pos hj9 q
                       · exact absurd ((nI_ltI (by decide) hj9).mp q) (by omega)), nI_clamp hj9]
      refine lv_iload_n hx hb dX4_exists_17 rfl (lv_at hl 0 rfl) ?_
      refine ln_if_eq (tgt := 35) hx hb dX4_exists_18 (by decide) (by omega) (fun h3 => ?_) (fun h3 => ?_)
      · skip
        refine lv_iconst (v := nI 1) hx hb dX4_exists_35 (by decide) ?_
        refine lv_goto (tgt := 40) hx hb dX4_exists_36 (by decide) ?_
        exact ar_zret C hr (nI_z1.1) hW dX4_exists_40 (⟨congrArg (fun z => some (Value.int z)) (bI_t (by rw [hex]; simp [zOk, *])), rfl⟩)
      · skip
        refine lv_iload_n hx hb dX4_exists_21 rfl (lv_at hl 0 rfl) ?_
        refine ar_callS (As := [.int (nI j)]) (rest := []) C hW (c_X4_lines hl9 _ j (by omega)) q192 q193 q7 q194 hd_X4_lines ⟨Nat.le_of_ble_eq_true rfl, Nat.le_of_ble_eq_true rfl⟩ hl.1 (Nat.le_of_ble_eq_true rfl) rfl dX4_exists_22 (fun _ _ _ _ _ _ hp => hp.elim) (fun v9 u9 H locs hp hW => ?_)
        obtain ⟨rfl, hu9⟩ := hp
        rw [hu9] at hW
        refine W.eq (g2 := F0 m 25 ls [.int (nI (zLn j))]) rfl ?_
        refine lv_iload_n hx hb dX4_exists_25 rfl (lv_at hl 0 rfl) ?_
        refine ar_callS (As := [.int (nI j)]) (rest := [.int (nI (zLn j))]) C hW (c_X4_length hl9 _ j (by omega)) q195 q196 q7 q197 hd_X4_length ⟨Nat.le_of_ble_eq_true rfl, Nat.le_of_ble_eq_true rfl⟩ hl.1 (Nat.le_of_ble_eq_true rfl) rfl dX4_exists_26 (fun _ _ _ _ _ _ hp => hp.elim) (fun v9 u9 H locs hp hW => ?_)
        obtain ⟨rfl, hu9⟩ := hp
        rw [hu9] at hW
        refine W.eq (g2 := F0 m 29 ls [.int (nI (zLg j)), .int (nI (zLn j))]) rfl ?_
        refine ar_callS (As := [.int (nI (zLn j)), .int (nI (zLg j))]) (rest := []) C hW (c_X4_fits hl9 _ (zLn j) (zLg j) (by have := zLn_lt (s := j) (by omega); unfold zLn; split <;> omega) (by have := zLg_lt j; omega)) q198 q199 q7 q200 hd_X4_fits ⟨Nat.le_of_ble_eq_true rfl, Nat.le_of_ble_eq_true rfl⟩ hl.1 (Nat.le_of_ble_eq_true rfl) rfl dX4_exists_29 (fun _ _ _ _ _ _ hp => hp.elim) (fun v9 u9 H locs hp hW => ?_)
        obtain ⟨rfl, hu9⟩ := hp
        rw [hu9] at hW
        refine W.eq (g2 := F0 m 32 ls [.int (bI (zFit (zLn j) (zLg j)))]) rfl ?_
        refine lb_if_eq (tgt := 39) hx hb dX4_exists_32 (by decide) (fun h4 => ?_) (fun h4 => ?_)
        · skip
          refine lv_iconst (v := nI 0) hx hb dX4_exists_39 (by decide) ?_
          exact ar_zret C hr (nI_z0.1) hW dX4_exists_40 (⟨congrArg (fun z => some (Value.int z)) (bI_f (by rw [hex]; simp [zOk, *])), rfl⟩)
        · skip
          refine lv_iconst (v := nI 1) hx hb dX4_exists_35 (by decide) ?_
          refine lv_goto (tgt := 40) hx hb dX4_exists_36 (by decide) ?_
          exact ar_zret C hr (nI_z1.1) hW dX4_exists_40 (⟨congrArg (fun z => some (Value.int z)) (bI_t (by rw [hex]; simp [zOk, *])), rfl⟩)
    · skip
      refine lv_iconst (v := nI 0) hx hb dX4_exists_15 (by decide) ?_
      exact ar_zret C hr (nI_z0.1) hW dX4_exists_16 (⟨congrArg (fun z => some (Value.int z)) (bI_f (by unfold zEx; rw [if_pos (by first | exact Or.inl h1 | exact Or.inr (Int32.not_le.mp (by simpa using h2)))])), rfl⟩)
theorem hd_X8_isInRange : yX8_isInRange.cls ≠ "java/lang/invoke/MethodHandle" ∧ yX8_isInRange.cls ≠ "java/lang/invoke/VarHandle" ∧ (parseMethodDescriptor yX8_isInRange.desc).map (fun d => d.parameters.length) = some 1 := by decide +kernel
set_option maxHeartbeats 4000000 in
set_option maxRecDepth 100000 in
theorem c_X8_isInRange {l : Launch} (hl9 : l.stackTraces = false) {D : va_G} {ct : Nat → ClassId} {S : Type} {wl : S → va_W} (u0 : S) (x : UInt64) : ar_M l yX8_isInRange cX8_isInRange 2 (some .boolean) 0 0 D ct wl [.double x] u0 (fun v9 u9 => v9 = some (.int (bI (zRg x))) ∧ u9 = u0) (fun _ _ => False) := by
  refine ar_ofW hl9 (by decide) (Nat.le_of_ble_eq_true rfl) ?_
  intro p e s m below meth c A ls C hr hnm hW hl
  have hx := C.1
  have hb := C.2.1
  have hown := C.2.2.2.1
  have hts := C.2.2.2.2.1
  have hl : lv_has ls 2 [(0, .double x)] := hl
  refine lv_dload_n hx hb dX8_isInRange_0 rfl (lv_at hl 0 rfl) ?_
  refine lv_ldc2d hx hb hown (hts _ q180) dX8_isInRange_1 ?_
  refine lv_dcmp hx hb dX8_isInRange_4 ?_
  refine lv_if_lt (tgt := 20) hx hb dX8_isInRange_5 (by decide) (fun h1 => ?_) (fun h1 => ?_)
  · skip
    refine lv_iconst (v := nI 0) hx hb dX8_isInRange_20 (by decide) ?_
    exact ar_zret C hr (nI_z0.1) hW dX8_isInRange_21 (⟨congrArg (fun z => some (Value.int z)) (bI_f (by simp [zRg, *])), rfl⟩)
  · skip
    refine lv_dload_n hx hb dX8_isInRange_8 rfl (lv_at hl 0 rfl) ?_
    refine lv_ldc2d hx hb hown (hts _ q181) dX8_isInRange_9 ?_
    refine lv_dcmp hx hb dX8_isInRange_12 ?_
    refine lv_if_gt (tgt := 20) hx hb dX8_isInRange_13 (by decide) (fun h2 => ?_) (fun h2 => ?_)
    · skip
      refine lv_iconst (v := nI 0) hx hb dX8_isInRange_20 (by decide) ?_
      exact ar_zret C hr (nI_z0.1) hW dX8_isInRange_21 (⟨congrArg (fun z => some (Value.int z)) (bI_f (by simp [zRg, *])), rfl⟩)
    · skip
      refine lv_iconst (v := nI 1) hx hb dX8_isInRange_16 (by decide) ?_
      refine lv_goto (tgt := 21) hx hb dX8_isInRange_17 (by decide) ?_
      exact ar_zret C hr (nI_z1.1) hW dX8_isInRange_21 (⟨congrArg (fun z => some (Value.int z)) (bI_t (by simp [zRg, *])), rfl⟩)
theorem hd_X9_fits : yX9_fits.cls ≠ "java/lang/invoke/MethodHandle" ∧ yX9_fits.cls ≠ "java/lang/invoke/VarHandle" ∧ (parseMethodDescriptor yX9_fits.desc).map (fun d => d.parameters.length) = some 1 := by decide +kernel
set_option maxHeartbeats 4000000 in
set_option maxRecDepth 100000 in
theorem c_X9_fits {l : Launch} (hl9 : l.stackTraces = false) {D : va_G} {ct : Nat → ClassId} {S : Type} {wl : S → va_W} (u0 : S) (x : UInt64) : ar_M l yX9_fits cX9_fits 2 (some .boolean) 0 0 D ct wl [.double x] u0 (fun v9 u9 => v9 = some (.int (bI (zRg x))) ∧ u9 = u0) (fun _ _ => False) := by
  refine ar_ofW hl9 (by decide) (Nat.le_of_ble_eq_true rfl) ?_
  intro p e s m below meth c A ls C hr hnm hW hl
  have hx := C.1
  have hb := C.2.1
  have hown := C.2.2.2.1
  have hts := C.2.2.2.2.1
  have hl : lv_has ls 2 [(0, .double x)] := hl
  refine lv_dload_n hx hb dX9_fits_0 rfl (lv_at hl 0 rfl) ?_
  refine lv_ldc2d hx hb hown (hts _ q692) dX9_fits_1 ?_
  refine lv_dcmp hx hb dX9_fits_4 ?_
  refine lv_if_lt (tgt := 20) hx hb dX9_fits_5 (by decide) (fun h1 => ?_) (fun h1 => ?_)
  · skip
    refine lv_iconst (v := nI 0) hx hb dX9_fits_20 (by decide) ?_
    exact ar_zret C hr (nI_z0.1) hW dX9_fits_21 (⟨congrArg (fun z => some (Value.int z)) (bI_f (by simp [zRg, *])), rfl⟩)
  · skip
    refine lv_dload_n hx hb dX9_fits_8 rfl (lv_at hl 0 rfl) ?_
    refine lv_ldc2d hx hb hown (hts _ q693) dX9_fits_9 ?_
    refine lv_dcmp hx hb dX9_fits_12 ?_
    refine lv_if_gt (tgt := 20) hx hb dX9_fits_13 (by decide) (fun h2 => ?_) (fun h2 => ?_)
    · skip
      refine lv_iconst (v := nI 0) hx hb dX9_fits_20 (by decide) ?_
      exact ar_zret C hr (nI_z0.1) hW dX9_fits_21 (⟨congrArg (fun z => some (Value.int z)) (bI_f (by simp [zRg, *])), rfl⟩)
    · skip
      refine lv_iconst (v := nI 1) hx hb dX9_fits_16 (by decide) ?_
      refine lv_goto (tgt := 21) hx hb dX9_fits_17 (by decide) ?_
      exact ar_zret C hr (nI_z1.1) hW dX9_fits_21 (⟨congrArg (fun z => some (Value.int z)) (bI_t (by simp [zRg, *])), rfl⟩)
theorem hd_X2_isDigit : yX2_isDigit.cls ≠ "java/lang/invoke/MethodHandle" ∧ yX2_isDigit.cls ≠ "java/lang/invoke/VarHandle" ∧ (parseMethodDescriptor yX2_isDigit.desc).map (fun d => d.parameters.length) = some 1 := by decide +kernel
set_option maxHeartbeats 4000000 in
set_option maxRecDepth 100000 in
theorem c_X2_isDigit {l : Launch} (hl9 : l.stackTraces = false) {D : va_G} {ct : Nat → ClassId} {S : Type} {wl : S → va_W} (u0 : S) (ch : Nat) (hc9 : ch < 2 ^ 31) : ar_M l yX2_isDigit cX2_isDigit 1 (some .boolean) 0 0 D ct wl [.int (nI ch)] u0 (fun v9 u9 => v9 = some (.int (bI (zDg ch))) ∧ u9 = u0) (fun _ _ => False) := by
  refine ar_ofW hl9 (by decide) (Nat.le_of_ble_eq_true rfl) ?_
  intro p e s m below meth c A ls C hr hnm hW hl
  have hx := C.1
  have hb := C.2.1
  have hown := C.2.2.2.1
  have hts := C.2.2.2.2.1
  have hl : lv_has ls 1 [(0, .int (nI ch))] := hl
  refine lv_iload_n hx hb dX2_isDigit_0 rfl (lv_at hl 0 rfl) ?_
  refine lv_bipush (v := nI 48) hx hb dX2_isDigit_1 (by decide) ?_
  refine ln_icmp_lt (tgt := 16) hx hb dX2_isDigit_3 (by decide) (by omega) (by omega) (fun h1 => ?_) (fun h1 => ?_)
  · skip
    refine lv_iconst (v := nI 0) hx hb dX2_isDigit_16 (by decide) ?_
    exact ar_zret C hr (nI_z0.1) hW dX2_isDigit_17 (⟨congrArg (fun z => some (Value.int z)) (bI_f (by simp [zDg]; omega)), rfl⟩)
  · skip
    refine lv_iload_n hx hb dX2_isDigit_6 rfl (lv_at hl 0 rfl) ?_
    refine lv_bipush (v := nI 57) hx hb dX2_isDigit_7 (by decide) ?_
    refine ln_icmp_gt (tgt := 16) hx hb dX2_isDigit_9 (by decide) (by omega) (by omega) (fun h2 => ?_) (fun h2 => ?_)
    · skip
      refine lv_iconst (v := nI 0) hx hb dX2_isDigit_16 (by decide) ?_
      exact ar_zret C hr (nI_z0.1) hW dX2_isDigit_17 (⟨congrArg (fun z => some (Value.int z)) (bI_f (by simp [zDg]; omega)), rfl⟩)
    · skip
      refine lv_iconst (v := nI 1) hx hb dX2_isDigit_12 (by decide) ?_
      refine lv_goto (tgt := 17) hx hb dX2_isDigit_13 (by decide) ?_
      exact ar_zret C hr (nI_z1.1) hW dX2_isDigit_17 (⟨congrArg (fun z => some (Value.int z)) (bI_t (by simp [zDg]; omega)), rfl⟩)
theorem hd_X2_kindOfFront : yX2_kindOfFront.cls ≠ "java/lang/invoke/MethodHandle" ∧ yX2_kindOfFront.cls ≠ "java/lang/invoke/VarHandle" ∧ (parseMethodDescriptor yX2_kindOfFront.desc).map (fun d => d.parameters.length) = some 1 := by decide +kernel
set_option maxHeartbeats 4000000 in
set_option maxRecDepth 100000 in
theorem c_X2_kindOfFront {l : Launch} (hl9 : l.stackTraces = false) {D : va_G} {ct : Nat → ClassId} {S : Type} {wl : S → va_W} (u0 : S) (ch : Nat) (hc9 : ch < 2 ^ 31) : ar_M l yX2_kindOfFront cX2_kindOfFront 1 (some .int) 0 0 D ct wl [.int (nI ch)] u0 (fun v9 u9 => v9 = some (.int (nI (zFk ch))) ∧ u9 = u0) (fun _ _ => False) := by
  refine ar_ofW hl9 (by decide) (Nat.le_of_ble_eq_true rfl) ?_
  intro p e s m below meth c A ls C hr hnm hW hl
  have hx := C.1
  have hb := C.2.1
  have hown := C.2.2.2.1
  have hts := C.2.2.2.2.1
  have hl : lv_has ls 1 [(0, .int (nI ch))] := hl
  refine lv_iload_n hx hb dX2_kindOfFront_0 rfl (lv_at hl 0 rfl) ?_
  by_cases k45 : ch = 45
  · subst k45
    refine lv_lookup (off := 43) (tgt := 44) hx hb dX2_kindOfFront_1 (by decide) (by decide) (by decide) ?_
    refine lv_iconst (v := nI 4) hx hb dX2_kindOfFront_44 (by decide) ?_
    exact ar_iret C hr hW dX2_kindOfFront_45 (⟨congrArg (fun z => some (Value.int (nI z))) (by simp [zFk, *]), rfl⟩)
  by_cases k47 : ch = 47
  · subst k47
    refine lv_lookup (off := 47) (tgt := 48) hx hb dX2_kindOfFront_1 (by decide) (by decide) (by decide) ?_
    refine lv_bipush (v := nI 6) hx hb dX2_kindOfFront_48 (by decide) ?_
    exact ar_iret C hr hW dX2_kindOfFront_50 (⟨congrArg (fun z => some (Value.int (nI z))) (by simp [zFk, *]), rfl⟩)
  by_cases k92 : ch = 92
  · subst k92
    refine lv_lookup (off := 50) (tgt := 51) hx hb dX2_kindOfFront_1 (by decide) (by decide) (by decide) ?_
    refine lv_bipush (v := nI 7) hx hb dX2_kindOfFront_51 (by decide) ?_
    exact ar_iret C hr hW dX2_kindOfFront_53 (⟨congrArg (fun z => some (Value.int (nI z))) (by simp [zFk, *]), rfl⟩)
  by_cases k126 : ch = 126
  · subst k126
    refine lv_lookup (off := 45) (tgt := 46) hx hb dX2_kindOfFront_1 (by decide) (by decide) (by decide) ?_
    refine lv_iconst (v := nI 5) hx hb dX2_kindOfFront_46 (by decide) ?_
    exact ar_iret C hr hW dX2_kindOfFront_47 (⟨congrArg (fun z => some (Value.int (nI z))) (by simp [zFk, *]), rfl⟩)
  refine lv_lookup (off := 53) (tgt := 54) hx hb dX2_kindOfFront_1 (by decide) (by rw [lv_osw (k := nI 45) (fun q => k45 ((nI_eq hc9 (by decide)).mp q)) (by decide), lv_osw (k := nI 47) (fun q => k47 ((nI_eq hc9 (by decide)).mp q)) (by decide), lv_osw (k := nI 92) (fun q => k92 ((nI_eq hc9 (by decide)).mp q)) (by decide), lv_osw (k := nI 126) (fun q => k126 ((nI_eq hc9 (by decide)).mp q)) (by decide)]; rfl) (by decide) ?_
  refine lv_iconst (v := nI 0) hx hb dX2_kindOfFront_54 (by decide) ?_
  exact ar_iret C hr hW dX2_kindOfFront_55 (⟨congrArg (fun z => some (Value.int (nI z))) (by simp [zFk, *]), rfl⟩)
theorem hd_X2_kindOfSign : yX2_kindOfSign.cls ≠ "java/lang/invoke/MethodHandle" ∧ yX2_kindOfSign.cls ≠ "java/lang/invoke/VarHandle" ∧ (parseMethodDescriptor yX2_kindOfSign.desc).map (fun d => d.parameters.length) = some 1 := by decide +kernel
set_option maxHeartbeats 4000000 in
set_option maxRecDepth 100000 in
theorem c_X2_kindOfSign {l : Launch} (hl9 : l.stackTraces = false) {D : va_G} {ct : Nat → ClassId} {S : Type} {wl : S → va_W} (u0 : S) (ch : Nat) (hc9 : ch < 2 ^ 31) : ar_M l yX2_kindOfSign cX2_kindOfSign 1 (some .int) 0 0 D ct wl [.int (nI ch)] u0 (fun v9 u9 => v9 = some (.int (nI (zSk ch))) ∧ u9 = u0) (fun _ _ => False) := by
  refine ar_ofW hl9 (by decide) (Nat.le_of_ble_eq_true rfl) ?_
  intro p e s m below meth c A ls C hr hnm hW hl
  have hx := C.1
  have hb := C.2.1
  have hown := C.2.2.2.1
  have hts := C.2.2.2.2.1
  have hl : lv_has ls 1 [(0, .int (nI ch))] := hl
  refine lv_iload_n hx hb dX2_kindOfSign_0 rfl (lv_at hl 0 rfl) ?_
  by_cases k35 : ch = 35
  · subst k35
    refine lv_lookup (off := 97) (tgt := 98) hx hb dX2_kindOfSign_1 (by decide) (by decide) (by decide) ?_
    refine lv_bipush (v := nI 10) hx hb dX2_kindOfSign_98 (by decide) ?_
    exact ar_iret C hr hW dX2_kindOfSign_100 (⟨congrArg (fun z => some (Value.int (nI z))) (by simp [zSk, *]), rfl⟩)
  by_cases k38 : ch = 38
  · subst k38
    refine lv_lookup (off := 91) (tgt := 92) hx hb dX2_kindOfSign_1 (by decide) (by decide) (by decide) ?_
    refine lv_bipush (v := nI 8) hx hb dX2_kindOfSign_92 (by decide) ?_
    exact ar_iret C hr hW dX2_kindOfSign_94 (⟨congrArg (fun z => some (Value.int (nI z))) (by simp [zSk, *]), rfl⟩)
  by_cases k42 : ch = 42
  · subst k42
    refine lv_lookup (off := 91) (tgt := 92) hx hb dX2_kindOfSign_1 (by decide) (by decide) (by decide) ?_
    refine lv_bipush (v := nI 8) hx hb dX2_kindOfSign_92 (by decide) ?_
    exact ar_iret C hr hW dX2_kindOfSign_94 (⟨congrArg (fun z => some (Value.int (nI z))) (by simp [zSk, *]), rfl⟩)
  by_cases k43 : ch = 43
  · subst k43
    refine lv_lookup (off := 91) (tgt := 92) hx hb dX2_kindOfSign_1 (by decide) (by decide) (by decide) ?_
    refine lv_bipush (v := nI 8) hx hb dX2_kindOfSign_92 (by decide) ?_
    exact ar_iret C hr hW dX2_kindOfSign_94 (⟨congrArg (fun z => some (Value.int (nI z))) (by simp [zSk, *]), rfl⟩)
  by_cases k44 : ch = 44
  · subst k44
    refine lv_lookup (off := 94) (tgt := 95) hx hb dX2_kindOfSign_1 (by decide) (by decide) (by decide) ?_
    refine lv_bipush (v := nI 9) hx hb dX2_kindOfSign_95 (by decide) ?_
    exact ar_iret C hr hW dX2_kindOfSign_97 (⟨congrArg (fun z => some (Value.int (nI z))) (by simp [zSk, *]), rfl⟩)
  by_cases k45 : ch = 45
  · subst k45
    refine lv_lookup (off := 91) (tgt := 92) hx hb dX2_kindOfSign_1 (by decide) (by decide) (by decide) ?_
    refine lv_bipush (v := nI 8) hx hb dX2_kindOfSign_92 (by decide) ?_
    exact ar_iret C hr hW dX2_kindOfSign_94 (⟨congrArg (fun z => some (Value.int (nI z))) (by simp [zSk, *]), rfl⟩)
  by_cases k60 : ch = 60
  · subst k60
    refine lv_lookup (off := 91) (tgt := 92) hx hb dX2_kindOfSign_1 (by decide) (by decide) (by decide) ?_
    refine lv_bipush (v := nI 8) hx hb dX2_kindOfSign_92 (by decide) ?_
    exact ar_iret C hr hW dX2_kindOfSign_94 (⟨congrArg (fun z => some (Value.int (nI z))) (by simp [zSk, *]), rfl⟩)
  by_cases k61 : ch = 61
  · subst k61
    refine lv_lookup (off := 91) (tgt := 92) hx hb dX2_kindOfSign_1 (by decide) (by decide) (by decide) ?_
    refine lv_bipush (v := nI 8) hx hb dX2_kindOfSign_92 (by decide) ?_
    exact ar_iret C hr hW dX2_kindOfSign_94 (⟨congrArg (fun z => some (Value.int (nI z))) (by simp [zSk, *]), rfl⟩)
  by_cases k62 : ch = 62
  · subst k62
    refine lv_lookup (off := 91) (tgt := 92) hx hb dX2_kindOfSign_1 (by decide) (by decide) (by decide) ?_
    refine lv_bipush (v := nI 8) hx hb dX2_kindOfSign_92 (by decide) ?_
    exact ar_iret C hr hW dX2_kindOfSign_94 (⟨congrArg (fun z => some (Value.int (nI z))) (by simp [zSk, *]), rfl⟩)
  by_cases k124 : ch = 124
  · subst k124
    refine lv_lookup (off := 91) (tgt := 92) hx hb dX2_kindOfSign_1 (by decide) (by decide) (by decide) ?_
    refine lv_bipush (v := nI 8) hx hb dX2_kindOfSign_92 (by decide) ?_
    exact ar_iret C hr hW dX2_kindOfSign_94 (⟨congrArg (fun z => some (Value.int (nI z))) (by simp [zSk, *]), rfl⟩)
  refine lv_lookup (off := 100) (tgt := 101) hx hb dX2_kindOfSign_1 (by decide) (by rw [lv_osw (k := nI 35) (fun q => k35 ((nI_eq hc9 (by decide)).mp q)) (by decide), lv_osw (k := nI 38) (fun q => k38 ((nI_eq hc9 (by decide)).mp q)) (by decide), lv_osw (k := nI 42) (fun q => k42 ((nI_eq hc9 (by decide)).mp q)) (by decide), lv_osw (k := nI 43) (fun q => k43 ((nI_eq hc9 (by decide)).mp q)) (by decide), lv_osw (k := nI 44) (fun q => k44 ((nI_eq hc9 (by decide)).mp q)) (by decide), lv_osw (k := nI 45) (fun q => k45 ((nI_eq hc9 (by decide)).mp q)) (by decide), lv_osw (k := nI 60) (fun q => k60 ((nI_eq hc9 (by decide)).mp q)) (by decide), lv_osw (k := nI 61) (fun q => k61 ((nI_eq hc9 (by decide)).mp q)) (by decide), lv_osw (k := nI 62) (fun q => k62 ((nI_eq hc9 (by decide)).mp q)) (by decide), lv_osw (k := nI 124) (fun q => k124 ((nI_eq hc9 (by decide)).mp q)) (by decide)]; rfl) (by decide) ?_
  refine lv_iconst (v := nI 0) hx hb dX2_kindOfSign_101 (by decide) ?_
  exact ar_iret C hr hW dX2_kindOfSign_102 (⟨congrArg (fun z => some (Value.int (nI z))) (by simp [zSk, *]), rfl⟩)
theorem hd_X7_combinedFreely : yX7_combinedFreely.cls ≠ "java/lang/invoke/MethodHandle" ∧ yX7_combinedFreely.cls ≠ "java/lang/invoke/VarHandle" ∧ (parseMethodDescriptor yX7_combinedFreely.desc).map (fun d => d.parameters.length) = some 3 := by decide +kernel
set_option maxHeartbeats 4000000 in
set_option maxRecDepth 100000 in
theorem c_X7_combinedFreely {l : Launch} (hl9 : l.stackTraces = false) {D : va_G} {ct : Nat → ClassId} {S : Type} {wl : S → va_W} (u0 : S) (ch : Nat) (x y : UInt64) (hc : zSg ch) (hn : zNn ch x y) : ar_M l yX7_combinedFreely cX7_combinedFreely 5 (some .double) 0 0 D ct wl [.int (nI ch), .double x, .double y] u0 (fun v9 u9 => v9 = some (.double (zOp ch x y)) ∧ u9 = u0) (fun _ _ => False) := by
  refine ar_ofW hl9 (by decide) (Nat.le_of_ble_eq_true rfl) ?_
  intro p e s m below meth c A ls C hr hnm hW hl
  have hx := C.1
  have hb := C.2.1
  have hown := C.2.2.2.1
  have hts := C.2.2.2.2.1
  have hl : lv_has ls 5 [(0, .int (nI ch)), (1, .double x), (3, .double y)] := hl
  refine lv_iload_n hx hb dX7_combinedFreely_0 rfl (lv_at hl 0 rfl) ?_
  rcases hc with rfl | rfl | rfl | rfl | rfl | rfl | rfl | rfl
  · skip
    refine lv_tableIn (off := 115) (tgt := 116) hx hb dX7_combinedFreely_1 (by decide) (by decide) (by decide) (by decide) ?_
    refine lv_dload_n hx hb dX7_combinedFreely_116 rfl (lv_at hl 1 rfl) ?_
    refine lv_dload_n hx hb dX7_combinedFreely_117 rfl (lv_at hl 2 rfl) ?_
    refine lv_dadd hx hb dX7_combinedFreely_118 (hn.1 rfl) ?_
    exact ar_dret C hr hW dX7_combinedFreely_119 (⟨congrArg (fun z => some (Value.double z)) (by simp [zOp, *]), rfl⟩)
  · skip
    refine lv_tableIn (off := 119) (tgt := 120) hx hb dX7_combinedFreely_1 (by decide) (by decide) (by decide) (by decide) ?_
    refine lv_dload_n hx hb dX7_combinedFreely_120 rfl (lv_at hl 1 rfl) ?_
    refine lv_dload_n hx hb dX7_combinedFreely_121 rfl (lv_at hl 2 rfl) ?_
    refine lv_dsub hx hb dX7_combinedFreely_122 (hn.2.1 rfl) ?_
    exact ar_dret C hr hW dX7_combinedFreely_123 (⟨congrArg (fun z => some (Value.double z)) (by simp [zOp, *]), rfl⟩)
  · skip
    refine lv_tableIn (off := 123) (tgt := 124) hx hb dX7_combinedFreely_1 (by decide) (by decide) (by decide) (by decide) ?_
    refine lv_dload_n hx hb dX7_combinedFreely_124 rfl (lv_at hl 1 rfl) ?_
    refine lv_dload_n hx hb dX7_combinedFreely_125 rfl (lv_at hl 2 rfl) ?_
    refine lv_dmul hx hb dX7_combinedFreely_126 (hn.2.2 rfl) ?_
    exact ar_dret C hr hW dX7_combinedFreely_127 (⟨congrArg (fun z => some (Value.double z)) (by simp [zOp, *]), rfl⟩)
  · skip
    refine lv_tableIn (off := 127) (tgt := 128) hx hb dX7_combinedFreely_1 (by decide) (by decide) (by decide) (by decide) ?_
    refine lv_dload_n hx hb dX7_combinedFreely_128 rfl (lv_at hl 1 rfl) ?_
    refine lv_dload_n hx hb dX7_combinedFreely_129 rfl (lv_at hl 2 rfl) ?_
    refine lv_dcmp hx hb dX7_combinedFreely_130 ?_
    refine lv_if_ge (tgt := 138) hx hb dX7_combinedFreely_131 (by decide) (fun h1 => ?_) (fun h1 => ?_)
    · skip
      refine lv_dconst0 hx hb dX7_combinedFreely_138 ?_
      exact ar_dret C hr hW dX7_combinedFreely_139 (⟨congrArg (fun z => some (Value.double z)) (by simp [zOp, *]), rfl⟩)
    · skip
      refine lv_dconst1 hx hb dX7_combinedFreely_134 ?_
      refine lv_goto (tgt := 139) hx hb dX7_combinedFreely_135 (by decide) ?_
      exact ar_dret C hr hW dX7_combinedFreely_139 (⟨congrArg (fun z => some (Value.double z)) (by simp [zOp, *]), rfl⟩)
  · skip
    refine lv_tableIn (off := 139) (tgt := 140) hx hb dX7_combinedFreely_1 (by decide) (by decide) (by decide) (by decide) ?_
    refine lv_dload_n hx hb dX7_combinedFreely_140 rfl (lv_at hl 1 rfl) ?_
    refine lv_dload_n hx hb dX7_combinedFreely_141 rfl (lv_at hl 2 rfl) ?_
    refine lv_dcmp hx hb dX7_combinedFreely_142 ?_
    refine lv_if_le (tgt := 150) hx hb dX7_combinedFreely_143 (by decide) (fun h2 => ?_) (fun h2 => ?_)
    · skip
      refine lv_dconst0 hx hb dX7_combinedFreely_150 ?_
      exact ar_dret C hr hW dX7_combinedFreely_151 (⟨congrArg (fun z => some (Value.double z)) (by simp [zOp, *]), rfl⟩)
    · skip
      refine lv_dconst1 hx hb dX7_combinedFreely_146 ?_
      refine lv_goto (tgt := 151) hx hb dX7_combinedFreely_147 (by decide) ?_
      exact ar_dret C hr hW dX7_combinedFreely_151 (⟨congrArg (fun z => some (Value.double z)) (by simp [zOp, *]), rfl⟩)
  · skip
    refine lv_tableIn (off := 151) (tgt := 152) hx hb dX7_combinedFreely_1 (by decide) (by decide) (by decide) (by decide) ?_
    refine lv_dload_n hx hb dX7_combinedFreely_152 rfl (lv_at hl 1 rfl) ?_
    refine lv_dload_n hx hb dX7_combinedFreely_153 rfl (lv_at hl 2 rfl) ?_
    refine lv_dcmp hx hb dX7_combinedFreely_154 ?_
    refine lv_if_ne (tgt := 162) hx hb dX7_combinedFreely_155 (by decide) (fun h3 => ?_) (fun h3 => ?_)
    · skip
      refine lv_dconst0 hx hb dX7_combinedFreely_162 ?_
      exact ar_dret C hr hW dX7_combinedFreely_163 (⟨congrArg (fun z => some (Value.double z)) (by simp [zOp, *]), rfl⟩)
    · skip
      refine lv_dconst1 hx hb dX7_combinedFreely_158 ?_
      refine lv_goto (tgt := 163) hx hb dX7_combinedFreely_159 (by decide) ?_
      exact ar_dret C hr hW dX7_combinedFreely_163 (⟨congrArg (fun z => some (Value.double z)) (by simp [zOp, *]), rfl⟩)
  · skip
    refine lv_tableIn (off := 163) (tgt := 164) hx hb dX7_combinedFreely_1 (by decide) (by decide) (by decide) (by decide) ?_
    refine lv_dload_n hx hb dX7_combinedFreely_164 rfl (lv_at hl 1 rfl) ?_
    refine lv_dload_n hx hb dX7_combinedFreely_165 rfl (lv_at hl 2 rfl) ?_
    refine lv_dcmp hx hb dX7_combinedFreely_166 ?_
    refine lv_if_ge (tgt := 174) hx hb dX7_combinedFreely_167 (by decide) (fun h4 => ?_) (fun h4 => ?_)
    · skip
      refine lv_dload_n hx hb dX7_combinedFreely_174 rfl (lv_at hl 2 rfl) ?_
      exact ar_dret C hr hW dX7_combinedFreely_175 (⟨congrArg (fun z => some (Value.double z)) (by simp [zOp, *]), rfl⟩)
    · skip
      refine lv_dload_n hx hb dX7_combinedFreely_170 rfl (lv_at hl 1 rfl) ?_
      refine lv_goto (tgt := 175) hx hb dX7_combinedFreely_171 (by decide) ?_
      exact ar_dret C hr hW dX7_combinedFreely_175 (⟨congrArg (fun z => some (Value.double z)) (by simp [zOp, *]), rfl⟩)
  · skip
    refine lv_tableOut (tgt := 176) hx hb dX7_combinedFreely_1 (by decide) (by decide) ?_
    refine lv_dload_n hx hb dX7_combinedFreely_176 rfl (lv_at hl 1 rfl) ?_
    refine lv_dload_n hx hb dX7_combinedFreely_177 rfl (lv_at hl 2 rfl) ?_
    refine lv_dcmp hx hb dX7_combinedFreely_178 ?_
    refine lv_if_le (tgt := 186) hx hb dX7_combinedFreely_179 (by decide) (fun h5 => ?_) (fun h5 => ?_)
    · skip
      refine lv_dload_n hx hb dX7_combinedFreely_186 rfl (lv_at hl 2 rfl) ?_
      exact ar_dret C hr hW dX7_combinedFreely_187 (⟨congrArg (fun z => some (Value.double z)) (by simp [zOp, *]), rfl⟩)
    · skip
      refine lv_dload_n hx hb dX7_combinedFreely_182 rfl (lv_at hl 1 rfl) ?_
      refine lv_goto (tgt := 187) hx hb dX7_combinedFreely_183 (by decide) ?_
      exact ar_dret C hr hW dX7_combinedFreely_187 (⟨congrArg (fun z => some (Value.double z)) (by simp [zOp, *]), rfl⟩)
theorem hd_X9_join : yX9_join.cls ≠ "java/lang/invoke/MethodHandle" ∧ yX9_join.cls ≠ "java/lang/invoke/VarHandle" ∧ (parseMethodDescriptor yX9_join.desc).map (fun d => d.parameters.length) = some 3 := by decide +kernel
set_option maxHeartbeats 4000000 in
set_option maxRecDepth 100000 in
theorem c_X9_join {l : Launch} (hl9 : l.stackTraces = false) {D : va_G} {ct : Nat → ClassId} {S : Type} {wl : S → va_W} (u0 : S) (ch : Nat) (x y : UInt64) (hc : zSg ch) (hn : zNn ch x y) : ar_M l yX9_join cX9_join 5 (some .double) 0 0 D ct wl [.int (nI ch), .double x, .double y] u0 (fun v9 u9 => v9 = some (.double (zOp ch x y)) ∧ u9 = u0) (fun _ _ => False) := by
  refine ar_ofW hl9 (by decide) (Nat.le_of_ble_eq_true rfl) ?_
  intro p e s m below meth c A ls C hr hnm hW hl
  have hx := C.1
  have hb := C.2.1
  have hown := C.2.2.2.1
  have hts := C.2.2.2.2.1
  have hl : lv_has ls 5 [(0, .int (nI ch)), (1, .double x), (3, .double y)] := hl
  refine lv_iload_n hx hb dX9_join_0 rfl (lv_at hl 0 rfl) ?_
  rcases hc with rfl | rfl | rfl | rfl | rfl | rfl | rfl | rfl
  · skip
    refine lv_tableIn (off := 115) (tgt := 116) hx hb dX9_join_1 (by decide) (by decide) (by decide) (by decide) ?_
    refine lv_dload_n hx hb dX9_join_116 rfl (lv_at hl 1 rfl) ?_
    refine lv_dload_n hx hb dX9_join_117 rfl (lv_at hl 2 rfl) ?_
    refine lv_dadd hx hb dX9_join_118 (hn.1 rfl) ?_
    exact ar_dret C hr hW dX9_join_119 (⟨congrArg (fun z => some (Value.double z)) (by simp [zOp, *]), rfl⟩)
  · skip
    refine lv_tableIn (off := 119) (tgt := 120) hx hb dX9_join_1 (by decide) (by decide) (by decide) (by decide) ?_
    refine lv_dload_n hx hb dX9_join_120 rfl (lv_at hl 1 rfl) ?_
    refine lv_dload_n hx hb dX9_join_121 rfl (lv_at hl 2 rfl) ?_
    refine lv_dsub hx hb dX9_join_122 (hn.2.1 rfl) ?_
    exact ar_dret C hr hW dX9_join_123 (⟨congrArg (fun z => some (Value.double z)) (by simp [zOp, *]), rfl⟩)
  · skip
    refine lv_tableIn (off := 123) (tgt := 124) hx hb dX9_join_1 (by decide) (by decide) (by decide) (by decide) ?_
    refine lv_dload_n hx hb dX9_join_124 rfl (lv_at hl 1 rfl) ?_
    refine lv_dload_n hx hb dX9_join_125 rfl (lv_at hl 2 rfl) ?_
    refine lv_dmul hx hb dX9_join_126 (hn.2.2 rfl) ?_
    exact ar_dret C hr hW dX9_join_127 (⟨congrArg (fun z => some (Value.double z)) (by simp [zOp, *]), rfl⟩)
  · skip
    refine lv_tableIn (off := 127) (tgt := 128) hx hb dX9_join_1 (by decide) (by decide) (by decide) (by decide) ?_
    refine lv_dload_n hx hb dX9_join_128 rfl (lv_at hl 1 rfl) ?_
    refine lv_dload_n hx hb dX9_join_129 rfl (lv_at hl 2 rfl) ?_
    refine lv_dcmp hx hb dX9_join_130 ?_
    refine lv_if_ge (tgt := 138) hx hb dX9_join_131 (by decide) (fun h1 => ?_) (fun h1 => ?_)
    · skip
      refine lv_dconst0 hx hb dX9_join_138 ?_
      exact ar_dret C hr hW dX9_join_139 (⟨congrArg (fun z => some (Value.double z)) (by simp [zOp, *]), rfl⟩)
    · skip
      refine lv_dconst1 hx hb dX9_join_134 ?_
      refine lv_goto (tgt := 139) hx hb dX9_join_135 (by decide) ?_
      exact ar_dret C hr hW dX9_join_139 (⟨congrArg (fun z => some (Value.double z)) (by simp [zOp, *]), rfl⟩)
  · skip
    refine lv_tableIn (off := 139) (tgt := 140) hx hb dX9_join_1 (by decide) (by decide) (by decide) (by decide) ?_
    refine lv_dload_n hx hb dX9_join_140 rfl (lv_at hl 1 rfl) ?_
    refine lv_dload_n hx hb dX9_join_141 rfl (lv_at hl 2 rfl) ?_
    refine lv_dcmp hx hb dX9_join_142 ?_
    refine lv_if_le (tgt := 150) hx hb dX9_join_143 (by decide) (fun h2 => ?_) (fun h2 => ?_)
    · skip
      refine lv_dconst0 hx hb dX9_join_150 ?_
      exact ar_dret C hr hW dX9_join_151 (⟨congrArg (fun z => some (Value.double z)) (by simp [zOp, *]), rfl⟩)
    · skip
      refine lv_dconst1 hx hb dX9_join_146 ?_
      refine lv_goto (tgt := 151) hx hb dX9_join_147 (by decide) ?_
      exact ar_dret C hr hW dX9_join_151 (⟨congrArg (fun z => some (Value.double z)) (by simp [zOp, *]), rfl⟩)
  · skip
    refine lv_tableIn (off := 151) (tgt := 152) hx hb dX9_join_1 (by decide) (by decide) (by decide) (by decide) ?_
    refine lv_dload_n hx hb dX9_join_152 rfl (lv_at hl 1 rfl) ?_
    refine lv_dload_n hx hb dX9_join_153 rfl (lv_at hl 2 rfl) ?_
    refine lv_dcmp hx hb dX9_join_154 ?_
    refine lv_if_ne (tgt := 162) hx hb dX9_join_155 (by decide) (fun h3 => ?_) (fun h3 => ?_)
    · skip
      refine lv_dconst0 hx hb dX9_join_162 ?_
      exact ar_dret C hr hW dX9_join_163 (⟨congrArg (fun z => some (Value.double z)) (by simp [zOp, *]), rfl⟩)
    · skip
      refine lv_dconst1 hx hb dX9_join_158 ?_
      refine lv_goto (tgt := 163) hx hb dX9_join_159 (by decide) ?_
      exact ar_dret C hr hW dX9_join_163 (⟨congrArg (fun z => some (Value.double z)) (by simp [zOp, *]), rfl⟩)
  · skip
    refine lv_tableIn (off := 163) (tgt := 164) hx hb dX9_join_1 (by decide) (by decide) (by decide) (by decide) ?_
    refine lv_dload_n hx hb dX9_join_164 rfl (lv_at hl 1 rfl) ?_
    refine lv_dload_n hx hb dX9_join_165 rfl (lv_at hl 2 rfl) ?_
    refine lv_dcmp hx hb dX9_join_166 ?_
    refine lv_if_ge (tgt := 174) hx hb dX9_join_167 (by decide) (fun h4 => ?_) (fun h4 => ?_)
    · skip
      refine lv_dload_n hx hb dX9_join_174 rfl (lv_at hl 2 rfl) ?_
      exact ar_dret C hr hW dX9_join_175 (⟨congrArg (fun z => some (Value.double z)) (by simp [zOp, *]), rfl⟩)
    · skip
      refine lv_dload_n hx hb dX9_join_170 rfl (lv_at hl 1 rfl) ?_
      refine lv_goto (tgt := 175) hx hb dX9_join_171 (by decide) ?_
      exact ar_dret C hr hW dX9_join_175 (⟨congrArg (fun z => some (Value.double z)) (by simp [zOp, *]), rfl⟩)
  · skip
    refine lv_tableOut (tgt := 176) hx hb dX9_join_1 (by decide) (by decide) ?_
    refine lv_dload_n hx hb dX9_join_176 rfl (lv_at hl 1 rfl) ?_
    refine lv_dload_n hx hb dX9_join_177 rfl (lv_at hl 2 rfl) ?_
    refine lv_dcmp hx hb dX9_join_178 ?_
    refine lv_if_le (tgt := 186) hx hb dX9_join_179 (by decide) (fun h5 => ?_) (fun h5 => ?_)
    · skip
      refine lv_dload_n hx hb dX9_join_186 rfl (lv_at hl 2 rfl) ?_
      exact ar_dret C hr hW dX9_join_187 (⟨congrArg (fun z => some (Value.double z)) (by simp [zOp, *]), rfl⟩)
    · skip
      refine lv_dload_n hx hb dX9_join_182 rfl (lv_at hl 1 rfl) ?_
      refine lv_goto (tgt := 187) hx hb dX9_join_183 (by decide) ?_
      exact ar_dret C hr hW dX9_join_187 (⟨congrArg (fun z => some (Value.double z)) (by simp [zOp, *]), rfl⟩)
theorem hd_X9_within : yX9_within.cls ≠ "java/lang/invoke/MethodHandle" ∧ yX9_within.cls ≠ "java/lang/invoke/VarHandle" ∧ (parseMethodDescriptor yX9_within.desc).map (fun d => d.parameters.length) = some 3 := by decide +kernel
set_option maxHeartbeats 4000000 in
set_option maxRecDepth 100000 in
theorem c_X9_within {l : Launch} (hl9 : l.stackTraces = false) {D : va_G} {ct : Nat → ClassId} {S : Type} {wl : S → va_W} (u0 : S) (x a b : Int32) : ar_M l yX9_within cX9_within 3 (some .boolean) 0 0 D ct wl [.int x, .int a, .int b] u0 (fun v9 u9 => v9 = some (.int (bI (zIn x a b))) ∧ u9 = u0) (fun _ _ => False) := by
  refine ar_ofW hl9 (by decide) (Nat.le_of_ble_eq_true rfl) ?_
  intro p e s m below meth c A ls C hr hnm hW hl
  have hx := C.1
  have hb := C.2.1
  have hown := C.2.2.2.1
  have hts := C.2.2.2.2.1
  have hl : lv_has ls 3 [(0, .int x), (1, .int a), (2, .int b)] := hl
  refine lv_iload_n hx hb dX9_within_0 rfl (lv_at hl 0 rfl) ?_
  refine lv_iload_n hx hb dX9_within_1 rfl (lv_at hl 1 rfl) ?_
  refine lv_icmp_lt (tgt := 14) hx hb dX9_within_2 (by decide) (fun h1 => ?_) (fun h1 => ?_)
  · skip
    refine lv_iconst (v := nI 0) hx hb dX9_within_14 (by decide) ?_
    exact ar_zret C hr (nI_z0.1) hW dX9_within_15 (⟨congrArg (fun z => some (Value.int z)) (bI_f (by simp only [zIn, decide_eq_true_eq, decide_eq_false_iff_not]; first | exact ⟨Int32.not_lt.mp h1, Int32.not_lt.mp h2⟩ | exact (fun q => absurd q.2 (Int32.not_le.mpr h2)) | exact (fun q => absurd q.1 (Int32.not_le.mpr h1)))), rfl⟩)
  · skip
    refine lv_iload_n hx hb dX9_within_5 rfl (lv_at hl 0 rfl) ?_
    refine lv_iload_n hx hb dX9_within_6 rfl (lv_at hl 2 rfl) ?_
    refine lv_icmp_gt (tgt := 14) hx hb dX9_within_7 (by decide) (fun h2 => ?_) (fun h2 => ?_)
    · skip
      refine lv_iconst (v := nI 0) hx hb dX9_within_14 (by decide) ?_
      exact ar_zret C hr (nI_z0.1) hW dX9_within_15 (⟨congrArg (fun z => some (Value.int z)) (bI_f (by simp only [zIn, decide_eq_true_eq, decide_eq_false_iff_not]; first | exact ⟨Int32.not_lt.mp h1, Int32.not_lt.mp h2⟩ | exact (fun q => absurd q.2 (Int32.not_le.mpr h2)) | exact (fun q => absurd q.1 (Int32.not_le.mpr h1)))), rfl⟩)
    · skip
      refine lv_iconst (v := nI 1) hx hb dX9_within_10 (by decide) ?_
      refine lv_goto (tgt := 15) hx hb dX9_within_11 (by decide) ?_
      exact ar_zret C hr (nI_z1.1) hW dX9_within_15 (⟨congrArg (fun z => some (Value.int z)) (bI_t (by simp only [zIn, decide_eq_true_eq, decide_eq_false_iff_not]; first | exact ⟨Int32.not_lt.mp h1, Int32.not_lt.mp h2⟩ | exact (fun q => absurd q.2 (Int32.not_le.mpr h2)) | exact (fun q => absurd q.1 (Int32.not_le.mpr h1)))), rfl⟩)
theorem hd_X9_count : yX9_count.cls ≠ "java/lang/invoke/MethodHandle" ∧ yX9_count.cls ≠ "java/lang/invoke/VarHandle" ∧ (parseMethodDescriptor yX9_count.desc).map (fun d => d.parameters.length) = some 1 := by decide +kernel
set_option maxHeartbeats 4000000 in
set_option maxRecDepth 100000 in
theorem c_X9_count {l : Launch} (hl9 : l.stackTraces = false) {D : va_G} {ct : Nat → ClassId} {S : Type} {wl : S → va_W} (u0 : S) (x : Nat) (hx9 : x < 2 ^ 31) : ar_M l yX9_count cX9_count 1 (some .int) 0 0 D ct wl [.int (nI x)] u0 (fun v9 u9 => v9 = some (.int (nI (zCt x))) ∧ u9 = u0) (fun _ _ => False) := by
  refine ar_ofW hl9 (by decide) (Nat.le_of_ble_eq_true rfl) ?_
  intro p e s m below meth c A ls C hr hnm hW hl
  have hx := C.1
  have hb := C.2.1
  have hown := C.2.2.2.1
  have hts := C.2.2.2.2.1
  have hl : lv_has ls 1 [(0, .int (nI x))] := hl
  refine lv_iload_n hx hb dX9_count_0 rfl (lv_at hl 0 rfl) ?_
  refine ln_if_ne (tgt := 8) hx hb dX9_count_1 (by decide) (by omega) (fun h1 => ?_) (fun h1 => ?_)
  · skip
    refine lv_iload_n hx hb dX9_count_8 rfl (lv_at hl 0 rfl) ?_
    refine lv_bipush (v := nI 32) hx hb dX9_count_9 (by decide) ?_
    refine ln_icmp_ge (tgt := 18) hx hb dX9_count_11 (by decide) (by omega) (by omega) (fun h2 => ?_) (fun h2 => ?_)
    · skip
      refine lv_iload_n hx hb dX9_count_18 rfl (lv_at hl 0 rfl) ?_
      refine lv_bipush (v := nI 32) hx hb dX9_count_19 (by decide) ?_
      refine ln_idiv hx hb dX9_count_21 (by omega) (by omega) (by omega) ?_
      refine lv_iload_n hx hb dX9_count_22 rfl (lv_at hl 0 rfl) ?_
      refine lv_bipush (v := nI 32) hx hb dX9_count_23 (by decide) ?_
      refine ln_irem hx hb dX9_count_25 (by omega) (by omega) (by omega) ?_
      refine ln_imul hx hb dX9_count_26 ?_
      exact ar_iret C hr hW dX9_count_27 (⟨congrArg (fun z => some (Value.int (nI z))) (by first | (rw [h1]; rfl) | exact (zCt_lo h1 h2).symm | exact (zCt_hi h2).symm), rfl⟩)
    · skip
      refine lv_iload_n hx hb dX9_count_14 rfl (lv_at hl 0 rfl) ?_
      refine lv_goto (tgt := 27) hx hb dX9_count_15 (by decide) ?_
      exact ar_iret C hr hW dX9_count_27 (⟨congrArg (fun z => some (Value.int (nI z))) (by first | (rw [h1]; rfl) | exact (zCt_lo h1 h2).symm | exact (zCt_hi h2).symm), rfl⟩)
  · skip
    refine lv_iconst (v := nI 1) hx hb dX9_count_4 (by decide) ?_
    refine lv_goto (tgt := 27) hx hb dX9_count_5 (by decide) ?_
    exact ar_iret C hr hW dX9_count_27 (⟨congrArg (fun z => some (Value.int (nI z))) (by first | (rw [h1]; rfl) | exact (zCt_lo h1 h2).symm | exact (zCt_hi h2).symm), rfl⟩)
theorem hd_X9_isDigit : yX9_isDigit.cls ≠ "java/lang/invoke/MethodHandle" ∧ yX9_isDigit.cls ≠ "java/lang/invoke/VarHandle" ∧ (parseMethodDescriptor yX9_isDigit.desc).map (fun d => d.parameters.length) = some 1 := by decide +kernel
set_option maxHeartbeats 4000000 in
set_option maxRecDepth 100000 in
theorem c_X9_isDigit {l : Launch} (hl9 : l.stackTraces = false) {D : va_G} {ct : Nat → ClassId} {S : Type} {wl : S → va_W} (u0 : S) (ch : Int32) : ar_M l yX9_isDigit cX9_isDigit 1 (some .boolean) 1 22 D ct wl [.int ch] u0 (fun v9 u9 => v9 = some (.int (bI (zIn ch (nI 48) (nI 57)))) ∧ u9 = u0) (fun _ _ => False) := by
  refine ar_ofW hl9 (by decide) (Nat.le_of_ble_eq_true rfl) ?_
  intro p e s m below meth c A ls C hr hnm hW hl
  have hx := C.1
  have hb := C.2.1
  have hown := C.2.2.2.1
  have hts := C.2.2.2.2.1
  have hl : lv_has ls 1 [(0, .int ch)] := hl
  refine lv_iload_n hx hb dX9_isDigit_0 rfl (lv_at hl 0 rfl) ?_
  refine lv_bipush (v := nI 48) hx hb dX9_isDigit_1 (by decide) ?_
  refine lv_bipush (v := nI 57) hx hb dX9_isDigit_3 (by decide) ?_
  refine ar_callS (As := [.int ch, .int (nI 48), .int (nI 57)]) (rest := []) C hW (c_X9_within hl9 _ ch (nI 48) (nI 57)) q686 q687 q6 q688 hd_X9_within ⟨Nat.le_of_ble_eq_true rfl, Nat.le_of_ble_eq_true rfl⟩ hl.1 (Nat.le_of_ble_eq_true rfl) rfl dX9_isDigit_5 (fun _ _ _ _ _ _ hp => hp.elim) (fun v9 u9 H locs hp hW => ?_)
  obtain ⟨rfl, hu9⟩ := hp
  rw [hu9] at hW
  refine W.eq (g2 := F0 m 8 ls [.int (bI (zIn ch (nI 48) (nI 57)))]) rfl ?_
  exact ar_zret C hr ((bI_z _).1) hW dX9_isDigit_8 (⟨rfl, rfl⟩)
theorem hd_X9_isSign : yX9_isSign.cls ≠ "java/lang/invoke/MethodHandle" ∧ yX9_isSign.cls ≠ "java/lang/invoke/VarHandle" ∧ (parseMethodDescriptor yX9_isSign.desc).map (fun d => d.parameters.length) = some 1 := by decide +kernel
set_option maxHeartbeats 4000000 in
set_option maxRecDepth 100000 in
theorem c_X9_isSign {l : Launch} (hl9 : l.stackTraces = false) {D : va_G} {ct : Nat → ClassId} {S : Type} {wl : S → va_W} (u0 : S) (ch : Nat) (hc9 : ch < 2 ^ 31) : ar_M l yX9_isSign cX9_isSign 1 (some .boolean) 0 0 D ct wl [.int (nI ch)] u0 (fun v9 u9 => v9 = some (.int (bI (zSgn ch))) ∧ u9 = u0) (fun _ _ => False) := by
  refine ar_ofW hl9 (by decide) (Nat.le_of_ble_eq_true rfl) ?_
  intro p e s m below meth c A ls C hr hnm hW hl
  have hx := C.1
  have hb := C.2.1
  have hown := C.2.2.2.1
  have hts := C.2.2.2.2.1
  have hl : lv_has ls 1 [(0, .int (nI ch))] := hl
  refine lv_iload_n hx hb dX9_isSign_0 rfl (lv_at hl 0 rfl) ?_
  refine lv_bipush (v := nI 43) hx hb dX9_isSign_1 (by decide) ?_
  refine ln_icmp_eq (tgt := 60) hx hb dX9_isSign_3 (by decide) (by omega) (by omega) (fun h1 => ?_) (fun h1 => ?_)
  · skip
    refine lv_iconst (v := nI 1) hx hb dX9_isSign_60 (by decide) ?_
    refine lv_goto (tgt := 65) hx hb dX9_isSign_61 (by decide) ?_
    exact ar_zret C hr (nI_z1.1) hW dX9_isSign_65 (⟨congrArg (fun z => some (Value.int z)) (bI_t (by simp [zSgn]; omega)), rfl⟩)
  · skip
    refine lv_iload_n hx hb dX9_isSign_6 rfl (lv_at hl 0 rfl) ?_
    refine lv_bipush (v := nI 45) hx hb dX9_isSign_7 (by decide) ?_
    refine ln_icmp_eq (tgt := 60) hx hb dX9_isSign_9 (by decide) (by omega) (by omega) (fun h2 => ?_) (fun h2 => ?_)
    · skip
      refine lv_iconst (v := nI 1) hx hb dX9_isSign_60 (by decide) ?_
      refine lv_goto (tgt := 65) hx hb dX9_isSign_61 (by decide) ?_
      exact ar_zret C hr (nI_z1.1) hW dX9_isSign_65 (⟨congrArg (fun z => some (Value.int z)) (bI_t (by simp [zSgn]; omega)), rfl⟩)
    · skip
      refine lv_iload_n hx hb dX9_isSign_12 rfl (lv_at hl 0 rfl) ?_
      refine lv_bipush (v := nI 42) hx hb dX9_isSign_13 (by decide) ?_
      refine ln_icmp_eq (tgt := 60) hx hb dX9_isSign_15 (by decide) (by omega) (by omega) (fun h3 => ?_) (fun h3 => ?_)
      · skip
        refine lv_iconst (v := nI 1) hx hb dX9_isSign_60 (by decide) ?_
        refine lv_goto (tgt := 65) hx hb dX9_isSign_61 (by decide) ?_
        exact ar_zret C hr (nI_z1.1) hW dX9_isSign_65 (⟨congrArg (fun z => some (Value.int z)) (bI_t (by simp [zSgn]; omega)), rfl⟩)
      · skip
        refine lv_iload_n hx hb dX9_isSign_18 rfl (lv_at hl 0 rfl) ?_
        refine lv_bipush (v := nI 60) hx hb dX9_isSign_19 (by decide) ?_
        refine ln_icmp_eq (tgt := 60) hx hb dX9_isSign_21 (by decide) (by omega) (by omega) (fun h4 => ?_) (fun h4 => ?_)
        · skip
          refine lv_iconst (v := nI 1) hx hb dX9_isSign_60 (by decide) ?_
          refine lv_goto (tgt := 65) hx hb dX9_isSign_61 (by decide) ?_
          exact ar_zret C hr (nI_z1.1) hW dX9_isSign_65 (⟨congrArg (fun z => some (Value.int z)) (bI_t (by simp [zSgn]; omega)), rfl⟩)
        · skip
          refine lv_iload_n hx hb dX9_isSign_24 rfl (lv_at hl 0 rfl) ?_
          refine lv_bipush (v := nI 62) hx hb dX9_isSign_25 (by decide) ?_
          refine ln_icmp_eq (tgt := 60) hx hb dX9_isSign_27 (by decide) (by omega) (by omega) (fun h5 => ?_) (fun h5 => ?_)
          · skip
            refine lv_iconst (v := nI 1) hx hb dX9_isSign_60 (by decide) ?_
            refine lv_goto (tgt := 65) hx hb dX9_isSign_61 (by decide) ?_
            exact ar_zret C hr (nI_z1.1) hW dX9_isSign_65 (⟨congrArg (fun z => some (Value.int z)) (bI_t (by simp [zSgn]; omega)), rfl⟩)
          · skip
            refine lv_iload_n hx hb dX9_isSign_30 rfl (lv_at hl 0 rfl) ?_
            refine lv_bipush (v := nI 61) hx hb dX9_isSign_31 (by decide) ?_
            refine ln_icmp_eq (tgt := 60) hx hb dX9_isSign_33 (by decide) (by omega) (by omega) (fun h6 => ?_) (fun h6 => ?_)
            · skip
              refine lv_iconst (v := nI 1) hx hb dX9_isSign_60 (by decide) ?_
              refine lv_goto (tgt := 65) hx hb dX9_isSign_61 (by decide) ?_
              exact ar_zret C hr (nI_z1.1) hW dX9_isSign_65 (⟨congrArg (fun z => some (Value.int z)) (bI_t (by simp [zSgn]; omega)), rfl⟩)
            · skip
              refine lv_iload_n hx hb dX9_isSign_36 rfl (lv_at hl 0 rfl) ?_
              refine lv_bipush (v := nI 38) hx hb dX9_isSign_37 (by decide) ?_
              refine ln_icmp_eq (tgt := 60) hx hb dX9_isSign_39 (by decide) (by omega) (by omega) (fun h7 => ?_) (fun h7 => ?_)
              · skip
                refine lv_iconst (v := nI 1) hx hb dX9_isSign_60 (by decide) ?_
                refine lv_goto (tgt := 65) hx hb dX9_isSign_61 (by decide) ?_
                exact ar_zret C hr (nI_z1.1) hW dX9_isSign_65 (⟨congrArg (fun z => some (Value.int z)) (bI_t (by simp [zSgn]; omega)), rfl⟩)
              · skip
                refine lv_iload_n hx hb dX9_isSign_42 rfl (lv_at hl 0 rfl) ?_
                refine lv_bipush (v := nI 124) hx hb dX9_isSign_43 (by decide) ?_
                refine ln_icmp_eq (tgt := 60) hx hb dX9_isSign_45 (by decide) (by omega) (by omega) (fun h8 => ?_) (fun h8 => ?_)
                · skip
                  refine lv_iconst (v := nI 1) hx hb dX9_isSign_60 (by decide) ?_
                  refine lv_goto (tgt := 65) hx hb dX9_isSign_61 (by decide) ?_
                  exact ar_zret C hr (nI_z1.1) hW dX9_isSign_65 (⟨congrArg (fun z => some (Value.int z)) (bI_t (by simp [zSgn]; omega)), rfl⟩)
                · skip
                  refine lv_iload_n hx hb dX9_isSign_48 rfl (lv_at hl 0 rfl) ?_
                  refine lv_bipush (v := nI 44) hx hb dX9_isSign_49 (by decide) ?_
                  refine ln_icmp_eq (tgt := 60) hx hb dX9_isSign_51 (by decide) (by omega) (by omega) (fun h9 => ?_) (fun h9 => ?_)
                  · skip
                    refine lv_iconst (v := nI 1) hx hb dX9_isSign_60 (by decide) ?_
                    refine lv_goto (tgt := 65) hx hb dX9_isSign_61 (by decide) ?_
                    exact ar_zret C hr (nI_z1.1) hW dX9_isSign_65 (⟨congrArg (fun z => some (Value.int z)) (bI_t (by simp [zSgn]; omega)), rfl⟩)
                  · skip
                    refine lv_iload_n hx hb dX9_isSign_54 rfl (lv_at hl 0 rfl) ?_
                    refine lv_bipush (v := nI 35) hx hb dX9_isSign_55 (by decide) ?_
                    refine ln_icmp_ne (tgt := 64) hx hb dX9_isSign_57 (by decide) (by omega) (by omega) (fun h10 => ?_) (fun h10 => ?_)
                    · skip
                      refine lv_iconst (v := nI 0) hx hb dX9_isSign_64 (by decide) ?_
                      exact ar_zret C hr (nI_z0.1) hW dX9_isSign_65 (⟨congrArg (fun z => some (Value.int z)) (bI_f (by simp [zSgn]; omega)), rfl⟩)
                    · skip
                      refine lv_iconst (v := nI 1) hx hb dX9_isSign_60 (by decide) ?_
                      refine lv_goto (tgt := 65) hx hb dX9_isSign_61 (by decide) ?_
                      exact ar_zret C hr (nI_z1.1) hW dX9_isSign_65 (⟨congrArg (fun z => some (Value.int z)) (bI_t (by simp [zSgn]; omega)), rfl⟩)
theorem hd_X9_reduces : yX9_reduces.cls ≠ "java/lang/invoke/MethodHandle" ∧ yX9_reduces.cls ≠ "java/lang/invoke/VarHandle" ∧ (parseMethodDescriptor yX9_reduces.desc).map (fun d => d.parameters.length) = some 1 := by decide +kernel
set_option maxHeartbeats 4000000 in
set_option maxRecDepth 100000 in
theorem c_X9_reduces {l : Launch} (hl9 : l.stackTraces = false) {D : va_G} {ct : Nat → ClassId} {S : Type} {wl : S → va_W} (u0 : S) (ch : Nat) (hc9 : ch < 2 ^ 31) : ar_M l yX9_reduces cX9_reduces 1 (some .boolean) 0 0 D ct wl [.int (nI ch)] u0 (fun v9 u9 => v9 = some (.int (bI (zRd ch))) ∧ u9 = u0) (fun _ _ => False) := by
  refine ar_ofW hl9 (by decide) (Nat.le_of_ble_eq_true rfl) ?_
  intro p e s m below meth c A ls C hr hnm hW hl
  have hx := C.1
  have hb := C.2.1
  have hown := C.2.2.2.1
  have hts := C.2.2.2.2.1
  have hl : lv_has ls 1 [(0, .int (nI ch))] := hl
  refine lv_iload_n hx hb dX9_reduces_0 rfl (lv_at hl 0 rfl) ?_
  refine lv_bipush (v := nI 43) hx hb dX9_reduces_1 (by decide) ?_
  refine ln_icmp_eq (tgt := 24) hx hb dX9_reduces_3 (by decide) (by omega) (by omega) (fun h1 => ?_) (fun h1 => ?_)
  · skip
    refine lv_iconst (v := nI 1) hx hb dX9_reduces_24 (by decide) ?_
    refine lv_goto (tgt := 29) hx hb dX9_reduces_25 (by decide) ?_
    exact ar_zret C hr (nI_z1.1) hW dX9_reduces_29 (⟨congrArg (fun z => some (Value.int z)) (bI_t (by simp [zRd]; omega)), rfl⟩)
  · skip
    refine lv_iload_n hx hb dX9_reduces_6 rfl (lv_at hl 0 rfl) ?_
    refine lv_bipush (v := nI 42) hx hb dX9_reduces_7 (by decide) ?_
    refine ln_icmp_eq (tgt := 24) hx hb dX9_reduces_9 (by decide) (by omega) (by omega) (fun h2 => ?_) (fun h2 => ?_)
    · skip
      refine lv_iconst (v := nI 1) hx hb dX9_reduces_24 (by decide) ?_
      refine lv_goto (tgt := 29) hx hb dX9_reduces_25 (by decide) ?_
      exact ar_zret C hr (nI_z1.1) hW dX9_reduces_29 (⟨congrArg (fun z => some (Value.int z)) (bI_t (by simp [zRd]; omega)), rfl⟩)
    · skip
      refine lv_iload_n hx hb dX9_reduces_12 rfl (lv_at hl 0 rfl) ?_
      refine lv_bipush (v := nI 38) hx hb dX9_reduces_13 (by decide) ?_
      refine ln_icmp_eq (tgt := 24) hx hb dX9_reduces_15 (by decide) (by omega) (by omega) (fun h3 => ?_) (fun h3 => ?_)
      · skip
        refine lv_iconst (v := nI 1) hx hb dX9_reduces_24 (by decide) ?_
        refine lv_goto (tgt := 29) hx hb dX9_reduces_25 (by decide) ?_
        exact ar_zret C hr (nI_z1.1) hW dX9_reduces_29 (⟨congrArg (fun z => some (Value.int z)) (bI_t (by simp [zRd]; omega)), rfl⟩)
      · skip
        refine lv_iload_n hx hb dX9_reduces_18 rfl (lv_at hl 0 rfl) ?_
        refine lv_bipush (v := nI 124) hx hb dX9_reduces_19 (by decide) ?_
        refine ln_icmp_ne (tgt := 28) hx hb dX9_reduces_21 (by decide) (by omega) (by omega) (fun h4 => ?_) (fun h4 => ?_)
        · skip
          refine lv_iconst (v := nI 0) hx hb dX9_reduces_28 (by decide) ?_
          exact ar_zret C hr (nI_z0.1) hW dX9_reduces_29 (⟨congrArg (fun z => some (Value.int z)) (bI_f (by simp [zRd]; omega)), rfl⟩)
        · skip
          refine lv_iconst (v := nI 1) hx hb dX9_reduces_24 (by decide) ?_
          refine lv_goto (tgt := 29) hx hb dX9_reduces_25 (by decide) ?_
          exact ar_zret C hr (nI_z1.1) hW dX9_reduces_29 (⟨congrArg (fun z => some (Value.int z)) (bI_t (by simp [zRd]; omega)), rfl⟩)
