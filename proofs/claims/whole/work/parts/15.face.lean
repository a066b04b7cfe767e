set_option maxRecDepth 20000 in
theorem ar_X_X6_24 : ar_X "ArrayText$Tree" 22 24 26 "java/lang/IllegalArgumentException" "more parts than a text can hold" := ⟨by decide +kernel, by decide +kernel, by decide +kernel, by decide +kernel, by decide +kernel, by decide +kernel, by decide +kernel, by decide +kernel⟩
def zN0 (nf : Nat → Nat → Int32) (k : Nat) : Nat → Nat → Int32 := va_up (va_up (va_up nf 0 (va_up (nf 0) k (nI 0))) 1 (va_up (nf 1) k (nI 0))) 2 (va_up (nf 2) k (nI 0))
def zL0 (lr : Nat → Nat → Option Nat) (k : Nat) : Nat → Nat → Option Nat := va_up (va_up lr 0 (va_up (lr 0) k none)) 1 (va_up (lr 1) k none)
/-- a join, a turn, a reduction, a run -/
def zMk (k : Nat) : Bool := decide (k = 9 ∨ k = 5 ∨ k = 6 ∨ k = 7)
def zMkC (kd : Nat → Nat) : Nat → Nat
  | 0 => 0
  | n + 1 => zMkC kd n + (if zMk (kd n) = true then 1 else 0)
theorem zMkC_le (kd : Nat → Nat) (n : Nat) : zMkC kd n ≤ n := by
  induction n with
  | zero => exact Nat.le_refl _
  | succ n ih =>
    rw [zMkC]
    split <;> omega
abbrev IAE : String := "java/lang/IllegalArgumentException"
abbrev ISE : String := "java/lang/IllegalStateException"
abbrev UOE : String := "java/lang/UnsupportedOperationException"
abbrev IOB : String := "java/lang/IndexOutOfBoundsException"
abbrev ARE : String := "java/lang/ArithmeticException"
theorem hd_X0_clear : yX0_clear.cls ≠ "java/lang/invoke/MethodHandle" ∧ yX0_clear.cls ≠ "java/lang/invoke/VarHandle" ∧ (parseMethodDescriptor yX0_clear.desc).map (fun d => d.parameters.length) = some 0 := by decide +kernel
set_option maxHeartbeats 4000000 in
set_option maxRecDepth 100000 in
theorem c_X0_clear {l : Launch} (hl9 : l.stackTraces = false) {D : va_G} {ct : Nat → ClassId} {ad : Nat → Nat} (sc sg sh : Nat → Int32) (el : Nat → Nat → UInt64) (nf : Nat → Nat → Int32) (lr : Nat → Nat → Option Nat) (k : Nat) (hk : k < 41) : ar_M l yX0_clear cX0_clear 1 none 0 0 D ct (xL ad ct) [.ref (ad (104 + k))] (sc, sg, sh, el, nf, lr) (fun v9 u9 => v9 = none ∧ u9 = (sc, sg, sh, el, zN0 nf k, zL0 lr k)) (fun _ _ => False) := by
  refine ar_ofW hl9 (by decide) (Nat.le_of_ble_eq_true rfl) ?_
  intro p e s m below meth c A ls C hr hnm hW hl
  have hx := C.1
  have hb := C.2.1
  have hown := C.2.2.2.1
  have hts := C.2.2.2.2.1
  have hl : lv_has ls 1 [(0, .ref (ad (104 + k)))] := hl
  refine lv_aload_n hx hb dX0_clear_0 rfl (lv_at hl 0 rfl) ?_
  refine lv_iconst (v := nI 0) hx hb dX0_clear_1 (by decide) ?_
  refine xp_kind (k := k) C hW q84 (by omega) dX0_clear_2 (fun H locs hW => ?_)
  refine lv_aload_n hx hb dX0_clear_5 rfl (lv_at hl 0 rfl) ?_
  refine lv_iconst (v := nI 0) hx hb dX0_clear_6 (by decide) ?_
  refine xp_sign (k := k) (by decide) C hW q88 (by omega) dX0_clear_7 (fun H locs hW => ?_)
  refine lv_aload_n hx hb dX0_clear_10 rfl (lv_at hl 0 rfl) ?_
  refine lv_iconst (v := nI 0) hx hb dX0_clear_11 (by decide) ?_
  refine xp_number (k := k) C hW q91 (by omega) dX0_clear_12 (fun H locs hW => ?_)
  refine lv_aload_n hx hb dX0_clear_15 rfl (lv_at hl 0 rfl) ?_
  refine lv_null hx hb dX0_clear_16 ?_
  refine xp_left (k := k) (v := none) C hW q95 (by omega) dX0_clear_17 (fun H locs hW => ?_)
  refine lv_aload_n hx hb dX0_clear_20 rfl (lv_at hl 0 rfl) ?_
  refine lv_null hx hb dX0_clear_21 ?_
  refine xp_right (k := k) (v := none) C hW q99 (by omega) dX0_clear_22 (fun H locs hW => ?_)
  exact ar_vret C hr hW dX0_clear_25 (⟨rfl, rfl⟩)
theorem hd_X0_makesArray : yX0_makesArray.cls ≠ "java/lang/invoke/MethodHandle" ∧ yX0_makesArray.cls ≠ "java/lang/invoke/VarHandle" ∧ (parseMethodDescriptor yX0_makesArray.desc).map (fun d => d.parameters.length) = some 0 := by decide +kernel
set_option maxHeartbeats 4000000 in
set_option maxRecDepth 100000 in
theorem c_X0_makesArray {l : Launch} (hl9 : l.stackTraces = false) {D : va_G} {ct : Nat → ClassId} {ad : Nat → Nat} (sc sg sh : Nat → Int32) (el : Nat → Nat → UInt64) (nf : Nat → Nat → Int32) (lr : Nat → Nat → Option Nat) (k : Nat) (hk : k < 41) (x : Nat) (hx9 : x < 2 ^ 31) (hkd : nf 0 k = nI x) : ar_M l yX0_makesArray cX0_makesArray 1 (some .boolean) 0 0 D ct (xL ad ct) [.ref (ad (104 + k))] (sc, sg, sh, el, nf, lr) (fun v9 u9 => v9 = some (.int (bI (zMk x))) ∧ u9 = (sc, sg, sh, el, nf, lr)) (fun _ _ => False) := by
  refine ar_ofW hl9 (by decide) (Nat.le_of_ble_eq_true rfl) ?_
  intro p e s m below meth c A ls C hr hnm hW hl
  have hx := C.1
  have hb := C.2.1
  have hown := C.2.2.2.1
  have hts := C.2.2.2.2.1
  have hl : lv_has ls 1 [(0, .ref (ad (104 + k)))] := hl
  refine lv_aload_n hx hb dX0_makesArray_0 rfl (lv_at hl 0 rfl) ?_
  refine xg_kind (k := k) C hW q84 (by omega) dX0_makesArray_1 ?_
  refine ln_top (hkd) ?_
  refine lv_bipush (v := nI 9) hx hb dX0_makesArray_4 (by decide) ?_
  refine ln_icmp_eq (tgt := 35) hx hb dX0_makesArray_6 (by decide) (by omega) (by omega) (fun h1 => ?_) (fun h1 => ?_)
  · skip
    refine lv_iconst (v := nI 1) hx hb dX0_makesArray_35 (by decide) ?_
    refine lv_goto (tgt := 40) hx hb dX0_makesArray_36 (by decide) ?_
    exact ar_zret C hr (nI_z1.1) hW dX0_makesArray_40 (⟨congrArg (fun z => some (Value.int z)) (bI_t (by simp [zMk]; omega)), rfl⟩)
  · skip
    refine lv_aload_n hx hb dX0_makesArray_9 rfl (lv_at hl 0 rfl) ?_
    refine xg_kind (k := k) C hW q84 (by omega) dX0_makesArray_10 ?_
    refine ln_top (hkd) ?_
    refine lv_iconst (v := nI 5) hx hb dX0_makesArray_13 (by decide) ?_
    refine ln_icmp_eq (tgt := 35) hx hb dX0_makesArray_14 (by decide) (by omega) (by omega) (fun h2 => ?_) (fun h2 => ?_)
    · skip
      refine lv_iconst (v := nI 1) hx hb dX0_makesArray_35 (by decide) ?_
      refine lv_goto (tgt := 40) hx hb dX0_makesArray_36 (by decide) ?_
      exact ar_zret C hr (nI_z1.1) hW dX0_makesArray_40 (⟨congrArg (fun z => some (Value.int z)) (bI_t (by simp [zMk]; omega)), rfl⟩)
    · skip
      refine lv_aload_n hx hb dX0_makesArray_17 rfl (lv_at hl 0 rfl) ?_
      refine xg_kind (k := k) C hW q84 (by omega) dX0_makesArray_18 ?_
      refine ln_top (hkd) ?_
      refine lv_bipush (v := nI 6) hx hb dX0_makesArray_21 (by decide) ?_
      refine ln_icmp_eq (tgt := 35) hx hb dX0_makesArray_23 (by decide) (by omega) (by omega) (fun h3 => ?_) (fun h3 => ?_)
      · skip
        refine lv_iconst (v := nI 1) hx hb dX0_makesArray_35 (by decide) ?_
        refine lv_goto (tgt := 40) hx hb dX0_makesArray_36 (by decide) ?_
        exact ar_zret C hr (nI_z1.1) hW dX0_makesArray_40 (⟨congrArg (fun z => some (Value.int z)) (bI_t (by simp [zMk]; omega)), rfl⟩)
      · skip
        refine lv_aload_n hx hb dX0_makesArray_26 rfl (lv_at hl 0 rfl) ?_
        refine xg_kind (k := k) C hW q84 (by omega) dX0_makesArray_27 ?_
        refine ln_top (hkd) ?_
        refine lv_bipush (v := nI 7) hx hb dX0_makesArray_30 (by decide) ?_
        refine ln_icmp_ne (tgt := 39) hx hb dX0_makesArray_32 (by decide) (by omega) (by omega) (fun h4 => ?_) (fun h4 => ?_)
        · skip
          refine lv_iconst (v := nI 0) hx hb dX0_makesArray_39 (by decide) ?_
          exact ar_zret C hr (nI_z0.1) hW dX0_makesArray_40 (⟨congrArg (fun z => some (Value.int z)) (bI_f (by simp [zMk]; omega)), rfl⟩)
        · skip
          refine lv_iconst (v := nI 1) hx hb dX0_makesArray_35 (by decide) ?_
          refine lv_goto (tgt := 40) hx hb dX0_makesArray_36 (by decide) ?_
          exact ar_zret C hr (nI_z1.1) hW dX0_makesArray_40 (⟨congrArg (fun z => some (Value.int z)) (bI_t (by simp [zMk]; omega)), rfl⟩)
theorem hd_X6_clear : yX6_clear.cls ≠ "java/lang/invoke/MethodHandle" ∧ yX6_clear.cls ≠ "java/lang/invoke/VarHandle" ∧ (parseMethodDescriptor yX6_clear.desc).map (fun d => d.parameters.length) = some 0 := by decide +kernel
set_option maxHeartbeats 4000000 in
set_option maxRecDepth 100000 in
theorem c_X6_clear {l : Launch} (hl9 : l.stackTraces = false) {D : va_G} {ct : Nat → ClassId} {ad : Nat → Nat} (sc sg sh : Nat → Int32) (el : Nat → Nat → UInt64) (nf : Nat → Nat → Int32) (lr : Nat → Nat → Option Nat)  : ar_M l yX6_clear cX6_clear 1 none 0 0 D ct (xL ad ct) [.ref (ad 4)] (sc, sg, sh, el, nf, lr) (fun v9 u9 => v9 = none ∧ u9 = (va_up sc 4 (nI 0), sg, sh, el, nf, lr)) (fun _ _ => False) := by
  refine ar_ofW hl9 (by decide) (Nat.le_of_ble_eq_true rfl) ?_
  intro p e s m below meth c A ls C hr hnm hW hl
  have hx := C.1
  have hb := C.2.1
  have hown := C.2.2.2.1
  have hts := C.2.2.2.2.1
  have hl : lv_has ls 1 [(0, .ref (ad 4))] := hl
  refine lv_aload_n hx hb dX6_clear_0 rfl (lv_at hl 0 rfl) ?_
  refine lv_iconst (v := nI 0) hx hb dX6_clear_1 (by decide) ?_
  refine xp_count C hW q126 dX6_clear_2 (fun H locs hW => ?_)
  exact ar_vret C hr hW dX6_clear_5 (⟨rfl, rfl⟩)
theorem hd_X6_add : yX6_add.cls ≠ "java/lang/invoke/MethodHandle" ∧ yX6_add.cls ≠ "java/lang/invoke/VarHandle" ∧ (parseMethodDescriptor yX6_add.desc).map (fun d => d.parameters.length) = some 0 := by decide +kernel
set_option maxHeartbeats 4000000 in
set_option maxRecDepth 100000 in
theorem c_X6_add {l : Launch} (hl9 : l.stackTraces = false) {D : va_G} {ct : Nat → ClassId} {ad : Nat → Nat} (sc sg sh : Nat → Int32) (el : Nat → Nat → UInt64) (nf : Nat → Nat → Int32) (lr : Nat → Nat → Option Nat) (b : Nat) (hb9 : b ≤ 41) (hct : sc 4 = nI b) : ar_M l yX6_add cX6_add 2 (some (.object "ArrayText$Node")) 6 90 D ct (xL ad ct) [.ref (ad 4)] (sc, sg, sh, el, nf, lr) (fun v9 u9 => b < 41 ∧ v9 = some (.ref (ad (104 + b))) ∧ u9 = (va_up sc 4 (nI (b + 1)), sg, sh, el, zN0 nf b, zL0 lr b)) (fun E9 u9 => E9 = IAE ∧ 41 ≤ b ∧ u9 = (sc, sg, sh, el, nf, lr)) := by
  refine ar_ofW hl9 (by decide) (Nat.le_of_ble_eq_true rfl) ?_
  intro p e s m below meth c A ls C hr hnm hW hl
  have hx := C.1
  have hb := C.2.1
  have hown := C.2.2.2.1
  have hts := C.2.2.2.2.1
  have hl : lv_has ls 2 [(0, .ref (ad 4))] := hl
  refine lv_aload_n hx hb dX6_add_0 rfl (lv_at hl 0 rfl) ?_
  refine xg_count C hW q126 dX6_add_1 ?_
  refine ln_top (hct) ?_
  refine lv_bipush (v := nI 41) hx hb dX6_add_4 (by decide) ?_
  refine ln_icmp_lt (tgt := 19) hx hb dX6_add_6 (by decide) (by omega) (by omega) (fun h1 => ?_) (fun h1 => ?_)
  · skip
    refine lv_aload_n hx hb dX6_add_19 rfl (lv_at hl 0 rfl) ?_
    refine xg_nodes C hW q121 dX6_add_20 ?_
    refine lv_aload_n hx hb dX6_add_23 rfl (lv_at hl 0 rfl) ?_
    refine xg_count C hW q126 dX6_add_24 ?_
    refine ln_top (hct) ?_
    refine xl_nodes (j := b) C hW (by omega) dX6_add_27 ?_
    refine lv_astore_n (lv' := [(1, .ref (ad (104 + b))), (0, .ref (ad 4))]) hx hb dX6_add_28 rfl hl (by decide) rfl (fun ls hl => ?_)
    refine lv_aload_n hx hb dX6_add_29 rfl (lv_at hl 1 rfl) ?_
    refine lv_dup hx hb dX6_add_30 rfl ?_
    refine xg_count C hW q126 dX6_add_31 ?_
    refine ln_top (hct) ?_
    refine lv_iconst (v := nI 1) hx hb dX6_add_34 (by decide) ?_
    refine ln_iadd hx hb dX6_add_35 ?_
    refine xp_count C hW q126 dX6_add_36 (fun H locs hW => ?_)
    refine lv_aload_n hx hb dX6_add_39 rfl (lv_at hl 0 rfl) ?_
    refine ar_callV (As := []) (rest := []) C hW (c_X0_clear hl9 (va_up sc 4 (nI (b + 1))) sg sh el nf lr b (by omega)) (xl_at (by omega) (xc_nd (k := b))) rfl q394 q395 q396 q5 q397 hd_X0_clear ⟨Nat.le_of_ble_eq_true rfl, Nat.le_of_ble_eq_true rfl⟩ hl.1 (Nat.le_of_ble_eq_true rfl) rfl dX6_add_40 (fun _ _ _ _ _ _ hp => hp.elim) (fun v9 u9 H locs hp hW => ?_)
    obtain ⟨rfl, hu9⟩ := hp
    rw [hu9] at hW
    refine W.eq (g2 := F0 m 43 ls []) rfl ?_
    refine lv_aload_n hx hb dX6_add_43 rfl (lv_at hl 0 rfl) ?_
    exact ar_aret C hr hW dX6_add_44 (⟨by omega, rfl, rfl⟩)
  · skip
    exact ar_throw C hW ar_X_X6_24 hl.1 dX6_add_9 dX6_add_12 dX6_add_13 dX6_add_15 dX6_add_18 (Nat.le_of_ble_eq_true rfl) (Nat.le_of_ble_eq_true rfl) (⟨rfl, by omega, rfl⟩)
theorem hd_X6_arraysMade : yX6_arraysMade.cls ≠ "java/lang/invoke/MethodHandle" ∧ yX6_arraysMade.cls ≠ "java/lang/invoke/VarHandle" ∧ (parseMethodDescriptor yX6_arraysMade.desc).map (fun d => d.parameters.length) = some 1 := by decide +kernel
set_option maxHeartbeats 4000000 in
set_option maxRecDepth 100000 in
theorem c_X6_arraysMade {l : Launch} (hl9 : l.stackTraces = false) {D : va_G} {ct : Nat → ClassId} {ad : Nat → Nat} (sc sg sh : Nat → Int32) (el : Nat → Nat → UInt64) (nf : Nat → Nat → Int32) (lr : Nat → Nat → Option Nat) (r : Nat) (hr8 : r < 41) (x : Nat) (hx9 : x < 2 ^ 31) (hr9 : nf 0 r = nI x) (b : Nat) (hb9 : b ≤ 41) (hct : sc 4 = nI b) (kd : Nat → Nat) (hkd : ∀ k, k < b → nf 0 k = nI (kd k)) (hk10 : ∀ k, k < b → kd k ≤ 10) : ar_M l yX6_arraysMade cX6_arraysMade 4 (some .int) 1 20 D ct (xL ad ct) [.ref (ad 4), .ref (ad (104 + r))] (sc, sg, sh, el, nf, lr) (fun v9 u9 => v9 = some (.int (nI ((if zMk x = true then 0 else 1) + zMkC kd b))) ∧ u9 = (sc, sg, sh, el, nf, lr)) (fun _ _ => False) := by
  refine ar_ofW hl9 (by decide) (Nat.le_of_ble_eq_true rfl) ?_
  intro p e s m below meth c A ls C hr hnm hW hl
  have hx := C.1
  have hb := C.2.1
  have hown := C.2.2.2.1
  have hts := C.2.2.2.2.1
  have hl : lv_has ls 4 [(0, .ref (ad 4)), (1, .ref (ad (104 + r)))] := hl
  refine lv_aload_n hx hb dX6_arraysMade_0 rfl (lv_at hl 1 rfl) ?_
  refine ar_callV (As := []) (rest := []) C hW (c_X0_makesArray hl9 sc sg sh el nf lr r (by omega) x (by omega) (hr9)) (xl_at (by omega) (xc_nd (k := r))) rfl q570 q571 q572 q5 q573 hd_X0_makesArray ⟨Nat.le_of_ble_eq_true rfl, Nat.le_of_ble_eq_true rfl⟩ hl.1 (Nat.le_of_ble_eq_true rfl) rfl dX6_arraysMade_1 (fun _ _ _ _ _ _ hp => hp.elim) (fun v9 u9 H locs hp hW => ?_)
  obtain ⟨rfl, hu9⟩ := hp
  rw [hu9] at hW
  refine W.eq (g2 := F0 m 4 ls [.int (bI (zMk x))]) rfl ?_
  refine lb_if_eq (tgt := 11) hx hb dX6_arraysMade_4 (by decide) (fun h1 => ?_) (fun h1 => ?_)
  · skip
    refine lv_iconst (v := nI 1) hx hb dX6_arraysMade_11 (by decide) ?_
    refine lv_istore_n (lv' := [(2, .int (nI 1)), (0, .ref (ad 4)), (1, .ref (ad (104 + r)))]) hx hb dX6_arraysMade_12 rfl hl (by decide) rfl (fun ls hl => ?_)
    refine lv_iconst (v := nI 0) hx hb dX6_arraysMade_13 (by decide) ?_
    refine lv_istore_n (lv' := [(3, .int (nI 0)), (2, .int (nI 1)), (0, .ref (ad 4)), (1, .ref (ad (104 + r)))]) hx hb dX6_arraysMade_14 rfl hl (by decide) rfl (fun ls hl => ?_)
    have lp : ∀ (N9 : Nat) (k : Nat) (mm : Nat) (H : Heap) (locs : List Loc) (ls : Array Slot), b - k < N9 → (k ≤ b) → (mm = 1 + zMkC kd k) → ar_W D A s.heap H locs (xL ad ct (sc, sg, sh, el, nf, lr)) → lv_has ls 4 [(0, .ref (ad 4)), (1, .ref (ad (104 + r))), (2, .int (nI mm)), (3, .int (nI k))] → W p l e (ar_rm 1 20) s m [.ref (ad 4), .ref (ad (104 + r))].toArray below meth c H locs 0 0 (ar_E below (ar_Q D ct (xL ad ct) A (fun v9 u9 => v9 = some (.int (nI ((if zMk x = true then 0 else 1) + zMkC kd b))) ∧ u9 = (sc, sg, sh, el, nf, lr)) (fun _ _ => False)) [.ref (ad 4), .ref (ad (104 + r))].toArray s) (F0 m 15 ls []) := by
      intro N9
      induction N9 with
      | zero =>
        intro k mm H locs ls hN9
        exact absurd hN9 (Nat.not_lt_zero _)
      | succ N9 ihlp =>
        intro k mm H locs ls hN9 hk hm hW hl
        refine lv_iload_n hx hb dX6_arraysMade_15 rfl (lv_at hl 3 rfl) ?_
        refine lv_aload_n hx hb dX6_arraysMade_16 rfl (lv_at hl 0 rfl) ?_
        refine xg_count C hW q126 dX6_arraysMade_17 ?_
        refine ln_top (hct) ?_
        refine ln_icmp_ge (tgt := 44) hx hb dX6_arraysMade_20 (by decide) (by omega) (by omega) (fun h2 => ?_) (fun h2 => ?_)
        · skip
          refine lv_iload_n hx hb dX6_arraysMade_44 rfl (lv_at hl 2 rfl) ?_
          exact ar_iret C hr hW dX6_arraysMade_45 (⟨congrArg (fun z => some (Value.int (nI z))) (by rw [hm, show k = b by omega]; simp [h1]), rfl⟩)
        · skip
          refine lv_aload_n hx hb dX6_arraysMade_23 rfl (lv_at hl 0 rfl) ?_
          refine xg_nodes C hW q121 dX6_arraysMade_24 ?_
          refine lv_iload_n hx hb dX6_arraysMade_27 rfl (lv_at hl 3 rfl) ?_
          refine xl_nodes (j := k) C hW (by omega) dX6_arraysMade_28 ?_
          refine ar_callV (As := []) (rest := []) C hW (c_X0_makesArray hl9 sc sg sh el nf lr k (by omega) (kd k) (by have := hk10 k (by omega); omega) (hkd k (by omega))) (xl_at (by omega) (xc_nd (k := k))) rfl q570 q571 q572 q5 q573 hd_X0_makesArray ⟨Nat.le_of_ble_eq_true rfl, Nat.le_of_ble_eq_true rfl⟩ hl.1 (Nat.le_of_ble_eq_true rfl) rfl dX6_arraysMade_29 (fun _ _ _ _ _ _ hp => hp.elim) (fun v9 u9 H locs hp hW => ?_)
          obtain ⟨rfl, hu9⟩ := hp
          rw [hu9] at hW
          refine W.eq (g2 := F0 m 32 ls [.int (bI (zMk (kd k)))]) rfl ?_
          refine lb_if_eq (tgt := 38) hx hb dX6_arraysMade_32 (by decide) (fun h3 => ?_) (fun h3 => ?_)
          · skip
            refine ln_iinc (k := 3) (n := 1) (lv' := [(3, .int (nI (k + 1))), (0, .ref (ad 4)), (1, .ref (ad (104 + r))), (2, .int (nI mm))]) hx hb dX6_arraysMade_38 hl rfl (by decide) rfl (fun ls hl => ?_)
            refine lv_goto (tgt := 15) hx hb dX6_arraysMade_41 (by decide) ?_
            exact ihlp (k + 1) mm _ _ _ (by omega) (by omega) (by rw [zMkC, hm]; rw [if_neg (by rw [h3]; decide)]; omega) (hW) (lv_sub hl [1, 2, 3, 0] rfl)
          · skip
            refine ln_iinc (k := 2) (n := 1) (lv' := [(2, .int (nI (mm + 1))), (0, .ref (ad 4)), (1, .ref (ad (104 + r))), (3, .int (nI k))]) hx hb dX6_arraysMade_35 hl rfl (by decide) rfl (fun ls hl => ?_)
            refine ln_iinc (k := 3) (n := 1) (lv' := [(3, .int (nI (k + 1))), (2, .int (nI (mm + 1))), (0, .ref (ad 4)), (1, .ref (ad (104 + r)))]) hx hb dX6_arraysMade_38 hl rfl (by decide) rfl (fun ls hl => ?_)
            refine lv_goto (tgt := 15) hx hb dX6_arraysMade_41 (by decide) ?_
            exact ihlp (k + 1) (mm + 1) _ _ _ (by omega) (by omega) (by rw [zMkC, hm]; rw [if_pos h3]; omega) (hW) (lv_sub hl [2, 3, 1, 0] rfl)
    exact lp _ 0 1 _ _ _ (Nat.lt_succ_self _) (by omega) (rfl) (hW) (lv_sub hl [2, 3, 1, 0] rfl)
  · skip
    refine lv_iconst (v := nI 0) hx hb dX6_arraysMade_7 (by decide) ?_
    refine lv_goto (tgt := 12) hx hb dX6_arraysMade_8 (by decide) ?_
    refine lv_istore_n (lv' := [(2, .int (nI 0)), (0, .ref (ad 4)), (1, .ref (ad (104 + r)))]) hx hb dX6_arraysMade_12 rfl hl (by decide) rfl (fun ls hl => ?_)
    refine lv_iconst (v := nI 0) hx hb dX6_arraysMade_13 (by decide) ?_
    refine lv_istore_n (lv' := [(3, .int (nI 0)), (2, .int (nI 0)), (0, .ref (ad 4)), (1, .ref (ad (104 + r)))]) hx hb dX6_arraysMade_14 rfl hl (by decide) rfl (fun ls hl => ?_)
    have lp : ∀ (N9 : Nat) (k : Nat) (mm : Nat) (H : Heap) (locs : List Loc) (ls : Array Slot), b - k < N9 → (k ≤ b) → (mm = 0 + zMkC kd k) → ar_W D A s.heap H locs (xL ad ct (sc, sg, sh, el, nf, lr)) → lv_has ls 4 [(0, .ref (ad 4)), (1, .ref (ad (104 + r))), (2, .int (nI mm)), (3, .int (nI k))] → W p l e (ar_rm 1 20) s m [.ref (ad 4), .ref (ad (104 + r))].toArray below meth c H locs 0 0 (ar_E below (ar_Q D ct (xL ad ct) A (fun v9 u9 => v9 = some (.int (nI ((if zMk x = true then 0 else 1) + zMkC kd b))) ∧ u9 = (sc, sg, sh, el, nf, lr)) (fun _ _ => False)) [.ref (ad 4), .ref (ad (104 + r))].toArray s) (F0 m 15 ls []) := by
      intro N9
      induction N9 with
      | zero =>
        intro k mm H locs ls hN9
        exact absurd hN9 (Nat.not_lt_zero _)
      | succ N9 ihlp =>
        intro k mm H locs ls hN9 hk hm hW hl
        refine lv_iload_n hx hb dX6_arraysMade_15 rfl (lv_at hl 3 rfl) ?_
        refine lv_aload_n hx hb dX6_arraysMade_16 rfl (lv_at hl 0 rfl) ?_
        refine xg_count C hW q126 dX6_arraysMade_17 ?_
        refine ln_top (hct) ?_
        refine ln_icmp_ge (tgt := 44) hx hb dX6_arraysMade_20 (by decide) (by omega) (by omega) (fun h4 => ?_) (fun h4 => ?_)
        · skip
          refine lv_iload_n hx hb dX6_arraysMade_44 rfl (lv_at hl 2 rfl) ?_
          exact ar_iret C hr hW dX6_arraysMade_45 (⟨congrArg (fun z => some (Value.int (nI z))) (by rw [hm, show k = b by omega]; simp [h1]), rfl⟩)
        · skip
          refine lv_aload_n hx hb dX6_arraysMade_23 rfl (lv_at hl 0 rfl) ?_
          refine xg_nodes C hW q121 dX6_arraysMade_24 ?_
          refine lv_iload_n hx hb dX6_arraysMade_27 rfl (lv_at hl 3 rfl) ?_
          refine xl_nodes (j := k) C hW (by omega) dX6_arraysMade_28 ?_
          refine ar_callV (As := []) (rest := []) C hW (c_X0_makesArray hl9 sc sg sh el nf lr k (by omega) (kd k) (by have := hk10 k (by omega); omega) (hkd k (by omega))) (xl_at (by omega) (xc_nd (k := k))) rfl q570 q571 q572 q5 q573 hd_X0_makesArray ⟨Nat.le_of_ble_eq_true rfl, Nat.le_of_ble_eq_true rfl⟩ hl.1 (Nat.le_of_ble_eq_true rfl) rfl dX6_arraysMade_29 (fun _ _ _ _ _ _ hp => hp.elim) (fun v9 u9 H locs hp hW => ?_)
          obtain ⟨rfl, hu9⟩ := hp
          rw [hu9] at hW
          refine W.eq (g2 := F0 m 32 ls [.int (bI (zMk (kd k)))]) rfl ?_
          refine lb_if_eq (tgt := 38) hx hb dX6_arraysMade_32 (by decide) (fun h5 => ?_) (fun h5 => ?_)
          · skip
            refine ln_iinc (k := 3) (n := 1) (lv' := [(3, .int (nI (k + 1))), (0, .ref (ad 4)), (1, .ref (ad (104 + r))), (2, .int (nI mm))]) hx hb dX6_arraysMade_38 hl rfl (by decide) rfl (fun ls hl => ?_)
            refine lv_goto (tgt := 15) hx hb dX6_arraysMade_41 (by decide) ?_
            exact ihlp (k + 1) mm _ _ _ (by omega) (by omega) (by rw [zMkC, hm]; rw [if_neg (by rw [h5]; decide)]; omega) (hW) (lv_sub hl [1, 2, 3, 0] rfl)
          · skip
            refine ln_iinc (k := 2) (n := 1) (lv' := [(2, .int (nI (mm + 1))), (0, .ref (ad 4)), (1, .ref (ad (104 + r))), (3, .int (nI k))]) hx hb dX6_arraysMade_35 hl rfl (by decide) rfl (fun ls hl => ?_)
            refine ln_iinc (k := 3) (n := 1) (lv' := [(3, .int (nI (k + 1))), (2, .int (nI (mm + 1))), (0, .ref (ad 4)), (1, .ref (ad (104 + r)))]) hx hb dX6_arraysMade_38 hl rfl (by decide) rfl (fun ls hl => ?_)
            refine lv_goto (tgt := 15) hx hb dX6_arraysMade_41 (by decide) ?_
            exact ihlp (k + 1) (mm + 1) _ _ _ (by omega) (by omega) (by rw [zMkC, hm]; rw [if_pos h5]; omega) (hW) (lv_sub hl [2, 3, 1, 0] rfl)
    exact lp _ 0 0 _ _ _ (Nat.lt_succ_self _) (by omega) (rfl) (hW) (lv_sub hl [2, 3, 1, 0] rfl)
theorem hd_X8_made : yX8_made.cls ≠ "java/lang/invoke/MethodHandle" ∧ yX8_made.cls ≠ "java/lang/invoke/VarHandle" ∧ (parseMethodDescriptor yX8_made.desc).map (fun d => d.parameters.length) = some 0 := by decide +kernel
set_option maxHeartbeats 4000000 in
set_option maxRecDepth 100000 in
theorem c_X8_made {l : Launch} (hl9 : l.stackTraces = false) {D : va_G} {ct : Nat → ClassId} {ad : Nat → Nat} (sc sg sh : Nat → Int32) (el : Nat → Nat → UInt64) (nf : Nat → Nat → Int32) (lr : Nat → Nat → Option Nat)  : ar_M l yX8_made cX8_made 1 (some .int) 0 0 D ct (xL ad ct) [.ref (ad 0)] (sc, sg, sh, el, nf, lr) (fun v9 u9 => v9 = some (.int (sc 0)) ∧ u9 = (sc, sg, sh, el, nf, lr)) (fun _ _ => False) := by
  refine ar_ofW hl9 (by decide) (Nat.le_of_ble_eq_true rfl) ?_
  intro p e s m below meth c A ls C hr hnm hW hl
  have hx := C.1
  have hb := C.2.1
  have hown := C.2.2.2.1
  have hts := C.2.2.2.2.1
  have hl : lv_has ls 1 [(0, .ref (ad 0))] := hl
  refine lv_aload_n hx hb dX8_made_0 rfl (lv_at hl 0 rfl) ?_
  refine xg_madeByLatest C hW q135 dX8_made_1 ?_
  exact ar_iret C hr hW dX8_made_4 (⟨rfl, rfl⟩)
theorem hd_X8_runs : yX8_runs.cls ≠ "java/lang/invoke/MethodHandle" ∧ yX8_runs.cls ≠ "java/lang/invoke/VarHandle" ∧ (parseMethodDescriptor yX8_runs.desc).map (fun d => d.parameters.length) = some 0 := by decide +kernel
set_option maxHeartbeats 4000000 in
set_option maxRecDepth 100000 in
theorem c_X8_runs {l : Launch} (hl9 : l.stackTraces = false) {D : va_G} {ct : Nat → ClassId} {ad : Nat → Nat} (sc sg sh : Nat → Int32) (el : Nat → Nat → UInt64) (nf : Nat → Nat → Int32) (lr : Nat → Nat → Option Nat)  : ar_M l yX8_runs cX8_runs 1 (some .int) 0 0 D ct (xL ad ct) [.ref (ad 0)] (sc, sg, sh, el, nf, lr) (fun v9 u9 => v9 = some (.int (sc 1)) ∧ u9 = (sc, sg, sh, el, nf, lr)) (fun _ _ => False) := by
  refine ar_ofW hl9 (by decide) (Nat.le_of_ble_eq_true rfl) ?_
  intro p e s m below meth c A ls C hr hnm hW hl
  have hx := C.1
  have hb := C.2.1
  have hown := C.2.2.2.1
  have hts := C.2.2.2.2.1
  have hl : lv_has ls 1 [(0, .ref (ad 0))] := hl
  refine lv_aload_n hx hb dX8_runs_0 rfl (lv_at hl 0 rfl) ?_
  refine xg_runsSoFar C hW q136 dX8_runs_1 ?_
  exact ar_iret C hr hW dX8_runs_4 (⟨rfl, rfl⟩)
theorem hd_X8_shapeOf : yX8_shapeOf.cls ≠ "java/lang/invoke/MethodHandle" ∧ yX8_shapeOf.cls ≠ "java/lang/invoke/VarHandle" ∧ (parseMethodDescriptor yX8_shapeOf.desc).map (fun d => d.parameters.length) = some 1 := by decide +kernel
set_option maxHeartbeats 4000000 in
set_option maxRecDepth 100000 in
theorem c_X8_shapeOf {l : Launch} (hl9 : l.stackTraces = false) {D : va_G} {ct : Nat → ClassId} {ad : Nat → Nat} (sc sg sh : Nat → Int32) (el : Nat → Nat → UInt64) (nf : Nat → Nat → Int32) (lr : Nat → Nat → Option Nat) (v : Int32) (vs : Nat → Nat) (hvs : ∀ j, j < 8 → sh j = nI (vs j)) (hvl : ∀ j, j < 8 → vs j < 2 ^ 20) : ar_M l yX8_shapeOf cX8_shapeOf 2 (some .int) 1 20 D ct (xL ad ct) [.ref (ad 0), .int v] (sc, sg, sh, el, nf, lr) (fun v9 u9 => u9 = (sc, sg, sh, el, nf, lr) ∧ ((vOk v = false ∧ v9 = some (.int (-1))) ∨ ∃ j : Nat, j < 8 ∧ v = nI j ∧ v9 = some (.int (nI (vs j))))) (fun _ _ => False) := by
  refine ar_ofW hl9 (by decide) (Nat.le_of_ble_eq_true rfl) ?_
  intro p e s m below meth c A ls C hr hnm hW hl
  have hx := C.1
  have hb := C.2.1
  have hown := C.2.2.2.1
  have hts := C.2.2.2.2.1
  have hl : lv_has ls 2 [(0, .ref (ad 0)), (1, .int v)] := hl
  refine lv_iload_n hx hb dX8_shapeOf_0 rfl (lv_at hl 1 rfl) ?_
  refine ar_callS (As := [.int v]) (rest := []) C hW (c_X8_isVariable hl9 _ v) q174 q175 q1 q176 hd_X8_isVariable ⟨Nat.le_of_ble_eq_true rfl, Nat.le_of_ble_eq_true rfl⟩ hl.1 (Nat.le_of_ble_eq_true rfl) rfl dX8_shapeOf_1 (fun _ _ _ _ _ _ hp => hp.elim) (fun v9 u9 H locs hp hW => ?_)
  obtain ⟨rfl, hu9⟩ := hp
  rw [hu9] at hW
  refine W.eq (g2 := F0 m 4 ls [.int (bI (vOk v))]) rfl ?_
  refine lb_if_eq (tgt := 19) hx hb dX8_shapeOf_4 (by decide) (fun h1 => ?_) (fun h1 => ?_)
  · skip
    refine lv_iconst (v := -1) hx hb dX8_shapeOf_19 (by decide) ?_
    exact ar_iret C hr hW dX8_shapeOf_20 (⟨rfl, Or.inl ⟨h1, rfl⟩⟩)
  · skip
    obtain ⟨j, hj8, rfl⟩ := vOk_nat h1
    refine lv_aload_n hx hb dX8_shapeOf_7 rfl (lv_at hl 0 rfl) ?_
    refine xg_variables C hW q132 dX8_shapeOf_8 ?_
    refine lv_iload_n hx hb dX8_shapeOf_11 rfl (lv_at hl 1 rfl) ?_
    refine xl_variables (j := j) C hW (by omega) dX8_shapeOf_12 ?_
    refine xg_shape (j := j) C hW q38 (by omega) dX8_shapeOf_13 ?_
    refine ln_top (hvs j hj8) ?_
    refine lv_goto (tgt := 20) hx hb dX8_shapeOf_16 (by decide) ?_
    exact ar_iret C hr hW dX8_shapeOf_20 (⟨rfl, Or.inr ⟨j, hj8, rfl, rfl⟩⟩)
theorem hd_X8_size : yX8_size.cls ≠ "java/lang/invoke/MethodHandle" ∧ yX8_size.cls ≠ "java/lang/invoke/VarHandle" ∧ (parseMethodDescriptor yX8_size.desc).map (fun d => d.parameters.length) = some 1 := by decide +kernel
set_option maxHeartbeats 4000000 in
set_option maxRecDepth 100000 in
theorem c_X8_size {l : Launch} (hl9 : l.stackTraces = false) {D : va_G} {ct : Nat → ClassId} {ad : Nat → Nat} (sc sg sh : Nat → Int32) (el : Nat → Nat → UInt64) (nf : Nat → Nat → Int32) (lr : Nat → Nat → Option Nat) (v : Int32) (vs : Nat → Nat) (hvs : ∀ j, j < 8 → sh j = nI (vs j)) (hvl : ∀ j, j < 8 → vs j < 2 ^ 20) : ar_M l yX8_size cX8_size 2 (some .int) 3 60 D ct (xL ad ct) [.ref (ad 0), .int v] (sc, sg, sh, el, nf, lr) (fun v9 u9 => u9 = (sc, sg, sh, el, nf, lr) ∧ ((vOk v = false ∧ v9 = some (.int (-1))) ∨ ∃ j : Nat, j < 8 ∧ v = nI j ∧ v9 = some (.int (nI (zCt (vs j)))))) (fun _ _ => False) := by
  refine ar_ofW hl9 (by decide) (Nat.le_of_ble_eq_true rfl) ?_
  intro p e s m below meth c A ls C hr hnm hW hl
  have hx := C.1
  have hb := C.2.1
  have hown := C.2.2.2.1
  have hts := C.2.2.2.2.1
  have hl : lv_has ls 2 [(0, .ref (ad 0)), (1, .int v)] := hl
  refine lv_iload_n hx hb dX8_size_0 rfl (lv_at hl 1 rfl) ?_
  refine ar_callS (As := [.int v]) (rest := []) C hW (c_X8_isVariable hl9 _ v) q174 q175 q1 q176 hd_X8_isVariable ⟨Nat.le_of_ble_eq_true rfl, Nat.le_of_ble_eq_true rfl⟩ hl.1 (Nat.le_of_ble_eq_true rfl) rfl dX8_size_1 (fun _ _ _ _ _ _ hp => hp.elim) (fun v9 u9 H locs hp hW => ?_)
  obtain ⟨rfl, hu9⟩ := hp
  rw [hu9] at hW
  refine W.eq (g2 := F0 m 4 ls [.int (bI (vOk v))]) rfl ?_
  refine lb_if_eq (tgt := 19) hx hb dX8_size_4 (by decide) (fun h1 => ?_) (fun h1 => ?_)
  · skip
    refine lv_iconst (v := -1) hx hb dX8_size_19 (by decide) ?_
    exact ar_iret C hr hW dX8_size_20 (⟨rfl, Or.inl ⟨h1, rfl⟩⟩)
  · skip
    obtain ⟨j, hj8, rfl⟩ := vOk_nat h1
    refine lv_aload_n hx hb dX8_size_7 rfl (lv_at hl 0 rfl) ?_
    refine xg_variables C hW q132 dX8_size_8 ?_
    refine lv_iload_n hx hb dX8_size_11 rfl (lv_at hl 1 rfl) ?_
    refine xl_variables (j := j) C hW (by omega) dX8_size_12 ?_
    refine ar_callV (As := []) (rest := []) C hW (c_X1_count hl9 sc sg sh el nf lr j (by omega) (vs j) (by have := hvl j hj8; omega) (hvs j hj8)) (xl_at (by omega) (xc_na (j := j) (by omega))) rfl q228 q214 q215 q2 q216 hd_X1_count ⟨Nat.le_of_ble_eq_true rfl, Nat.le_of_ble_eq_true rfl⟩ hl.1 (Nat.le_of_ble_eq_true rfl) rfl dX8_size_13 (fun _ _ _ _ _ _ hp => hp.elim) (fun v9 u9 H locs hp hW => ?_)
    obtain ⟨rfl, hu9⟩ := hp
    rw [hu9] at hW
    refine W.eq (g2 := F0 m 16 ls [.int (nI (zCt (vs j)))]) rfl ?_
    refine lv_goto (tgt := 20) hx hb dX8_size_16 (by decide) ?_
    exact ar_iret C hr hW dX8_size_20 (⟨rfl, Or.inr ⟨j, hj8, rfl, rfl⟩⟩)
theorem hd_X8_at : yX8_at.cls ≠ "java/lang/invoke/MethodHandle" ∧ yX8_at.cls ≠ "java/lang/invoke/VarHandle" ∧ (parseMethodDescriptor yX8_at.desc).map (fun d => d.parameters.length) = some 2 := by decide +kernel
set_option maxHeartbeats 4000000 in
set_option maxRecDepth 100000 in
theorem c_X8_at {l : Launch} (hl9 : l.stackTraces = false) {D : va_G} {ct : Nat → ClassId} {ad : Nat → Nat} (sc sg sh : Nat → Int32) (el : Nat → Nat → UInt64) (nf : Nat → Nat → Int32) (lr : Nat → Nat → Option Nat) (v i : Int32) (vs : Nat → Nat) (hvs : ∀ j, j < 8 → sh j = nI (vs j)) (hvl : ∀ j, j < 8 → vs j < 2 ^ 20) (hvc : ∀ j, j < 8 → zCt (vs j) ≤ 24) : ar_M l yX8_at cX8_at 3 (some .double) 4 81 D ct (xL ad ct) [.ref (ad 0), .int v, .int i] (sc, sg, sh, el, nf, lr) (fun v9 u9 => u9 = (sc, sg, sh, el, nf, lr) ∧ (((vOk v = false ∨ ∃ j : Nat, j < 8 ∧ v = nI j ∧ zHas i (zCt (vs j)) = false) ∧ v9 = some (.double FP.dconst0)) ∨ ∃ j i9 : Nat, j < 8 ∧ v = nI j ∧ i9 < zCt (vs j) ∧ i = nI i9 ∧ v9 = some (.double (el j i9)))) (fun _ _ => False) := by
  refine ar_ofW hl9 (by decide) (Nat.le_of_ble_eq_true rfl) ?_
  intro p e s m below meth c A ls C hr hnm hW hl
  have hx := C.1
  have hb := C.2.1
  have hown := C.2.2.2.1
  have hts := C.2.2.2.2.1
  have hl : lv_has ls 3 [(0, .ref (ad 0)), (1, .int v), (2, .int i)] := hl
  refine lv_iload_n hx hb dX8_at_0 rfl (lv_at hl 1 rfl) ?_
  refine ar_callS (As := [.int v]) (rest := []) C hW (c_X8_isVariable hl9 _ v) q174 q175 q1 q176 hd_X8_isVariable ⟨Nat.le_of_ble_eq_true rfl, Nat.le_of_ble_eq_true rfl⟩ hl.1 (Nat.le_of_ble_eq_true rfl) rfl dX8_at_1 (fun _ _ _ _ _ _ hp => hp.elim) (fun v9 u9 H locs hp hW => ?_)
  obtain ⟨rfl, hu9⟩ := hp
  rw [hu9] at hW
  refine W.eq (g2 := F0 m 4 ls [.int (bI (vOk v))]) rfl ?_
  refine lb_if_eq (tgt := 34) hx hb dX8_at_4 (by decide) (fun h1 => ?_) (fun h1 => ?_)
  · skip
    refine lv_dconst0 hx hb dX8_at_34 ?_
    exact ar_dret C hr hW dX8_at_35 (⟨rfl, Or.inl ⟨by first | exact Or.inl h1 | exact Or.inr ⟨j, hj8, rfl, h2⟩, rfl⟩⟩)
  · skip
    obtain ⟨j, hj8, rfl⟩ := vOk_nat h1
    refine lv_aload_n hx hb dX8_at_7 rfl (lv_at hl 0 rfl) ?_
    refine xg_variables C hW q132 dX8_at_8 ?_
    refine lv_iload_n hx hb dX8_at_11 rfl (lv_at hl 1 rfl) ?_
    refine xl_variables (j := j) C hW (by omega) dX8_at_12 ?_
    refine lv_iload_n hx hb dX8_at_13 rfl (lv_at hl 2 rfl) ?_
    refine ar_callV (As := [.int i]) (rest := []) C hW (c_X1_hasElement hl9 sc sg sh el nf lr j (by omega) (vs j) (hvl j hj8) (hvs j hj8) i) (xl_at (by omega) (xc_na (j := j) (by omega))) rfl q209 q210 q211 q2 q212 hd_X1_hasElement ⟨Nat.le_of_ble_eq_true rfl, Nat.le_of_ble_eq_true rfl⟩ hl.1 (Nat.le_of_ble_eq_true rfl) rfl dX8_at_14 (fun _ _ _ _ _ _ hp => hp.elim) (fun v9 u9 H locs hp hW => ?_)
    obtain ⟨rfl, hu9⟩ := hp
    rw [hu9] at hW
    refine W.eq (g2 := F0 m 17 ls [.int (bI (zHas i (zCt (vs j))))]) rfl ?_
    refine lb_if_eq (tgt := 34) hx hb dX8_at_17 (by decide) (fun h2 => ?_) (fun h2 => ?_)
    · skip
      refine lv_dconst0 hx hb dX8_at_34 ?_
      exact ar_dret C hr hW dX8_at_35 (⟨rfl, Or.inl ⟨by first | exact Or.inl h1 | exact Or.inr ⟨j, hj8, rfl, h2⟩, rfl⟩⟩)
    · skip
      have hct9 : zCt (vs j) ≤ 24 := hvc j hj8
      obtain ⟨i9, hi9, rfl⟩ := zHas_nat (by omega) h2
      refine lv_aload_n hx hb dX8_at_20 rfl (lv_at hl 0 rfl) ?_
      refine xg_variables C hW q132 dX8_at_21 ?_
      refine lv_iload_n hx hb dX8_at_24 rfl (lv_at hl 1 rfl) ?_
      refine xl_variables (j := j) C hW (by omega) dX8_at_25 ?_
      refine xg_elements (j := j) C hW q43 (by omega) dX8_at_26 ?_
      refine lv_iload_n hx hb dX8_at_29 rfl (lv_at hl 2 rfl) ?_
      refine xl_elements (j := j) (i := i9) C hW (by omega) (by omega) dX8_at_30 ?_
      refine lv_goto (tgt := 35) hx hb dX8_at_31 (by decide) ?_
      exact ar_dret C hr hW dX8_at_35 (⟨rfl, Or.inr ⟨j, i9, hj8, rfl, hi9, rfl, rfl⟩⟩)
theorem hd_X8_put : yX8_put.cls ≠ "java/lang/invoke/MethodHandle" ∧ yX8_put.cls ≠ "java/lang/invoke/VarHandle" ∧ (parseMethodDescriptor yX8_put.desc).map (fun d => d.parameters.length) = some 2 := by decide +kernel
set_option maxHeartbeats 4000000 in
set_option maxRecDepth 100000 in
theorem c_X8_put {l : Launch} (hl9 : l.stackTraces = false) {D : va_G} {ct : Nat → ClassId} {ad : Nat → Nat} (sc sg sh : Nat → Int32) (el : Nat → Nat → UInt64) (nf : Nat → Nat → Int32) (lr : Nat → Nat → Option Nat) (v : Int32) (x : UInt64) : ar_M l yX8_put cX8_put 4 (some .boolean) 1 21 D ct (xL ad ct) [.ref (ad 0), .int v, .double x] (sc, sg, sh, el, nf, lr) (fun v9 u9 => ((vOk v = false ∨ zRg x = false) ∧ v9 = some (.int (nI 0)) ∧ u9 = (sc, sg, sh, el, nf, lr)) ∨ ∃ j : Nat, j < 8 ∧ v = nI j ∧ zRg x = true ∧ v9 = some (.int (nI 1)) ∧ u9 = (sc, sg, va_up sh j (nI 0), va_up el j (va_up (el j) 0 x), nf, lr)) (fun _ _ => False) := by
  refine ar_ofW hl9 (by decide) (Nat.le_of_ble_eq_true rfl) ?_
  intro p e s m below meth c A ls C hr hnm hW hl
  have hx := C.1
  have hb := C.2.1
  have hown := C.2.2.2.1
  have hts := C.2.2.2.2.1
  have hl : lv_has ls 4 [(0, .ref (ad 0)), (1, .int v), (2, .double x)] := hl
  refine lv_iload_n hx hb dX8_put_0 rfl (lv_at hl 1 rfl) ?_
  refine ar_callS (As := [.int v]) (rest := []) C hW (c_X8_isVariable hl9 _ v) q174 q175 q1 q176 hd_X8_isVariable ⟨Nat.le_of_ble_eq_true rfl, Nat.le_of_ble_eq_true rfl⟩ hl.1 (Nat.le_of_ble_eq_true rfl) rfl dX8_put_1 (fun _ _ _ _ _ _ hp => hp.elim) (fun v9 u9 H locs hp hW => ?_)
  obtain ⟨rfl, hu9⟩ := hp
  rw [hu9] at hW
  refine W.eq (g2 := F0 m 4 ls [.int (bI (vOk v))]) rfl ?_
  refine lb_if_eq (tgt := 14) hx hb dX8_put_4 (by decide) (fun h1 => ?_) (fun h1 => ?_)
  · skip
    refine lv_iconst (v := nI 0) hx hb dX8_put_14 (by decide) ?_
    exact ar_zret C hr (nI_z0.1) hW dX8_put_15 (Or.inl ⟨by first | exact Or.inl h1 | exact Or.inr h2, rfl, rfl⟩)
  · skip
    obtain ⟨j, hj8, rfl⟩ := vOk_nat h1
    refine lv_dload_n hx hb dX8_put_7 rfl (lv_at hl 2 rfl) ?_
    refine ar_callS (As := [.double x]) (rest := []) C hW (c_X8_isInRange hl9 _ x) q177 q178 q1 q179 hd_X8_isInRange ⟨Nat.le_of_ble_eq_true rfl, Nat.le_of_ble_eq_true rfl⟩ hl.1 (Nat.le_of_ble_eq_true rfl) rfl dX8_put_8 (fun _ _ _ _ _ _ hp => hp.elim) (fun v9 u9 H locs hp hW => ?_)
    obtain ⟨rfl, hu9⟩ := hp
    rw [hu9] at hW
    refine W.eq (g2 := F0 m 11 ls [.int (bI (zRg x))]) rfl ?_
    refine lb_if_ne (tgt := 16) hx hb dX8_put_11 (by decide) (fun h2 => ?_) (fun h2 => ?_)
    · skip
      refine lv_aload_n hx hb dX8_put_16 rfl (lv_at hl 0 rfl) ?_
      refine xg_variables C hW q132 dX8_put_17 ?_
      refine lv_iload_n hx hb dX8_put_20 rfl (lv_at hl 1 rfl) ?_
      refine xl_variables (j := j) C hW (by omega) dX8_put_21 ?_
      refine lv_iconst (v := nI 0) hx hb dX8_put_22 (by decide) ?_
      refine xp_shape (j := j) C hW q38 (by omega) dX8_put_23 (fun H locs hW => ?_)
      refine lv_aload_n hx hb dX8_put_26 rfl (lv_at hl 0 rfl) ?_
      refine xg_variables C hW q132 dX8_put_27 ?_
      refine lv_iload_n hx hb dX8_put_30 rfl (lv_at hl 1 rfl) ?_
      refine xl_variables (j := j) C hW (by omega) dX8_put_31 ?_
      refine xg_elements (j := j) C hW q43 (by omega) dX8_put_32 ?_
      refine lv_iconst (v := nI 0) hx hb dX8_put_35 (by decide) ?_
      refine lv_dload_n hx hb dX8_put_36 rfl (lv_at hl 2 rfl) ?_
      refine xs_elements (j := j) (i := 0) C hW (by omega) (by omega) dX8_put_37 (fun H locs hW => ?_)
      refine lv_iconst (v := nI 1) hx hb dX8_put_38 (by decide) ?_
      exact ar_zret C hr (nI_z1.1) hW dX8_put_39 (Or.inr ⟨j, hj8, rfl, h2, rfl, rfl⟩)
    · skip
      refine lv_iconst (v := nI 0) hx hb dX8_put_14 (by decide) ?_
      exact ar_zret C hr (nI_z0.1) hW dX8_put_15 (Or.inl ⟨by first | exact Or.inl h1 | exact Or.inr h2, rfl, rfl⟩)
theorem hd_X8_shape : yX8_shape.cls ≠ "java/lang/invoke/MethodHandle" ∧ yX8_shape.cls ≠ "java/lang/invoke/VarHandle" ∧ (parseMethodDescriptor yX8_shape.desc).map (fun d => d.parameters.length) = some 2 := by decide +kernel
set_option maxHeartbeats 4000000 in
set_option maxRecDepth 100000 in
theorem c_X8_shape {l : Launch} (hl9 : l.stackTraces = false) {D : va_G} {ct : Nat → ClassId} {ad : Nat → Nat} (sc sg sh : Nat → Int32) (el : Nat → Nat → UInt64) (nf : Nat → Nat → Int32) (lr : Nat → Nat → Option Nat) (v x : Int32) : ar_M l yX8_shape cX8_shape 3 (some .boolean) 2 41 D ct (xL ad ct) [.ref (ad 0), .int v, .int x] (sc, sg, sh, el, nf, lr) (fun v9 u9 => ((vOk v = false ∨ zEx x = false) ∧ v9 = some (.int (nI 0)) ∧ u9 = (sc, sg, sh, el, nf, lr)) ∨ ∃ j : Nat, j < 8 ∧ v = nI j ∧ zEx x = true ∧ v9 = some (.int (nI 1)) ∧ u9 = (sc, sg, va_up sh j x, va_up el j (zZ (el j)), nf, lr)) (fun _ _ => False) := by
  refine ar_ofW hl9 (by decide) (Nat.le_of_ble_eq_true rfl) ?_
  intro p e s m below meth c A ls C hr hnm hW hl
  have hx := C.1
  have hb := C.2.1
  have hown := C.2.2.2.1
  have hts := C.2.2.2.2.1
  have hl : lv_has ls 3 [(0, .ref (ad 0)), (1, .int v), (2, .int x)] := hl
  refine lv_iload_n hx hb dX8_shape_0 rfl (lv_at hl 1 rfl) ?_
  refine ar_callS (As := [.int v]) (rest := []) C hW (c_X8_isVariable hl9 _ v) q174 q175 q1 q176 hd_X8_isVariable ⟨Nat.le_of_ble_eq_true rfl, Nat.le_of_ble_eq_true rfl⟩ hl.1 (Nat.le_of_ble_eq_true rfl) rfl dX8_shape_1 (fun _ _ _ _ _ _ hp => hp.elim) (fun v9 u9 H locs hp hW => ?_)
  obtain ⟨rfl, hu9⟩ := hp
  rw [hu9] at hW
  refine W.eq (g2 := F0 m 4 ls [.int (bI (vOk v))]) rfl ?_
  refine lb_if_eq (tgt := 14) hx hb dX8_shape_4 (by decide) (fun h1 => ?_) (fun h1 => ?_)
  · skip
    refine lv_iconst (v := nI 0) hx hb dX8_shape_14 (by decide) ?_
    exact ar_zret C hr (nI_z0.1) hW dX8_shape_15 (Or.inl ⟨by first | exact Or.inl h1 | exact Or.inr h2, rfl, rfl⟩)
  · skip
    obtain ⟨j, hj8, rfl⟩ := vOk_nat h1
    refine lv_iload_n hx hb dX8_shape_7 rfl (lv_at hl 2 rfl) ?_
    refine ar_callS (As := [.int x]) (rest := []) C hW (c_X4_exists hl9 _ x) q186 q187 q7 q188 hd_X4_exists ⟨Nat.le_of_ble_eq_true rfl, Nat.le_of_ble_eq_true rfl⟩ hl.1 (Nat.le_of_ble_eq_true rfl) rfl dX8_shape_8 (fun _ _ _ _ _ _ hp => hp.elim) (fun v9 u9 H locs hp hW => ?_)
    obtain ⟨rfl, hu9⟩ := hp
    rw [hu9] at hW
    refine W.eq (g2 := F0 m 11 ls [.int (bI (zEx x))]) rfl ?_
    refine lb_if_ne (tgt := 16) hx hb dX8_shape_11 (by decide) (fun h2 => ?_) (fun h2 => ?_)
    · skip
      refine lv_aload_n hx hb dX8_shape_16 rfl (lv_at hl 0 rfl) ?_
      refine xg_variables C hW q132 dX8_shape_17 ?_
      refine lv_iload_n hx hb dX8_shape_20 rfl (lv_at hl 1 rfl) ?_
      refine xl_variables (j := j) C hW (by omega) dX8_shape_21 ?_
      refine lv_iload_n hx hb dX8_shape_22 rfl (lv_at hl 2 rfl) ?_
      refine ar_callV (As := [.int x]) (rest := []) C hW (c_X1_becomeZeros hl9 sc sg sh el nf lr j (by omega) x) (xl_at (by omega) (xc_na (j := j) (by omega))) rfl q201 q202 q203 q2 q204 hd_X1_becomeZeros ⟨Nat.le_of_ble_eq_true rfl, Nat.le_of_ble_eq_true rfl⟩ hl.1 (Nat.le_of_ble_eq_true rfl) rfl dX8_shape_23 (fun _ _ _ _ _ _ hp => hp.elim) (fun v9 u9 H locs hp hW => ?_)
      obtain ⟨rfl, hu9⟩ := hp
      rw [hu9] at hW
      refine W.eq (g2 := F0 m 26 ls []) rfl ?_
      refine lv_iconst (v := nI 1) hx hb dX8_shape_26 (by decide) ?_
      exact ar_zret C hr (nI_z1.1) hW dX8_shape_27 (Or.inr ⟨j, hj8, rfl, h2, rfl, rfl⟩)
    · skip
      refine lv_iconst (v := nI 0) hx hb dX8_shape_14 (by decide) ?_
      exact ar_zret C hr (nI_z0.1) hW dX8_shape_15 (Or.inl ⟨by first | exact Or.inl h1 | exact Or.inr h2, rfl, rfl⟩)
theorem hd_X8_set : yX8_set.cls ≠ "java/lang/invoke/MethodHandle" ∧ yX8_set.cls ≠ "java/lang/invoke/VarHandle" ∧ (parseMethodDescriptor yX8_set.desc).map (fun d => d.parameters.length) = some 3 := by decide +kernel
set_option maxHeartbeats 4000000 in
set_option maxRecDepth 100000 in
theorem c_X8_set {l : Launch} (hl9 : l.stackTraces = false) {D : va_G} {ct : Nat → ClassId} {ad : Nat → Nat} (sc sg sh : Nat → Int32) (el : Nat → Nat → UInt64) (nf : Nat → Nat → Int32) (lr : Nat → Nat → Option Nat) (v i : Int32) (x : UInt64) (vs : Nat → Nat) (hvs : ∀ j, j < 8 → sh j = nI (vs j)) (hvl : ∀ j, j < 8 → vs j < 2 ^ 20) (hvc : ∀ j, j < 8 → zCt (vs j) ≤ 24) : ar_M l yX8_set cX8_set 5 (some .boolean) 4 81 D ct (xL ad ct) [.ref (ad 0), .int v, .int i, .double x] (sc, sg, sh, el, nf, lr) (fun v9 u9 => ((vOk v = false ∨ (∃ j : Nat, j < 8 ∧ v = nI j ∧ zHas i (zCt (vs j)) = false) ∨ zRg x = false) ∧ v9 = some (.int (nI 0)) ∧ u9 = (sc, sg, sh, el, nf, lr)) ∨ ∃ j i9 : Nat, j < 8 ∧ v = nI j ∧ i9 < zCt (vs j) ∧ i = nI i9 ∧ zRg x = true ∧ v9 = some (.int (nI 1)) ∧ u9 = (sc, sg, sh, va_up el j (va_up (el j) i9 x), nf, lr)) (fun _ _ => False) := by
  refine ar_ofW hl9 (by decide) (Nat.le_of_ble_eq_true rfl) ?_
  intro p e s m below meth c A ls C hr hnm hW hl
  have hx := C.1
  have hb := C.2.1
  have hown := C.2.2.2.1
  have hts := C.2.2.2.2.1
  have hl : lv_has ls 5 [(0, .ref (ad 0)), (1, .int v), (2, .int i), (3, .double x)] := hl
  refine lv_iload_n hx hb dX8_set_0 rfl (lv_at hl 1 rfl) ?_
  refine ar_callS (As := [.int v]) (rest := []) C hW (c_X8_isVariable hl9 _ v) q174 q175 q1 q176 hd_X8_isVariable ⟨Nat.le_of_ble_eq_true rfl, Nat.le_of_ble_eq_true rfl⟩ hl.1 (Nat.le_of_ble_eq_true rfl) rfl dX8_set_1 (fun _ _ _ _ _ _ hp => hp.elim) (fun v9 u9 H locs hp hW => ?_)
  obtain ⟨rfl, hu9⟩ := hp
  rw [hu9] at hW
  refine W.eq (g2 := F0 m 4 ls [.int (bI (vOk v))]) rfl ?_
  refine lb_if_eq (tgt := 27) hx hb dX8_set_4 (by decide) (fun h1 => ?_) (fun h1 => ?_)
  · skip
    refine lv_iconst (v := nI 0) hx hb dX8_set_27 (by decide) ?_
    exact ar_zret C hr (nI_z0.1) hW dX8_set_28 (Or.inl ⟨by first | exact Or.inl h1 | exact Or.inr (Or.inl ⟨j, hj8, rfl, h2⟩) | exact Or.inr (Or.inr h3), rfl, rfl⟩)
  · skip
    obtain ⟨j, hj8, rfl⟩ := vOk_nat h1
    refine lv_aload_n hx hb dX8_set_7 rfl (lv_at hl 0 rfl) ?_
    refine xg_variables C hW q132 dX8_set_8 ?_
    refine lv_iload_n hx hb dX8_set_11 rfl (lv_at hl 1 rfl) ?_
    refine xl_variables (j := j) C hW (by omega) dX8_set_12 ?_
    refine lv_iload_n hx hb dX8_set_13 rfl (lv_at hl 2 rfl) ?_
    refine ar_callV (As := [.int i]) (rest := []) C hW (c_X1_hasElement hl9 sc sg sh el nf lr j (by omega) (vs j) (hvl j hj8) (hvs j hj8) i) (xl_at (by omega) (xc_na (j := j) (by omega))) rfl q209 q210 q211 q2 q212 hd_X1_hasElement ⟨Nat.le_of_ble_eq_true rfl, Nat.le_of_ble_eq_true rfl⟩ hl.1 (Nat.le_of_ble_eq_true rfl) rfl dX8_set_14 (fun _ _ _ _ _ _ hp => hp.elim) (fun v9 u9 H locs hp hW => ?_)
    obtain ⟨rfl, hu9⟩ := hp
    rw [hu9] at hW
    refine W.eq (g2 := F0 m 17 ls [.int (bI (zHas i (zCt (vs j))))]) rfl ?_
    refine lb_if_eq (tgt := 27) hx hb dX8_set_17 (by decide) (fun h2 => ?_) (fun h2 => ?_)
    · skip
      refine lv_iconst (v := nI 0) hx hb dX8_set_27 (by decide) ?_
      exact ar_zret C hr (nI_z0.1) hW dX8_set_28 (Or.inl ⟨by first | exact Or.inl h1 | exact Or.inr (Or.inl ⟨j, hj8, rfl, h2⟩) | exact Or.inr (Or.inr h3), rfl, rfl⟩)
    · skip
      have hct9 : zCt (vs j) ≤ 24 := hvc j hj8
      obtain ⟨i9, hi9, rfl⟩ := zHas_nat (by omega) h2
      refine lv_dload_n hx hb dX8_set_20 rfl (lv_at hl 3 rfl) ?_
      refine ar_callS (As := [.double x]) (rest := []) C hW (c_X8_isInRange hl9 _ x) q177 q178 q1 q179 hd_X8_isInRange ⟨Nat.le_of_ble_eq_true rfl, Nat.le_of_ble_eq_true rfl⟩ hl.1 (Nat.le_of_ble_eq_true rfl) rfl dX8_set_21 (fun _ _ _ _ _ _ hp => hp.elim) (fun v9 u9 H locs hp hW => ?_)
      obtain ⟨rfl, hu9⟩ := hp
      rw [hu9] at hW
      refine W.eq (g2 := F0 m 24 ls [.int (bI (zRg x))]) rfl ?_
      refine lb_if_ne (tgt := 29) hx hb dX8_set_24 (by decide) (fun h3 => ?_) (fun h3 => ?_)
      · skip
        refine lv_aload_n hx hb dX8_set_29 rfl (lv_at hl 0 rfl) ?_
        refine xg_variables C hW q132 dX8_set_30 ?_
        refine lv_iload_n hx hb dX8_set_33 rfl (lv_at hl 1 rfl) ?_
        refine xl_variables (j := j) C hW (by omega) dX8_set_34 ?_
        refine xg_elements (j := j) C hW q43 (by omega) dX8_set_35 ?_
        refine lv_iload_n hx hb dX8_set_38 rfl (lv_at hl 2 rfl) ?_
        refine lv_dload_n hx hb dX8_set_39 rfl (lv_at hl 3 rfl) ?_
        refine xs_elements (j := j) (i := i9) C hW (by omega) (by omega) dX8_set_40 (fun H locs hW => ?_)
        refine lv_iconst (v := nI 1) hx hb dX8_set_41 (by decide) ?_
        exact ar_zret C hr (nI_z1.1) hW dX8_set_42 (Or.inr ⟨j, i9, hj8, rfl, hi9, rfl, h3, rfl, rfl⟩)
      · skip
        refine lv_iconst (v := nI 0) hx hb dX8_set_27 (by decide) ?_
        exact ar_zret C hr (nI_z0.1) hW dX8_set_28 (Or.inl ⟨by first | exact Or.inl h1 | exact Or.inr (Or.inl ⟨j, hj8, rfl, h2⟩) | exact Or.inr (Or.inr h3), rfl, rfl⟩)
theorem hd_X8_erase : yX8_erase.cls ≠ "java/lang/invoke/MethodHandle" ∧ yX8_erase.cls ≠ "java/lang/invoke/VarHandle" ∧ (parseMethodDescriptor yX8_erase.desc).map (fun d => d.parameters.length) = some 0 := by decide +kernel
set_option maxHeartbeats 4000000 in
set_option maxRecDepth 100000 in
theorem c_X8_erase {l : Launch} (hl9 : l.stackTraces = false) {D : va_G} {ct : Nat → ClassId} {ad : Nat → Nat} (sc sg sh : Nat → Int32) (el : Nat → Nat → UInt64) (nf : Nat → Nat → Int32) (lr : Nat → Nat → Option Nat) (n : Nat) (hlen : sc 2 = nI n) : ar_M l yX8_erase cX8_erase 1 (some .int) 1 21 D ct (xL ad ct) [.ref (ad 0)] (sc, sg, sh, el, nf, lr) (fun v9 u9 => v9 = some (.int (nI n)) ∧ u9 = (va_up sc 2 (nI 0), sg, sh, el, nf, lr)) (fun _ _ => False) := by
  refine ar_ofW hl9 (by decide) (Nat.le_of_ble_eq_true rfl) ?_
  intro p e s m below meth c A ls C hr hnm hW hl
  have hx := C.1
  have hb := C.2.1
  have hown := C.2.2.2.1
  have hts := C.2.2.2.2.1
  have hl : lv_has ls 1 [(0, .ref (ad 0))] := hl
  refine lv_aload_n hx hb dX8_erase_0 rfl (lv_at hl 0 rfl) ?_
  refine xg_text C hW q133 dX8_erase_1 ?_
  refine ar_callV (As := []) (rest := []) C hW (c_X5_clear hl9 sc sg sh el nf lr n hlen) (xl_at (by decide) rfl) rfl q166 q167 q168 q3 q169 hd_X5_clear ⟨Nat.le_of_ble_eq_true rfl, Nat.le_of_ble_eq_true rfl⟩ hl.1 (Nat.le_of_ble_eq_true rfl) rfl dX8_erase_4 (fun _ _ _ _ _ _ hp => hp.elim) (fun v9 u9 H locs hp hW => ?_)
  obtain ⟨rfl, hu9⟩ := hp
  rw [hu9] at hW
  refine W.eq (g2 := F0 m 7 ls [.int (nI n)]) rfl ?_
  exact ar_iret C hr hW dX8_erase_7 (⟨rfl, rfl⟩)
theorem hd_X8_write : yX8_write.cls ≠ "java/lang/invoke/MethodHandle" ∧ yX8_write.cls ≠ "java/lang/invoke/VarHandle" ∧ (parseMethodDescriptor yX8_write.desc).map (fun d => d.parameters.length) = some 1 := by decide +kernel
set_option maxHeartbeats 4000000 in
set_option maxRecDepth 100000 in
theorem c_X8_write {l : Launch} (hl9 : l.stackTraces = false) {D : va_G} {ct : Nat → ClassId} {ad : Nat → Nat} (sc sg sh : Nat → Int32) (el : Nat → Nat → UInt64) (nf : Nat → Nat → Int32) (lr : Nat → Nat → Option Nat) (x : Int64) (n : Nat) (hn : n ≤ 40) (hlen : sc 2 = nI n) : ar_M l yX8_write cX8_write 3 (some .int) 3 69 D ct (xL ad ct) [.ref (ad 0), .long x] (sc, sg, sh, el, nf, lr) (fun v9 u9 => (zWr x n = none ∧ v9 = some (.int (-1)) ∧ u9 = (sc, sg, sh, el, nf, lr)) ∨ (∃ cnt : Nat, zWr x n = some cnt ∧ v9 = some (.int (nI cnt)) ∧ u9 = (va_up sc 2 (nI (n + cnt)), zAp sg x n cnt, sh, el, nf, lr))) (fun _ _ => False) := by
  refine ar_ofW hl9 (by decide) (Nat.le_of_ble_eq_true rfl) ?_
  intro p e s m below meth c A ls C hr hnm hW hl
  have hx := C.1
  have hb := C.2.1
  have hown := C.2.2.2.1
  have hts := C.2.2.2.2.1
  have hl : lv_has ls 3 [(0, .ref (ad 0)), (1, .long x)] := hl
  refine lv_aload_n hx hb dX8_write_0 rfl (lv_at hl 0 rfl) ?_
  refine xg_text C hW q133 dX8_write_1 ?_
  refine lv_lload_n hx hb dX8_write_4 rfl (lv_at hl 1 rfl) ?_
  refine ar_callV (As := [.long x]) (rest := []) C hW (c_X5_append hl9 sc sg sh el nf lr x n hn hlen) (xl_at (by decide) rfl) rfl q152 q153 q154 q3 q155 hd_X5_append ⟨Nat.le_of_ble_eq_true rfl, Nat.le_of_ble_eq_true rfl⟩ hl.1 (Nat.le_of_ble_eq_true rfl) rfl dX8_write_5 (fun _ _ _ _ _ _ hp => hp.elim) (fun v9 u9 H locs hp hW => ?_)
  obtain ⟨r9, rfl⟩ : ∃ r9, v9 = some (.int r9) := by rcases hp with ⟨-, h, -⟩ | ⟨cnt, -, h, -⟩ <;> exact ⟨_, h⟩
  refine W.eq (g2 := F0 m 8 ls [.int r9]) rfl ?_
  exact ar_iret C hr hW dX8_write_8 (hp)
