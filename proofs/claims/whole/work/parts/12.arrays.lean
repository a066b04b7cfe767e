def zHas (i : Int32) (n : Nat) : Bool := decide (0 ≤ i ∧ i < nI n)
theorem zHas_nat {i : Int32} {n : Nat} (hn : n < 2 ^ 31) (h : zHas i n = true) : ∃ j : Nat, j < n ∧ i = nI j := by
  simp only [zHas, decide_eq_true_eq] at h
  obtain ⟨j, hj, rfl⟩ := nI_of (x := i) (fun q => absurd q (Int32.not_lt.mpr h.1))
  exact ⟨j, (nI_ltI hj hn).mp h.2, rfl⟩
theorem zCt_lt {x : Nat} (h : x < 2 ^ 20) : zCt x < 2 ^ 31 := by
  unfold zCt
  have h1 : zLn x ≤ 2 ^ 15 := by unfold zLn; split <;> omega
  have h2 := zLg_lt x
  calc zLn x * zLg x ≤ 2 ^ 15 * 31 := Nat.mul_le_mul h1 (by omega)
    _ < 2 ^ 31 := by decide
theorem hd_X1_count : yX1_count.cls ≠ "java/lang/invoke/MethodHandle" ∧ yX1_count.cls ≠ "java/lang/invoke/VarHandle" ∧ (parseMethodDescriptor yX1_count.desc).map (fun d => d.parameters.length) = some 0 := by decide +kernel
set_option maxHeartbeats 4000000 in
set_option maxRecDepth 100000 in
theorem c_X1_count {l : Launch} (hl9 : l.stackTraces = false) {D : va_G} {ct : Nat → ClassId} {ad : Nat → Nat} (sc sg sh : Nat → Int32) (el : Nat → Nat → UInt64) (nf : Nat → Nat → Int32) (lr : Nat → Nat → Option Nat) (j : Nat) (hj : j < 49) (x : Nat) (hx9 : x < 2 ^ 31) (hsh : sh j = nI x) : ar_M l yX1_count cX1_count 1 (some .int) 2 40 D ct (xL ad ct) [.ref (ad (6 + j))] (sc, sg, sh, el, nf, lr) (fun v9 u9 => v9 = some (.int (nI (zCt x))) ∧ u9 = (sc, sg, sh, el, nf, lr)) (fun _ _ => False) := by
  refine ar_ofW hl9 (by decide) (Nat.le_of_ble_eq_true rfl) ?_
  intro p e s m below meth c A ls C hr hnm hW hl
  have hx := C.1
  have hb := C.2.1
  have hown := C.2.2.2.1
  have hts := C.2.2.2.2.1
  have hl : lv_has ls 1 [(0, .ref (ad (6 + j)))] := hl
  refine lv_aload_n hx hb dX1_count_0 rfl (lv_at hl 0 rfl) ?_
  refine xg_shape (j := j) C hW q36 (by omega) dX1_count_1 ?_
  refine ln_top (hsh) ?_
  refine ar_callS (As := [.int (nI x)]) (rest := []) C hW (c_X4_elements hl9 _ x (by omega)) q217 q218 q7 q219 hd_X4_elements ⟨Nat.le_of_ble_eq_true rfl, Nat.le_of_ble_eq_true rfl⟩ hl.1 (Nat.le_of_ble_eq_true rfl) rfl dX1_count_4 (fun _ _ _ _ _ _ hp => hp.elim) (fun v9 u9 H locs hp hW => ?_)
  obtain ⟨rfl, hu9⟩ := hp
  rw [hu9] at hW
  refine W.eq (g2 := F0 m 7 ls [.int (nI (zCt x))]) rfl ?_
  exact ar_iret C hr hW dX1_count_7 (⟨rfl, rfl⟩)
theorem hd_X1_hasElement : yX1_hasElement.cls ≠ "java/lang/invoke/MethodHandle" ∧ yX1_hasElement.cls ≠ "java/lang/invoke/VarHandle" ∧ (parseMethodDescriptor yX1_hasElement.desc).map (fun d => d.parameters.length) = some 1 := by decide +kernel
set_option maxHeartbeats 4000000 in
set_option maxRecDepth 100000 in
theorem c_X1_hasElement {l : Launch} (hl9 : l.stackTraces = false) {D : va_G} {ct : Nat → ClassId} {ad : Nat → Nat} (sc sg sh : Nat → Int32) (el : Nat → Nat → UInt64) (nf : Nat → Nat → Int32) (lr : Nat → Nat → Option Nat) (j : Nat) (hj : j < 49) (x : Nat) (hx9 : x < 2 ^ 20) (hsh : sh j = nI x) (i : Int32) : ar_M l yX1_hasElement cX1_hasElement 2 (some .boolean) 3 60 D ct (xL ad ct) [.ref (ad (6 + j)), .int i] (sc, sg, sh, el, nf, lr) (fun v9 u9 => v9 = some (.int (bI (zHas i (zCt x)))) ∧ u9 = (sc, sg, sh, el, nf, lr)) (fun _ _ => False) := by
  refine ar_ofW hl9 (by decide) (Nat.le_of_ble_eq_true rfl) ?_
  intro p e s m below meth c A ls C hr hnm hW hl
  have hx := C.1
  have hb := C.2.1
  have hown := C.2.2.2.1
  have hts := C.2.2.2.2.1
  have hl : lv_has ls 2 [(0, .ref (ad (6 + j))), (1, .int i)] := hl
  refine lv_iload_n hx hb dX1_hasElement_0 rfl (lv_at hl 1 rfl) ?_
  refine lv_if_lt (tgt := 16) hx hb dX1_hasElement_1 (by decide) (fun h1 => ?_) (fun h1 => ?_)
  · skip
    refine lv_iconst (v := nI 0) hx hb dX1_hasElement_16 (by decide) ?_
    exact ar_zret C hr (nI_z0.1) hW dX1_hasElement_17 (⟨congrArg (fun z => some (Value.int z)) (bI_f (by simp only [zHas, decide_eq_true_eq, decide_eq_false_iff_not]; first | exact ⟨Int32.not_lt.mp h1, Int32.not_le.mp h2⟩ | exact (fun q => absurd q.2 (Int32.not_lt.mpr h2)) | exact (fun q => absurd q.1 (Int32.not_le.mpr h1)))), rfl⟩)
  · skip
    refine lv_iload_n hx hb dX1_hasElement_4 rfl (lv_at hl 1 rfl) ?_
    refine lv_aload_n hx hb dX1_hasElement_5 rfl (lv_at hl 0 rfl) ?_
    refine ar_callV (As := []) (rest := [.int i]) C hW (c_X1_count hl9 sc sg sh el nf lr j (by omega) x (by omega) (hsh)) (xl_at (by omega) (xc_na (j := j) (by omega))) rfl q213 q214 q215 q2 q216 hd_X1_count ⟨Nat.le_of_ble_eq_true rfl, Nat.le_of_ble_eq_true rfl⟩ hl.1 (Nat.le_of_ble_eq_true rfl) rfl dX1_hasElement_6 (fun _ _ _ _ _ _ hp => hp.elim) (fun v9 u9 H locs hp hW => ?_)
    obtain ⟨rfl, hu9⟩ := hp
    rw [hu9] at hW
    refine W.eq (g2 := F0 m 9 ls [.int (nI (zCt x)), .int i]) rfl ?_
    refine lv_icmp_ge (tgt := 16) hx hb dX1_hasElement_9 (by decide) (fun h2 => ?_) (fun h2 => ?_)
    · skip
      refine lv_iconst (v := nI 0) hx hb dX1_hasElement_16 (by decide) ?_
      exact ar_zret C hr (nI_z0.1) hW dX1_hasElement_17 (⟨congrArg (fun z => some (Value.int z)) (bI_f (by simp only [zHas, decide_eq_true_eq, decide_eq_false_iff_not]; first | exact ⟨Int32.not_lt.mp h1, Int32.not_le.mp h2⟩ | exact (fun q => absurd q.2 (Int32.not_lt.mpr h2)) | exact (fun q => absurd q.1 (Int32.not_le.mpr h1)))), rfl⟩)
    · skip
      refine lv_iconst (v := nI 1) hx hb dX1_hasElement_12 (by decide) ?_
      refine lv_goto (tgt := 17) hx hb dX1_hasElement_13 (by decide) ?_
      exact ar_zret C hr (nI_z1.1) hW dX1_hasElement_17 (⟨congrArg (fun z => some (Value.int z)) (bI_t (by simp only [zHas, decide_eq_true_eq, decide_eq_false_iff_not]; first | exact ⟨Int32.not_lt.mp h1, Int32.not_le.mp h2⟩ | exact (fun q => absurd q.2 (Int32.not_lt.mpr h2)) | exact (fun q => absurd q.1 (Int32.not_le.mpr h1)))), rfl⟩)
theorem va_up_id {α : Type} (f : Nat → α) (k : Nat) : va_up f k (f k) = f := by
  funext i
  unfold va_up
  by_cases h : i = k
  · rw [if_pos h, h]
  · rw [if_neg h]
def zZ (f : Nat → UInt64) : Nat → UInt64 := fun i => if i < 24 then FP.dconst0 else f i
def zCp (f g : Nat → UInt64) : Nat → UInt64 := fun i => if i < 24 then g i else f i
theorem hd_X1_becomeZeros : yX1_becomeZeros.cls ≠ "java/lang/invoke/MethodHandle" ∧ yX1_becomeZeros.cls ≠ "java/lang/invoke/VarHandle" ∧ (parseMethodDescriptor yX1_becomeZeros.desc).map (fun d => d.parameters.length) = some 1 := by decide +kernel
set_option maxHeartbeats 4000000 in
set_option maxRecDepth 100000 in
theorem c_X1_becomeZeros {l : Launch} (hl9 : l.stackTraces = false) {D : va_G} {ct : Nat → ClassId} {ad : Nat → Nat} (sc sg sh : Nat → Int32) (el : Nat → Nat → UInt64) (nf : Nat → Nat → Int32) (lr : Nat → Nat → Option Nat) (j : Nat) (hj : j < 49) (x : Int32) : ar_M l yX1_becomeZeros cX1_becomeZeros 3 none 0 0 D ct (xL ad ct) [.ref (ad (6 + j)), .int x] (sc, sg, sh, el, nf, lr) (fun v9 u9 => v9 = none ∧ u9 = (sc, sg, va_up sh j x, va_up el j (zZ (el j)), nf, lr)) (fun _ _ => False) := by
  refine ar_ofW hl9 (by decide) (Nat.le_of_ble_eq_true rfl) ?_
  intro p e s m below meth c A ls C hr hnm hW hl
  have hx := C.1
  have hb := C.2.1
  have hown := C.2.2.2.1
  have hts := C.2.2.2.2.1
  have hl : lv_has ls 3 [(0, .ref (ad (6 + j))), (1, .int x)] := hl
  refine lv_aload_n hx hb dX1_becomeZeros_0 rfl (lv_at hl 0 rfl) ?_
  refine lv_iload_n hx hb dX1_becomeZeros_1 rfl (lv_at hl 1 rfl) ?_
  refine xp_shape (j := j) C hW q36 (by omega) dX1_becomeZeros_2 (fun H locs hW => ?_)
  refine lv_iconst (v := nI 0) hx hb dX1_becomeZeros_5 (by decide) ?_
  refine lv_istore_n (lv' := [(2, .int (nI 0)), (0, .ref (ad (6 + j))), (1, .int x)]) hx hb dX1_becomeZeros_6 rfl hl (by decide) rfl (fun ls hl => ?_)
  have lp : ∀ (N9 : Nat) (k : Nat) (f : Nat → UInt64) (H : Heap) (locs : List Loc) (ls : Array Slot), 24 - k < N9 → (k ≤ 24) → (∀ i, f i = if i < k then FP.dconst0 else el j i) → ar_W D A s.heap H locs (xL ad ct (sc, sg, va_up sh j x, va_up el j f, nf, lr)) → lv_has ls 3 [(0, .ref (ad (6 + j))), (1, .int x), (2, .int (nI k))] → W p l e (ar_rm 0 0) s m [.ref (ad (6 + j)), .int x].toArray below meth c H locs 0 0 (ar_E below (ar_Q D ct (xL ad ct) A (fun v9 u9 => v9 = none ∧ u9 = (sc, sg, va_up sh j x, va_up el j (zZ (el j)), nf, lr)) (fun _ _ => False)) [.ref (ad (6 + j)), .int x].toArray s) (F0 m 7 ls []) := by
    intro N9
    induction N9 with
    | zero =>
      intro k f H locs ls hN9
      exact absurd hN9 (Nat.not_lt_zero _)
    | succ N9 ihlp =>
      intro k f H locs ls hN9 hk hf hW hl
      refine lv_iload_n hx hb dX1_becomeZeros_7 rfl (lv_at hl 2 rfl) ?_
      refine lv_bipush (v := nI 24) hx hb dX1_becomeZeros_8 (by decide) ?_
      refine ln_icmp_ge (tgt := 26) hx hb dX1_becomeZeros_10 (by decide) (by omega) (by omega) (fun h1 => ?_) (fun h1 => ?_)
      · skip
        exact ar_vret C hr hW dX1_becomeZeros_26 (⟨rfl, by rw [show f = zZ (el j) from funext fun i => by rw [hf i, show k = 24 by omega]; rfl]⟩)
      · skip
        refine lv_aload_n hx hb dX1_becomeZeros_13 rfl (lv_at hl 0 rfl) ?_
        refine xg_elements (j := j) C hW q41 (by omega) dX1_becomeZeros_14 ?_
        refine lv_iload_n hx hb dX1_becomeZeros_17 rfl (lv_at hl 2 rfl) ?_
        refine lv_dconst0 hx hb dX1_becomeZeros_18 ?_
        refine xs_elements (j := j) (i := k) C hW (by omega) (by omega) dX1_becomeZeros_19 (fun H locs hW => ?_)
        simp only [bx_uu, va_up_self] at hW
        refine ln_iinc (k := 2) (n := 1) (lv' := [(2, .int (nI (k + 1))), (0, .ref (ad (6 + j))), (1, .int x)]) hx hb dX1_becomeZeros_20 hl rfl (by decide) rfl (fun ls hl => ?_)
        refine lv_goto (tgt := 7) hx hb dX1_becomeZeros_23 (by decide) ?_
        exact ihlp (k + 1) (va_up f k FP.dconst0) _ _ _ (by omega) (by omega) (fill_s (g := fun _ => FP.dconst0) hf) (hW) (lv_sub hl [1, 2, 0] rfl)
  exact lp _ 0 (el j) _ _ _ (Nat.lt_succ_self _) (by omega) (fill_0) (by rw [va_up_id]; exact hW) (lv_sub hl [1, 2, 0] rfl)
theorem hd_X1_becomeCopy : yX1_becomeCopy.cls ≠ "java/lang/invoke/MethodHandle" ∧ yX1_becomeCopy.cls ≠ "java/lang/invoke/VarHandle" ∧ (parseMethodDescriptor yX1_becomeCopy.desc).map (fun d => d.parameters.length) = some 1 := by decide +kernel
set_option maxHeartbeats 4000000 in
set_option maxRecDepth 100000 in
theorem c_X1_becomeCopy {l : Launch} (hl9 : l.stackTraces = false) {D : va_G} {ct : Nat → ClassId} {ad : Nat → Nat} (sc sg sh : Nat → Int32) (el : Nat → Nat → UInt64) (nf : Nat → Nat → Int32) (lr : Nat → Nat → Option Nat) (j i : Nat) (hj : j < 49) (hi : i < 49) (hne : i ≠ j) : ar_M l yX1_becomeCopy cX1_becomeCopy 3 none 0 0 D ct (xL ad ct) [.ref (ad (6 + j)), .ref (ad (6 + i))] (sc, sg, sh, el, nf, lr) (fun v9 u9 => v9 = none ∧ u9 = (sc, sg, va_up sh j (sh i), va_up el j (zCp (el j) (el i)), nf, lr)) (fun _ _ => False) := by
  refine ar_ofW hl9 (by decide) (Nat.le_of_ble_eq_true rfl) ?_
  intro p e s m below meth c A ls C hr hnm hW hl
  have hx := C.1
  have hb := C.2.1
  have hown := C.2.2.2.1
  have hts := C.2.2.2.2.1
  have hl : lv_has ls 3 [(0, .ref (ad (6 + j))), (1, .ref (ad (6 + i)))] := hl
  refine lv_aload_n hx hb dX1_becomeCopy_0 rfl (lv_at hl 0 rfl) ?_
  refine lv_aload_n hx hb dX1_becomeCopy_1 rfl (lv_at hl 1 rfl) ?_
  refine xg_shape (j := i) C hW q36 (by omega) dX1_becomeCopy_2 ?_
  refine xp_shape (j := j) C hW q36 (by omega) dX1_becomeCopy_5 (fun H locs hW => ?_)
  refine lv_iconst (v := nI 0) hx hb dX1_becomeCopy_8 (by decide) ?_
  refine lv_istore_n (lv' := [(2, .int (nI 0)), (0, .ref (ad (6 + j))), (1, .ref (ad (6 + i)))]) hx hb dX1_becomeCopy_9 rfl hl (by decide) rfl (fun ls hl => ?_)
  have lp : ∀ (N9 : Nat) (k : Nat) (f : Nat → UInt64) (H : Heap) (locs : List Loc) (ls : Array Slot), 24 - k < N9 → (k ≤ 24) → (∀ z, f z = if z < k then el i z else el j z) → ar_W D A s.heap H locs (xL ad ct (sc, sg, va_up sh j (sh i), va_up el j f, nf, lr)) → lv_has ls 3 [(0, .ref (ad (6 + j))), (1, .ref (ad (6 + i))), (2, .int (nI k))] → W p l e (ar_rm 0 0) s m [.ref (ad (6 + j)), .ref (ad (6 + i))].toArray below meth c H locs 0 0 (ar_E below (ar_Q D ct (xL ad ct) A (fun v9 u9 => v9 = none ∧ u9 = (sc, sg, va_up sh j (sh i), va_up el j (zCp (el j) (el i)), nf, lr)) (fun _ _ => False)) [.ref (ad (6 + j)), .ref (ad (6 + i))].toArray s) (F0 m 10 ls []) := by
    intro N9
    induction N9 with
    | zero =>
      intro k f H locs ls hN9
      exact absurd hN9 (Nat.not_lt_zero _)
    | succ N9 ihlp =>
      intro k f H locs ls hN9 hk hf hW hl
      refine lv_iload_n hx hb dX1_becomeCopy_10 rfl (lv_at hl 2 rfl) ?_
      refine lv_bipush (v := nI 24) hx hb dX1_becomeCopy_11 (by decide) ?_
      refine ln_icmp_ge (tgt := 34) hx hb dX1_becomeCopy_13 (by decide) (by omega) (by omega) (fun h1 => ?_) (fun h1 => ?_)
      · skip
        exact ar_vret C hr hW dX1_becomeCopy_34 (⟨rfl, by rw [show f = zCp (el j) (el i) from funext fun z => by rw [hf z, show k = 24 by omega]; rfl]⟩)
      · skip
        refine lv_aload_n hx hb dX1_becomeCopy_16 rfl (lv_at hl 0 rfl) ?_
        refine xg_elements (j := j) C hW q41 (by omega) dX1_becomeCopy_17 ?_
        refine lv_iload_n hx hb dX1_becomeCopy_20 rfl (lv_at hl 2 rfl) ?_
        refine lv_aload_n hx hb dX1_becomeCopy_21 rfl (lv_at hl 1 rfl) ?_
        refine xg_elements (j := i) C hW q41 (by omega) dX1_becomeCopy_22 ?_
        refine lv_iload_n hx hb dX1_becomeCopy_25 rfl (lv_at hl 2 rfl) ?_
        refine xl_elements (j := i) (i := k) C hW (by omega) (by omega) dX1_becomeCopy_26 ?_
        rw [va_up_ne _ _ (by omega)]
        refine xs_elements (j := j) (i := k) C hW (by omega) (by omega) dX1_becomeCopy_27 (fun H locs hW => ?_)
        simp only [bx_uu, va_up_self] at hW
        refine ln_iinc (k := 2) (n := 1) (lv' := [(2, .int (nI (k + 1))), (0, .ref (ad (6 + j))), (1, .ref (ad (6 + i)))]) hx hb dX1_becomeCopy_28 hl rfl (by decide) rfl (fun ls hl => ?_)
        refine lv_goto (tgt := 10) hx hb dX1_becomeCopy_31 (by decide) ?_
        exact ihlp (k + 1) (va_up f k (el i k)) _ _ _ (by omega) (by omega) (fill_s hf) (hW) (lv_sub hl [1, 2, 0] rfl)
  exact lp _ 0 (el j) _ _ _ (Nat.lt_succ_self _) (by omega) (fill_0) (by rw [va_up_id]; exact hW) (lv_sub hl [1, 2, 0] rfl)
