set_option maxRecDepth 20000 in
theorem ar_X_X7_122 : ar_X "ArrayText$Worker" 120 122 124 "java/lang/ArithmeticException" "a result out of range" := ⟨by decide +kernel, by decide +kernel, by decide +kernel, by decide +kernel, by decide +kernel, by decide +kernel, by decide +kernel, by decide +kernel⟩
theorem zIx {a b m n : Nat} (ha : a < m) (hb : b < n) : a * n + b < m * n := by
  calc a * n + b < a * n + n := Nat.add_lt_add_left hb _
    _ = (a + 1) * n := by rw [Nat.add_mul, Nat.one_mul]
    _ ≤ m * n := Nat.mul_le_mul_right _ ha
theorem zOk_d {x : Nat} (h : zOk x = true) : 1 ≤ zLn x ∧ zLn x ≤ 24 ∧ 1 ≤ zLg x ∧ zLg x ≤ 24 ∧ zLn x * zLg x ≤ 24 ∧ x ≤ 792 := by
  have h9 := zOk_num h
  unfold zOk at h
  by_cases h0 : x = 0
  · subst h0
    decide
  · rw [show (x == 0) = false by simpa using h0, Bool.false_or] at h
    obtain ⟨h1, h2, h3, h4, h5⟩ := zFit_iff.mp h
    exact ⟨h1, h2, h3, h4, h5, h9.1⟩
/-- the first b + 1 of a row, taken together from the left -/
def zAcc (c : Nat) (f : Nat → UInt64) : Nat → UInt64
  | 0 => f 0
  | b + 1 => zOp c (zAcc c f b) (f (b + 1))
/-- where an element of the turned table stood -/
def zTq (x q : Nat) : Nat := if zTb x = true then q % zLn x * zLg x + q / zLn x else q
theorem hd_X7_combined : yX7_combined.cls ≠ "java/lang/invoke/MethodHandle" ∧ yX7_combined.cls ≠ "java/lang/invoke/VarHandle" ∧ (parseMethodDescriptor yX7_combined.desc).map (fun d => d.parameters.length) = some 3 := by decide +kernel
set_option maxHeartbeats 4000000 in
set_option maxRecDepth 100000 in
theorem c_X7_combined {l : Launch} (hl9 : l.stackTraces = false) {D : va_G} {ct : Nat → ClassId} {S : Type} {wl : S → va_W} (u0 : S) (ch : Nat) (x y : UInt64) (hc : zSg ch) (hx9 : zRg x = true) (hy9 : zRg y = true) : ar_M l yX7_combined cX7_combined 7 (some .double) 6 90 D ct wl [.int (nI ch), .double x, .double y] u0 (fun v9 u9 => zRg (zOp ch x y) = true ∧ v9 = some (.double (zOp ch x y)) ∧ u9 = u0) (fun E9 u9 => zRg (zOp ch x y) = false ∧ E9 = ARE ∧ u9 = u0) := by
  refine ar_ofW hl9 (by decide) (Nat.le_of_ble_eq_true rfl) ?_
  intro p e s m below meth c A ls C hr hnm hW hl
  have hx := C.1
  have hb := C.2.1
  have hown := C.2.2.2.1
  have hts := C.2.2.2.2.1
  have hl : lv_has ls 7 [(0, .int (nI ch)), (1, .double x), (3, .double y)] := hl
  refine lv_iload_n hx hb dX7_combined_0 rfl (lv_at hl 0 rfl) ?_
  refine lv_dload_n hx hb dX7_combined_1 rfl (lv_at hl 1 rfl) ?_
  refine lv_dload_n hx hb dX7_combined_2 rfl (lv_at hl 2 rfl) ?_
  refine ar_callS (As := [.int (nI ch), .double x, .double y]) (rest := []) C hW (c_X7_combinedFreely hl9 _ ch x y (hc) (zRg_nn _ hx9 hy9)) q543 q544 q20 q545 hd_X7_combinedFreely ⟨Nat.le_of_ble_eq_true rfl, Nat.le_of_ble_eq_true rfl⟩ hl.1 (Nat.le_of_ble_eq_true rfl) rfl dX7_combined_3 (fun _ _ _ _ _ _ hp => hp.elim) (fun v9 u9 H locs hp hW => ?_)
  obtain ⟨rfl, hu9⟩ := hp
  rw [hu9] at hW
  refine W.eq (g2 := F0 m 6 ls [.double (zOp ch x y)]) rfl ?_
  refine lv_dstore (lv' := [(5, .double (zOp ch x y)), (0, .int (nI ch)), (1, .double x), (3, .double y)]) hx hb dX7_combined_6 hl (by decide) rfl (fun ls hl => ?_)
  refine lv_dload hx hb dX7_combined_8 (lv_at hl 0 rfl) ?_
  refine ar_callN (As := [.double (zOp ch x y)]) (rest := []) C hW (c_X8_isInRange hl9 _ (zOp ch x y)) (by decide +kernel) q178 q1 q179 hd_X8_isInRange ⟨Nat.le_of_ble_eq_true rfl, Nat.le_of_ble_eq_true rfl⟩ hl.1 (Nat.le_of_ble_eq_true rfl) rfl dX7_combined_10 (fun _ _ _ _ _ _ hp => hp.elim) (fun v9 u9 H locs hp hW => ?_)
  obtain ⟨rfl, hu9⟩ := hp
  rw [hu9] at hW
  refine W.eq (g2 := F0 m 13 ls [.int (bI (zRg (zOp ch x y)))]) rfl ?_
  refine lb_if_ne (tgt := 26) hx hb dX7_combined_13 (by decide) (fun h1 => ?_) (fun h1 => ?_)
  · skip
    refine lv_dload hx hb dX7_combined_26 (lv_at hl 0 rfl) ?_
    exact ar_dret C hr hW dX7_combined_28 (⟨h1, rfl, rfl⟩)
  · skip
    exact ar_throw C hW ar_X_X7_122 hl.1 dX7_combined_16 dX7_combined_19 dX7_combined_20 dX7_combined_22 dX7_combined_25 (Nat.le_of_ble_eq_true rfl) (Nat.le_of_ble_eq_true rfl) (⟨h1, rfl, rfl⟩)
theorem fill_p {α : Type} {f F : Nat → α} {k : Nat} (h : ∀ q, q < k → f q = F q) : ∀ q, q < k + 1 → va_up f k (F k) q = F q := by
  intro q hq
  unfold va_up
  by_cases h1 : q = k
  · rw [if_pos h1, h1]
  · rw [if_neg h1]
    exact h q (by omega)
theorem hd_X7_countUp : yX7_countUp.cls ≠ "java/lang/invoke/MethodHandle" ∧ yX7_countUp.cls ≠ "java/lang/invoke/VarHandle" ∧ (parseMethodDescriptor yX7_countUp.desc).map (fun d => d.parameters.length) = some 1 := by decide +kernel
set_option maxHeartbeats 4000000 in
set_option maxRecDepth 100000 in
theorem c_X7_countUp {l : Launch} (hl9 : l.stackTraces = false) {D : va_G} {ct : Nat → ClassId} {ad : Nat → Nat} (sc sg sh : Nat → Int32) (el : Nat → Nat → UInt64) (nf : Nat → Nat → Int32) (lr : Nat → Nat → Option Nat) (j : Nat) (hj : j < 49) (x : Nat) (hok : zOk x = true) (hsh : sh j = nI x) : ar_M l yX7_countUp cX7_countUp 3 none 3 60 D ct (xL ad ct) [.ref (ad (6 + j))] (sc, sg, sh, el, nf, lr) (fun v9 u9 => ∃ f : Nat → UInt64, v9 = none ∧ (∀ q, q < zCt x → f q = FP.i2d (nI q)) ∧ u9 = (sc, sg, sh, va_up el j f, nf, lr)) (fun _ _ => False) := by
  refine ar_ofW hl9 (by decide) (Nat.le_of_ble_eq_true rfl) ?_
  intro p e s m below meth c A ls C hr hnm hW hl
  have hx := C.1
  have hb := C.2.1
  have hown := C.2.2.2.1
  have hts := C.2.2.2.2.1
  have hl : lv_has ls 3 [(0, .ref (ad (6 + j)))] := hl
  have hd9 := zOk_d hok
  have hc9 := zOk_num hok
  refine lv_aload_n hx hb dX7_countUp_0 rfl (lv_at hl 0 rfl) ?_
  refine ar_callV (As := []) (rest := []) C hW (c_X1_count hl9 sc sg sh el nf lr j (by omega) x (by omega) (hsh)) (xl_at (by omega) (xc_na (j := j) (by omega))) rfl q527 q214 q215 q2 q216 hd_X1_count ⟨Nat.le_of_ble_eq_true rfl, Nat.le_of_ble_eq_true rfl⟩ hl.1 (Nat.le_of_ble_eq_true rfl) rfl dX7_countUp_1 (fun _ _ _ _ _ _ hp => hp.elim) (fun v9 u9 H locs hp hW => ?_)
  obtain ⟨rfl, hu9⟩ := hp
  rw [hu9] at hW
  refine W.eq (g2 := F0 m 4 ls [.int (nI (zCt x))]) rfl ?_
  refine lv_istore_n (lv' := [(1, .int (nI (zCt x))), (0, .ref (ad (6 + j)))]) hx hb dX7_countUp_4 rfl hl (by decide) rfl (fun ls hl => ?_)
  refine lv_iconst (v := nI 0) hx hb dX7_countUp_5 (by decide) ?_
  refine lv_istore_n (lv' := [(2, .int (nI 0)), (1, .int (nI (zCt x))), (0, .ref (ad (6 + j)))]) hx hb dX7_countUp_6 rfl hl (by decide) rfl (fun ls hl => ?_)
  have lp : ∀ (N9 : Nat) (k : Nat) (f : Nat → UInt64) (H : Heap) (locs : List Loc) (ls : Array Slot), zCt x - k < N9 → (k ≤ zCt x) → (∀ q, q < k → f q = FP.i2d (nI q)) → ar_W D A s.heap H locs (xL ad ct (sc, sg, sh, va_up el j f, nf, lr)) → lv_has ls 3 [(0, .ref (ad (6 + j))), (1, .int (nI (zCt x))), (2, .int (nI k))] → W p l e (ar_rm 3 60) s m [.ref (ad (6 + j))].toArray below meth c H locs 0 0 (ar_E below (ar_Q D ct (xL ad ct) A (fun v9 u9 => ∃ f : Nat → UInt64, v9 = none ∧ (∀ q, q < zCt x → f q = FP.i2d (nI q)) ∧ u9 = (sc, sg, sh, va_up el j f, nf, lr)) (fun _ _ => False)) [.ref (ad (6 + j))].toArray s) (F0 m 7 ls []) := by
    intro N9
    induction N9 with
    | zero =>
      intro k f H locs ls hN9
      exact absurd hN9 (Nat.not_lt_zero _)
    | succ N9 ihlp =>
      intro k f H locs ls hN9 hk hf hW hl
      refine lv_iload_n hx hb dX7_countUp_7 rfl (lv_at hl 2 rfl) ?_
      refine lv_iload_n hx hb dX7_countUp_8 rfl (lv_at hl 1 rfl) ?_
      refine ln_icmp_ge (tgt := 26) hx hb dX7_countUp_9 (by decide) (by omega) (by omega) (fun h1 => ?_) (fun h1 => ?_)
      · skip
        exact ar_vret C hr hW dX7_countUp_26 (⟨f, rfl, fun q hq => hf q (by omega), rfl⟩)
      · skip
        refine lv_aload_n hx hb dX7_countUp_12 rfl (lv_at hl 0 rfl) ?_
        refine xg_elements (j := j) C hW q42 (by omega) dX7_countUp_13 ?_
        refine lv_iload_n hx hb dX7_countUp_16 rfl (lv_at hl 2 rfl) ?_
        refine lv_iload_n hx hb dX7_countUp_17 rfl (lv_at hl 2 rfl) ?_
        refine lv_i2d hx hb dX7_countUp_18 ?_
        refine xs_elements (j := j) (i := k) C hW (by omega) (by omega) dX7_countUp_19 (fun H locs hW => ?_)
        simp only [bx_uu, va_up_self] at hW
        refine ln_iinc (k := 2) (n := 1) (lv' := [(2, .int (nI (k + 1))), (0, .ref (ad (6 + j))), (1, .int (nI (zCt x)))]) hx hb dX7_countUp_20 hl rfl (by decide) rfl (fun ls hl => ?_)
        refine lv_goto (tgt := 7) hx hb dX7_countUp_23 (by decide) ?_
        exact ihlp (k + 1) (va_up f k (FP.i2d (nI k))) _ _ _ (by omega) (by omega) (fill_p hf) (hW) (lv_sub hl [1, 2, 0] rfl)
  exact lp _ 0 (el j) _ _ _ (Nat.lt_succ_self _) (by omega) (fun q hq => absurd hq (Nat.not_lt_zero _)) (by rw [va_up_id]; exact hW) (lv_sub hl [2, 1, 0] rfl)
theorem hd_X7_negate : yX7_negate.cls ≠ "java/lang/invoke/MethodHandle" ∧ yX7_negate.cls ≠ "java/lang/invoke/VarHandle" ∧ (parseMethodDescriptor yX7_negate.desc).map (fun d => d.parameters.length) = some 2 := by decide +kernel
set_option maxHeartbeats 4000000 in
set_option maxRecDepth 100000 in
theorem c_X7_negate {l : Launch} (hl9 : l.stackTraces = false) {D : va_G} {ct : Nat → ClassId} {ad : Nat → Nat} (sc sg sh : Nat → Int32) (el : Nat → Nat → UInt64) (nf : Nat → Nat → Int32) (lr : Nat → Nat → Option Nat) (i j : Nat) (hi : i < 49) (hne : i ≠ j) (hj : j < 49) (x : Nat) (hok : zOk x = true) (hsh : sh j = nI x) : ar_M l yX7_negate cX7_negate 4 none 3 60 D ct (xL ad ct) [.ref (ad (6 + i)), .ref (ad (6 + j))] (sc, sg, sh, el, nf, lr) (fun v9 u9 => ∃ f : Nat → UInt64, v9 = none ∧ (∀ q, q < zCt x → f q = FP.dneg (el i q)) ∧ u9 = (sc, sg, sh, va_up el j f, nf, lr)) (fun _ _ => False) := by
  refine ar_ofW hl9 (by decide) (Nat.le_of_ble_eq_true rfl) ?_
  intro p e s m below meth c A ls C hr hnm hW hl
  have hx := C.1
  have hb := C.2.1
  have hown := C.2.2.2.1
  have hts := C.2.2.2.2.1
  have hl : lv_has ls 4 [(0, .ref (ad (6 + i))), (1, .ref (ad (6 + j)))] := hl
  have hd9 := zOk_d hok
  have hc9 := zOk_num hok
  refine lv_aload_n hx hb dX7_negate_0 rfl (lv_at hl 1 rfl) ?_
  refine ar_callV (As := []) (rest := []) C hW (c_X1_count hl9 sc sg sh el nf lr j (by omega) x (by omega) (hsh)) (xl_at (by omega) (xc_na (j := j) (by omega))) rfl q527 q214 q215 q2 q216 hd_X1_count ⟨Nat.le_of_ble_eq_true rfl, Nat.le_of_ble_eq_true rfl⟩ hl.1 (Nat.le_of_ble_eq_true rfl) rfl dX7_negate_1 (fun _ _ _ _ _ _ hp => hp.elim) (fun v9 u9 H locs hp hW => ?_)
  obtain ⟨rfl, hu9⟩ := hp
  rw [hu9] at hW
  refine W.eq (g2 := F0 m 4 ls [.int (nI (zCt x))]) rfl ?_
  refine lv_istore_n (lv' := [(2, .int (nI (zCt x))), (0, .ref (ad (6 + i))), (1, .ref (ad (6 + j)))]) hx hb dX7_negate_4 rfl hl (by decide) rfl (fun ls hl => ?_)
  refine lv_iconst (v := nI 0) hx hb dX7_negate_5 (by decide) ?_
  refine lv_istore_n (lv' := [(3, .int (nI 0)), (2, .int (nI (zCt x))), (0, .ref (ad (6 + i))), (1, .ref (ad (6 + j)))]) hx hb dX7_negate_6 rfl hl (by decide) rfl (fun ls hl => ?_)
  have lp : ∀ (N9 : Nat) (k : Nat) (f : Nat → UInt64) (H : Heap) (locs : List Loc) (ls : Array Slot), zCt x - k < N9 → (k ≤ zCt x) → (∀ q, q < k → f q = FP.dneg (el i q)) → ar_W D A s.heap H locs (xL ad ct (sc, sg, sh, va_up el j f, nf, lr)) → lv_has ls 4 [(0, .ref (ad (6 + i))), (1, .ref (ad (6 + j))), (2, .int (nI (zCt x))), (3, .int (nI k))] → W p l e (ar_rm 3 60) s m [.ref (ad (6 + i)), .ref (ad (6 + j))].toArray below meth c H locs 0 0 (ar_E below (ar_Q D ct (xL ad ct) A (fun v9 u9 => ∃ f : Nat → UInt64, v9 = none ∧ (∀ q, q < zCt x → f q = FP.dneg (el i q)) ∧ u9 = (sc, sg, sh, va_up el j f, nf, lr)) (fun _ _ => False)) [.ref (ad (6 + i)), .ref (ad (6 + j))].toArray s) (F0 m 7 ls []) := by
    intro N9
    induction N9 with
    | zero =>
      intro k f H locs ls hN9
      exact absurd hN9 (Nat.not_lt_zero _)
    | succ N9 ihlp =>
      intro k f H locs ls hN9 hk hf hW hl
      refine lv_iload_n hx hb dX7_negate_7 rfl (lv_at hl 3 rfl) ?_
      refine lv_iload_n hx hb dX7_negate_8 rfl (lv_at hl 2 rfl) ?_
      refine ln_icmp_ge (tgt := 31) hx hb dX7_negate_9 (by decide) (by omega) (by omega) (fun h1 => ?_) (fun h1 => ?_)
      · skip
        exact ar_vret C hr hW dX7_negate_31 (⟨f, rfl, fun q hq => hf q (by omega), rfl⟩)
      · skip
        refine lv_aload_n hx hb dX7_negate_12 rfl (lv_at hl 1 rfl) ?_
        refine xg_elements (j := j) C hW q42 (by omega) dX7_negate_13 ?_
        refine lv_iload_n hx hb dX7_negate_16 rfl (lv_at hl 3 rfl) ?_
        refine lv_aload_n hx hb dX7_negate_17 rfl (lv_at hl 0 rfl) ?_
        refine xg_elements (j := i) C hW q42 (by omega) dX7_negate_18 ?_
        refine lv_iload_n hx hb dX7_negate_21 rfl (lv_at hl 3 rfl) ?_
        refine xl_elements (j := i) (i := k) C hW (by omega) (by omega) dX7_negate_22 ?_
        rw [va_up_ne _ _ (by omega)]
        refine lv_dneg hx hb dX7_negate_23 ?_
        refine xs_elements (j := j) (i := k) C hW (by omega) (by omega) dX7_negate_24 (fun H locs hW => ?_)
        simp only [bx_uu, va_up_self] at hW
        refine ln_iinc (k := 3) (n := 1) (lv' := [(3, .int (nI (k + 1))), (0, .ref (ad (6 + i))), (1, .ref (ad (6 + j))), (2, .int (nI (zCt x)))]) hx hb dX7_negate_25 hl rfl (by decide) rfl (fun ls hl => ?_)
        refine lv_goto (tgt := 7) hx hb dX7_negate_28 (by decide) ?_
        exact ihlp (k + 1) (va_up f k (FP.dneg (el i k))) _ _ _ (by omega) (by omega) (fill_p hf) (hW) (lv_sub hl [1, 2, 3, 0] rfl)
  exact lp _ 0 (el j) _ _ _ (Nat.lt_succ_self _) (by omega) (fun q hq => absurd hq (Nat.not_lt_zero _)) (by rw [va_up_id]; exact hW) (lv_sub hl [2, 3, 1, 0] rfl)
theorem hd_X7_elementFor : yX7_elementFor.cls ≠ "java/lang/invoke/MethodHandle" ∧ yX7_elementFor.cls ≠ "java/lang/invoke/VarHandle" ∧ (parseMethodDescriptor yX7_elementFor.desc).map (fun d => d.parameters.length) = some 2 := by decide +kernel
set_option maxHeartbeats 4000000 in
set_option maxRecDepth 100000 in
theorem c_X7_elementFor {l : Launch} (hl9 : l.stackTraces = false) {D : va_G} {ct : Nat → ClassId} {ad : Nat → Nat} (sc sg sh : Nat → Int32) (el : Nat → Nat → UInt64) (nf : Nat → Nat → Int32) (lr : Nat → Nat → Option Nat) (i : Nat) (hi : i < 49) (x : Nat) (hx9 : x ≤ 792) (hsh : sh i = nI x) (k : Nat) (hk : k < 24) : ar_M l yX7_elementFor cX7_elementFor 2 (some .double) 0 0 D ct (xL ad ct) [.ref (ad (6 + i)), .int (nI k)] (sc, sg, sh, el, nf, lr) (fun v9 u9 => v9 = some (.double (el i (if x = 0 then 0 else k))) ∧ u9 = (sc, sg, sh, el, nf, lr)) (fun _ _ => False) := by
  refine ar_ofW hl9 (by decide) (Nat.le_of_ble_eq_true rfl) ?_
  intro p e s m below meth c A ls C hr hnm hW hl
  have hx := C.1
  have hb := C.2.1
  have hown := C.2.2.2.1
  have hts := C.2.2.2.2.1
  have hl : lv_has ls 2 [(0, .ref (ad (6 + i))), (1, .int (nI k))] := hl
  refine lv_aload_n hx hb dX7_elementFor_0 rfl (lv_at hl 0 rfl) ?_
  refine xg_elements (j := i) C hW q42 (by omega) dX7_elementFor_1 ?_
  refine lv_aload_n hx hb dX7_elementFor_4 rfl (lv_at hl 0 rfl) ?_
  refine xg_shape (j := i) C hW q40 (by omega) dX7_elementFor_5 ?_
  refine ln_top (hsh) ?_
  refine ln_if_ne (tgt := 15) hx hb dX7_elementFor_8 (by decide) (by omega) (fun h1 => ?_) (fun h1 => ?_)
  · skip
    refine lv_iload_n hx hb dX7_elementFor_15 rfl (lv_at hl 1 rfl) ?_
    refine xl_elements (j := i) (i := k) C hW (by omega) (by omega) dX7_elementFor_16 ?_
    exact ar_dret C hr hW dX7_elementFor_17 (⟨congrArg (fun z => some (Value.double (el i z))) (by first | rw [if_pos h1] | rw [if_neg h1]), rfl⟩)
  · skip
    refine lv_iconst (v := nI 0) hx hb dX7_elementFor_11 (by decide) ?_
    refine lv_goto (tgt := 16) hx hb dX7_elementFor_12 (by decide) ?_
    refine xl_elements (j := i) (i := 0) C hW (by omega) (by omega) dX7_elementFor_16 ?_
    exact ar_dret C hr hW dX7_elementFor_17 (⟨congrArg (fun z => some (Value.double (el i z))) (by first | rw [if_pos h1] | rw [if_neg h1]), rfl⟩)
theorem hd_X7_join : yX7_join.cls ≠ "java/lang/invoke/MethodHandle" ∧ yX7_join.cls ≠ "java/lang/invoke/VarHandle" ∧ (parseMethodDescriptor yX7_join.desc).map (fun d => d.parameters.length) = some 3 := by decide +kernel
set_option maxHeartbeats 4000000 in
set_option maxRecDepth 100000 in
theorem c_X7_join {l : Launch} (hl9 : l.stackTraces = false) {D : va_G} {ct : Nat → ClassId} {ad : Nat → Nat} (sc sg sh : Nat → Int32) (el : Nat → Nat → UInt64) (nf : Nat → Nat → Int32) (lr : Nat → Nat → Option Nat) (i i2 j : Nat) (hi : i < 49) (hi2 : i2 < 49) (hj : j < 49) (hne : i ≠ j) (hne2 : i2 ≠ j) (x : Nat) (hox : zOk x = true) (hsx : sh i = nI x) (z : Nat) (hoz : zOk z = true) (hsz : sh j = nI z) (y : Nat) (hoy : zOk y = true) (hxy : zCt z = zCt x + zCt y) : ar_M l yX7_join cX7_join 6 none 3 60 D ct (xL ad ct) [.ref (ad (6 + i)), .ref (ad (6 + i2)), .ref (ad (6 + j))] (sc, sg, sh, el, nf, lr) (fun v9 u9 => ∃ f : Nat → UInt64, v9 = none ∧ (∀ q, q < zCt z → f q = if q < zCt x then el i q else el i2 (q - zCt x)) ∧ u9 = (sc, sg, sh, va_up el j f, nf, lr)) (fun _ _ => False) := by
  refine ar_ofW hl9 (by decide) (Nat.le_of_ble_eq_true rfl) ?_
  intro p e s m below meth c A ls C hr hnm hW hl
  have hx := C.1
  have hb := C.2.1
  have hown := C.2.2.2.1
  have hts := C.2.2.2.2.1
  have hl : lv_has ls 6 [(0, .ref (ad (6 + i))), (1, .ref (ad (6 + i2))), (2, .ref (ad (6 + j)))] := hl
  have hdx := zOk_num hox
  have hdz := zOk_num hoz
  have hdy := zOk_num hoy
  refine lv_aload_n hx hb dX7_join_0 rfl (lv_at hl 0 rfl) ?_
  refine ar_callV (As := []) (rest := []) C hW (c_X1_count hl9 sc sg sh el nf lr i (by omega) x (by omega) (hsx)) (xl_at (by omega) (xc_na (j := i) (by omega))) rfl q527 q214 q215 q2 q216 hd_X1_count ⟨Nat.le_of_ble_eq_true rfl, Nat.le_of_ble_eq_true rfl⟩ hl.1 (Nat.le_of_ble_eq_true rfl) rfl dX7_join_1 (fun _ _ _ _ _ _ hp => hp.elim) (fun v9 u9 H locs hp hW => ?_)
  obtain ⟨rfl, hu9⟩ := hp
  rw [hu9] at hW
  refine W.eq (g2 := F0 m 4 ls [.int (nI (zCt x))]) rfl ?_
  refine lv_istore_n (lv' := [(3, .int (nI (zCt x))), (0, .ref (ad (6 + i))), (1, .ref (ad (6 + i2))), (2, .ref (ad (6 + j)))]) hx hb dX7_join_4 rfl hl (by decide) rfl (fun ls hl => ?_)
  refine lv_aload_n hx hb dX7_join_5 rfl (lv_at hl 3 rfl) ?_
  refine ar_callV (As := []) (rest := []) C hW (c_X1_count hl9 sc sg sh el nf lr j (by omega) z (by omega) (hsz)) (xl_at (by omega) (xc_na (j := j) (by omega))) rfl q527 q214 q215 q2 q216 hd_X1_count ⟨Nat.le_of_ble_eq_true rfl, Nat.le_of_ble_eq_true rfl⟩ hl.1 (Nat.le_of_ble_eq_true rfl) rfl dX7_join_6 (fun _ _ _ _ _ _ hp => hp.elim) (fun v9 u9 H locs hp hW => ?_)
  obtain ⟨rfl, hu9⟩ := hp
  rw [hu9] at hW
  refine W.eq (g2 := F0 m 9 ls [.int (nI (zCt z))]) rfl ?_
  refine lv_istore (lv' := [(4, .int (nI (zCt z))), (3, .int (nI (zCt x))), (0, .ref (ad (6 + i))), (1, .ref (ad (6 + i2))), (2, .ref (ad (6 + j)))]) hx hb dX7_join_9 hl (by decide) rfl (fun ls hl => ?_)
  refine lv_iconst (v := nI 0) hx hb dX7_join_11 (by decide) ?_
  refine lv_istore (lv' := [(5, .int (nI 0)), (4, .int (nI (zCt z))), (3, .int (nI (zCt x))), (0, .ref (ad (6 + i))), (1, .ref (ad (6 + i2))), (2, .ref (ad (6 + j)))]) hx hb dX7_join_12 hl (by decide) rfl (fun ls hl => ?_)
  have lp : ∀ (N9 : Nat) (k : Nat) (f : Nat → UInt64) (H : Heap) (locs : List Loc) (ls : Array Slot), zCt z - k < N9 → (k ≤ zCt z) → (∀ q, q < k → f q = if q < zCt x then el i q else el i2 (q - zCt x)) → ar_W D A s.heap H locs (xL ad ct (sc, sg, sh, va_up el j f, nf, lr)) → lv_has ls 6 [(0, .ref (ad (6 + i))), (1, .ref (ad (6 + i2))), (2, .ref (ad (6 + j))), (3, .int (nI (zCt x))), (4, .int (nI (zCt z))), (5, .int (nI k))] → W p l e (ar_rm 3 60) s m [.ref (ad (6 + i)), .ref (ad (6 + i2)), .ref (ad (6 + j))].toArray below meth c H locs 0 0 (ar_E below (ar_Q D ct (xL ad ct) A (fun v9 u9 => ∃ f : Nat → UInt64, v9 = none ∧ (∀ q, q < zCt z → f q = if q < zCt x then el i q else el i2 (q - zCt x)) ∧ u9 = (sc, sg, sh, va_up el j f, nf, lr)) (fun _ _ => False)) [.ref (ad (6 + i)), .ref (ad (6 + i2)), .ref (ad (6 + j))].toArray s) (F0 m 14 ls []) := by
    intro N9
    induction N9 with
    | zero =>
      intro k f H locs ls hN9
      exact absurd hN9 (Nat.not_lt_zero _)
    | succ N9 ihlp =>
      intro k f H locs ls hN9 hk hf hW hl
      refine lv_iload hx hb dX7_join_14 (lv_at hl 5 rfl) ?_
      refine lv_iload hx hb dX7_join_16 (lv_at hl 4 rfl) ?_
      refine ln_icmp_ge (tgt := 59) hx hb dX7_join_18 (by decide) (by omega) (by omega) (fun h1 => ?_) (fun h1 => ?_)
      · skip
        exact ar_vret C hr hW dX7_join_59 (⟨f, rfl, fun q hq => hf q (by omega), rfl⟩)
      · skip
        refine lv_aload_n hx hb dX7_join_21 rfl (lv_at hl 2 rfl) ?_
        refine xg_elements (j := j) C hW q42 (by omega) dX7_join_22 ?_
        refine lv_iload hx hb dX7_join_25 (lv_at hl 5 rfl) ?_
        refine lv_iload hx hb dX7_join_27 (lv_at hl 5 rfl) ?_
        refine lv_iload_n hx hb dX7_join_29 rfl (lv_at hl 3 rfl) ?_
        refine ln_icmp_ge (tgt := 43) hx hb dX7_join_30 (by decide) (by omega) (by omega) (fun h2 => ?_) (fun h2 => ?_)
        · skip
          refine lv_aload_n hx hb dX7_join_43 rfl (lv_at hl 1 rfl) ?_
          refine xg_elements (j := i2) C hW q42 (by omega) dX7_join_44 ?_
          refine lv_iload hx hb dX7_join_47 (lv_at hl 5 rfl) ?_
          refine lv_iload_n hx hb dX7_join_49 rfl (lv_at hl 3 rfl) ?_
          refine ln_isub hx hb dX7_join_50 (by omega) ?_
          refine xl_elements (j := i2) (i := k - (zCt x)) C hW (by omega) (by omega) dX7_join_51 ?_
          rw [va_up_ne _ _ (by omega)]
          rw [show el i2 (k - (zCt x)) = (if k < zCt x then el i k else el i2 (k - zCt x)) by first | rw [if_pos (by omega)] | rw [if_neg (by omega)]]
          refine xs_elements (j := j) (i := k) C hW (by omega) (by omega) dX7_join_52 (fun H locs hW => ?_)
          simp only [bx_uu, va_up_self] at hW
          refine ln_iinc (k := 5) (n := 1) (lv' := [(5, .int (nI (k + 1))), (0, .ref (ad (6 + i))), (1, .ref (ad (6 + i2))), (2, .ref (ad (6 + j))), (3, .int (nI (zCt x))), (4, .int (nI (zCt z)))]) hx hb dX7_join_53 hl rfl (by decide) rfl (fun ls hl => ?_)
          refine lv_goto (tgt := 14) hx hb dX7_join_56 (by decide) ?_
          exact ihlp (k + 1) (va_up f k (if k < zCt x then el i k else el i2 (k - zCt x))) _ _ _ (by omega) (by omega) (fill_p hf) (hW) (lv_sub hl [1, 2, 3, 4, 5, 0] rfl)
        · skip
          refine lv_aload_n hx hb dX7_join_33 rfl (lv_at hl 0 rfl) ?_
          refine xg_elements (j := i) C hW q42 (by omega) dX7_join_34 ?_
          refine lv_iload hx hb dX7_join_37 (lv_at hl 5 rfl) ?_
          refine xl_elements (j := i) (i := k) C hW (by omega) (by omega) dX7_join_39 ?_
          rw [va_up_ne _ _ (by omega)]
          refine lv_goto (tgt := 52) hx hb dX7_join_40 (by decide) ?_
          rw [show el i k = (if k < zCt x then el i k else el i2 (k - zCt x)) by first | rw [if_pos (by omega)] | rw [if_neg (by omega)]]
          refine xs_elements (j := j) (i := k) C hW (by omega) (by omega) dX7_join_52 (fun H locs hW => ?_)
          simp only [bx_uu, va_up_self] at hW
          refine ln_iinc (k := 5) (n := 1) (lv' := [(5, .int (nI (k + 1))), (0, .ref (ad (6 + i))), (1, .ref (ad (6 + i2))), (2, .ref (ad (6 + j))), (3, .int (nI (zCt x))), (4, .int (nI (zCt z)))]) hx hb dX7_join_53 hl rfl (by decide) rfl (fun ls hl => ?_)
          refine lv_goto (tgt := 14) hx hb dX7_join_56 (by decide) ?_
          exact ihlp (k + 1) (va_up f k (if k < zCt x then el i k else el i2 (k - zCt x))) _ _ _ (by omega) (by omega) (fill_p hf) (hW) (lv_sub hl [1, 2, 3, 4, 5, 0] rfl)
  exact lp _ 0 (el j) _ _ _ (Nat.lt_succ_self _) (by omega) (fun q hq => absurd hq (Nat.not_lt_zero _)) (by rw [va_up_id]; exact hW) (lv_sub hl [3, 4, 5, 2, 1, 0] rfl)
theorem mod_nx {k n : Nat} (h : k % n < n - 1) : k % n + 1 = (k + 1) % n := by
  have h0 : 0 < n := by omega
  rw [Nat.add_mod, Nat.mod_eq_of_lt (a := 1) (by omega)]
  exact (Nat.mod_eq_of_lt (by omega)).symm
theorem mod_n0 {k n : Nat} (h0 : 0 < n) (h : n - 1 ≤ k % n) : 0 = (k + 1) % n := by
  have h1 := Nat.mod_lt k h0
  rw [Nat.add_mod, show k % n = n - 1 by omega]
  by_cases h2 : n = 1
  · subst h2; rfl
  · rw [Nat.mod_eq_of_lt (a := 1) (by omega), show n - 1 + 1 = n by omega, Nat.mod_self]
theorem hd_X7_fillAnew : yX7_fillAnew.cls ≠ "java/lang/invoke/MethodHandle" ∧ yX7_fillAnew.cls ≠ "java/lang/invoke/VarHandle" ∧ (parseMethodDescriptor yX7_fillAnew.desc).map (fun d => d.parameters.length) = some 2 := by decide +kernel
set_option maxHeartbeats 4000000 in
set_option maxRecDepth 100000 in
theorem c_X7_fillAnew {l : Launch} (hl9 : l.stackTraces = false) {D : va_G} {ct : Nat → ClassId} {ad : Nat → Nat} (sc sg sh : Nat → Int32) (el : Nat → Nat → UInt64) (nf : Nat → Nat → Int32) (lr : Nat → Nat → Option Nat) (i j : Nat) (hi : i < 49) (hj : j < 49) (hne : i ≠ j) (x : Nat) (hox : zOk x = true) (hsx : sh i = nI x) (z : Nat) (hoz : zOk z = true) (hsz : sh j = nI z) : ar_M l yX7_fillAnew cX7_fillAnew 6 none 3 60 D ct (xL ad ct) [.ref (ad (6 + i)), .ref (ad (6 + j))] (sc, sg, sh, el, nf, lr) (fun v9 u9 => ∃ f : Nat → UInt64, v9 = none ∧ (∀ q, q < zCt z → f q = el i (q % zCt x)) ∧ u9 = (sc, sg, sh, va_up el j f, nf, lr)) (fun _ _ => False) := by
  refine ar_ofW hl9 (by decide) (Nat.le_of_ble_eq_true rfl) ?_
  intro p e s m below meth c A ls C hr hnm hW hl
  have hx := C.1
  have hb := C.2.1
  have hown := C.2.2.2.1
  have hts := C.2.2.2.2.1
  have hl : lv_has ls 6 [(0, .ref (ad (6 + i))), (1, .ref (ad (6 + j)))] := hl
  have hdx := zOk_num hox
  have hdz := zOk_num hoz
  have h0m : 0 % zCt x = 0 := Nat.zero_mod _
  refine lv_aload_n hx hb dX7_fillAnew_0 rfl (lv_at hl 1 rfl) ?_
  refine ar_callV (As := []) (rest := []) C hW (c_X1_count hl9 sc sg sh el nf lr j (by omega) z (by omega) (hsz)) (xl_at (by omega) (xc_na (j := j) (by omega))) rfl q527 q214 q215 q2 q216 hd_X1_count ⟨Nat.le_of_ble_eq_true rfl, Nat.le_of_ble_eq_true rfl⟩ hl.1 (Nat.le_of_ble_eq_true rfl) rfl dX7_fillAnew_1 (fun _ _ _ _ _ _ hp => hp.elim) (fun v9 u9 H locs hp hW => ?_)
  obtain ⟨rfl, hu9⟩ := hp
  rw [hu9] at hW
  refine W.eq (g2 := F0 m 4 ls [.int (nI (zCt z))]) rfl ?_
  refine lv_istore_n (lv' := [(2, .int (nI (zCt z))), (0, .ref (ad (6 + i))), (1, .ref (ad (6 + j)))]) hx hb dX7_fillAnew_4 rfl hl (by decide) rfl (fun ls hl => ?_)
  refine lv_aload_n hx hb dX7_fillAnew_5 rfl (lv_at hl 1 rfl) ?_
  refine ar_callV (As := []) (rest := []) C hW (c_X1_count hl9 sc sg sh el nf lr i (by omega) x (by omega) (hsx)) (xl_at (by omega) (xc_na (j := i) (by omega))) rfl q527 q214 q215 q2 q216 hd_X1_count ⟨Nat.le_of_ble_eq_true rfl, Nat.le_of_ble_eq_true rfl⟩ hl.1 (Nat.le_of_ble_eq_true rfl) rfl dX7_fillAnew_6 (fun _ _ _ _ _ _ hp => hp.elim) (fun v9 u9 H locs hp hW => ?_)
  obtain ⟨rfl, hu9⟩ := hp
  rw [hu9] at hW
  refine W.eq (g2 := F0 m 9 ls [.int (nI (zCt x))]) rfl ?_
  refine lv_iconst (v := nI 1) hx hb dX7_fillAnew_9 (by decide) ?_
  refine ln_isub hx hb dX7_fillAnew_10 (by omega) ?_
  refine lv_istore_n (lv' := [(3, .int (nI ((zCt x) - 1))), (2, .int (nI (zCt z))), (0, .ref (ad (6 + i))), (1, .ref (ad (6 + j)))]) hx hb dX7_fillAnew_11 rfl hl (by decide) rfl (fun ls hl => ?_)
  refine lv_iconst (v := nI 0) hx hb dX7_fillAnew_12 (by decide) ?_
  refine lv_istore (lv' := [(4, .int (nI 0)), (3, .int (nI ((zCt x) - 1))), (2, .int (nI (zCt z))), (0, .ref (ad (6 + i))), (1, .ref (ad (6 + j)))]) hx hb dX7_fillAnew_13 hl (by decide) rfl (fun ls hl => ?_)
  refine lv_iconst (v := nI 0) hx hb dX7_fillAnew_15 (by decide) ?_
  refine lv_istore (lv' := [(5, .int (nI 0)), (4, .int (nI 0)), (3, .int (nI ((zCt x) - 1))), (2, .int (nI (zCt z))), (0, .ref (ad (6 + i))), (1, .ref (ad (6 + j)))]) hx hb dX7_fillAnew_16 hl (by decide) rfl (fun ls hl => ?_)
  have lp : ∀ (N9 : Nat) (k : Nat) (f : Nat → UInt64) (H : Heap) (locs : List Loc) (ls : Array Slot), zCt z - k < N9 → (k ≤ zCt z) → (∀ q, q < k → f q = el i (q % zCt x)) → ar_W D A s.heap H locs (xL ad ct (sc, sg, sh, va_up el j f, nf, lr)) → lv_has ls 6 [(0, .ref (ad (6 + i))), (1, .ref (ad (6 + j))), (2, .int (nI (zCt z))), (3, .int (nI (zCt x - 1))), (4, .int (nI (k % zCt x))), (5, .int (nI k))] → W p l e (ar_rm 3 60) s m [.ref (ad (6 + i)), .ref (ad (6 + j))].toArray below meth c H locs 0 0 (ar_E below (ar_Q D ct (xL ad ct) A (fun v9 u9 => ∃ f : Nat → UInt64, v9 = none ∧ (∀ q, q < zCt z → f q = el i (q % zCt x)) ∧ u9 = (sc, sg, sh, va_up el j f, nf, lr)) (fun _ _ => False)) [.ref (ad (6 + i)), .ref (ad (6 + j))].toArray s) (F0 m 18 ls []) := by
    intro N9
    induction N9 with
    | zero =>
      intro k f H locs ls hN9
      exact absurd hN9 (Nat.not_lt_zero _)
    | succ N9 ihlp =>
      intro k f H locs ls hN9 hk hf hW hl
      refine lv_iload hx hb dX7_fillAnew_18 (lv_at hl 5 rfl) ?_
      refine lv_iload_n hx hb dX7_fillAnew_20 rfl (lv_at hl 2 rfl) ?_
      refine ln_icmp_ge (tgt := 60) hx hb dX7_fillAnew_21 (by decide) (by omega) (by omega) (fun h1 => ?_) (fun h1 => ?_)
      · skip
        exact ar_vret C hr hW dX7_fillAnew_60 (⟨f, rfl, fun q hq => hf q (by omega), rfl⟩)
      · skip
        refine lv_aload_n hx hb dX7_fillAnew_24 rfl (lv_at hl 1 rfl) ?_
        refine xg_elements (j := j) C hW q42 (by omega) dX7_fillAnew_25 ?_
        refine lv_iload hx hb dX7_fillAnew_28 (lv_at hl 5 rfl) ?_
        refine lv_aload_n hx hb dX7_fillAnew_30 rfl (lv_at hl 0 rfl) ?_
        refine xg_elements (j := i) C hW q42 (by omega) dX7_fillAnew_31 ?_
        refine lv_iload hx hb dX7_fillAnew_34 (lv_at hl 4 rfl) ?_
        refine xl_elements (j := i) (i := k % zCt x) C hW (by have := Nat.mod_lt k (show 0 < zCt x by omega); omega) (by have := Nat.mod_lt k (show 0 < zCt x by omega); omega) dX7_fillAnew_36 ?_
        rw [va_up_ne _ _ (by omega)]
        refine xs_elements (j := j) (i := k) C hW (by omega) (by omega) dX7_fillAnew_37 (fun H locs hW => ?_)
        simp only [bx_uu, va_up_self] at hW
        refine lv_iload hx hb dX7_fillAnew_38 (lv_at hl 4 rfl) ?_
        refine lv_iload_n hx hb dX7_fillAnew_40 rfl (lv_at hl 3 rfl) ?_
        refine ln_icmp_ge (tgt := 51) hx hb dX7_fillAnew_41 (by decide) (by have := Nat.mod_lt k (show 0 < zCt x by omega); omega) (by omega) (fun h2 => ?_) (fun h2 => ?_)
        · skip
          refine lv_iconst (v := nI 0) hx hb dX7_fillAnew_51 (by decide) ?_
          refine ln_top (a := (k + 1) % zCt x) (congrArg nI (mod_n0 (by omega) h2)) ?_
          refine lv_istore (lv' := [(4, .int (nI ((k + 1) % zCt x))), (0, .ref (ad (6 + i))), (1, .ref (ad (6 + j))), (2, .int (nI (zCt z))), (3, .int (nI (zCt x - 1))), (5, .int (nI k))]) hx hb dX7_fillAnew_52 hl (by decide) rfl (fun ls hl => ?_)
          refine ln_iinc (k := 5) (n := 1) (lv' := [(5, .int (nI (k + 1))), (4, .int (nI ((k + 1) % zCt x))), (0, .ref (ad (6 + i))), (1, .ref (ad (6 + j))), (2, .int (nI (zCt z))), (3, .int (nI (zCt x - 1)))]) hx hb dX7_fillAnew_54 hl rfl (by decide) rfl (fun ls hl => ?_)
          refine lv_goto (tgt := 18) hx hb dX7_fillAnew_57 (by decide) ?_
          exact ihlp (k + 1) (va_up f k (el i (k % zCt x))) _ _ _ (by omega) (by omega) (fill_p hf) (hW) (lv_sub hl [2, 3, 4, 5, 1, 0] rfl)
        · skip
          refine lv_iload hx hb dX7_fillAnew_44 (lv_at hl 4 rfl) ?_
          refine lv_iconst (v := nI 1) hx hb dX7_fillAnew_46 (by decide) ?_
          refine ln_iadd hx hb dX7_fillAnew_47 ?_
          refine lv_goto (tgt := 52) hx hb dX7_fillAnew_48 (by decide) ?_
          refine ln_top (a := (k + 1) % zCt x) (congrArg nI (mod_nx h2)) ?_
          refine lv_istore (lv' := [(4, .int (nI ((k + 1) % zCt x))), (0, .ref (ad (6 + i))), (1, .ref (ad (6 + j))), (2, .int (nI (zCt z))), (3, .int (nI (zCt x - 1))), (5, .int (nI k))]) hx hb dX7_fillAnew_52 hl (by decide) rfl (fun ls hl => ?_)
          refine ln_iinc (k := 5) (n := 1) (lv' := [(5, .int (nI (k + 1))), (4, .int (nI ((k + 1) % zCt x))), (0, .ref (ad (6 + i))), (1, .ref (ad (6 + j))), (2, .int (nI (zCt z))), (3, .int (nI (zCt x - 1)))]) hx hb dX7_fillAnew_54 hl rfl (by decide) rfl (fun ls hl => ?_)
          refine lv_goto (tgt := 18) hx hb dX7_fillAnew_57 (by decide) ?_
          exact ihlp (k + 1) (va_up f k (el i (k % zCt x))) _ _ _ (by omega) (by omega) (fill_p hf) (hW) (lv_sub hl [2, 3, 4, 5, 1, 0] rfl)
  exact lp _ 0 (el j) _ _ _ (Nat.lt_succ_self _) (by omega) (fun q hq => absurd hq (Nat.not_lt_zero _)) (by rw [va_up_id]; exact hW) (lv_sub hl [4, 5, 3, 2, 1, 0] rfl)
theorem hd_X7_combineEach : yX7_combineEach.cls ≠ "java/lang/invoke/MethodHandle" ∧ yX7_combineEach.cls ≠ "java/lang/invoke/VarHandle" ∧ (parseMethodDescriptor yX7_combineEach.desc).map (fun d => d.parameters.length) = some 4 := by decide +kernel
set_option maxHeartbeats 4000000 in
set_option maxRecDepth 100000 in
theorem c_X7_combineEach {l : Launch} (hl9 : l.stackTraces = false) {D : va_G} {ct : Nat → ClassId} {ad : Nat → Nat} (sc sg sh : Nat → Int32) (el : Nat → Nat → UInt64) (nf : Nat → Nat → Int32) (lr : Nat → Nat → Option Nat) (ch i i2 j : Nat) (hcs : zSg ch) (hi : i < 49) (hi2 : i2 < 49) (hj : j < 49) (hne : i ≠ j) (hne2 : i2 ≠ j) (x : Nat) (hox : zOk x = true) (hsx : sh i = nI x) (z : Nat) (hoz : zOk z = true) (hsz : sh j = nI z) (y : Nat) (hoy : zOk y = true) (hsy : sh i2 = nI y) (hxz : x ≠ 0 → x = z) (hyz : y ≠ 0 → y = z) (hrx : ∀ q, q < zCt x → zRg (el i q) = true) (hry : ∀ q, q < zCt y → zRg (el i2 q) = true) : ar_M l yX7_combineEach cX7_combineEach 6 none 7 116 D ct (xL ad ct) [.int (nI ch), .ref (ad (6 + i)), .ref (ad (6 + i2)), .ref (ad (6 + j))] (sc, sg, sh, el, nf, lr) (fun v9 u9 => (∀ q, q < zCt z → zRg (zOp ch (el i (if x = 0 then 0 else q)) (el i2 (if y = 0 then 0 else q))) = true) ∧ ∃ f : Nat → UInt64, v9 = none ∧ (∀ q, q < zCt z → f q = zOp ch (el i (if x = 0 then 0 else q)) (el i2 (if y = 0 then 0 else q))) ∧ u9 = (sc, sg, sh, va_up el j f, nf, lr)) (fun E9 u9 => E9 = ARE ∧ ¬ (∀ q, q < zCt z → zRg (zOp ch (el i (if x = 0 then 0 else q)) (el i2 (if y = 0 then 0 else q))) = true) ∧ ∃ f : Nat → UInt64, u9 = (sc, sg, sh, va_up el j f, nf, lr)) := by
  refine ar_ofW hl9 (by decide) (Nat.le_of_ble_eq_true rfl) ?_
  intro p e s m below meth c A ls C hr hnm hW hl
  have hx := C.1
  have hb := C.2.1
  have hown := C.2.2.2.1
  have hts := C.2.2.2.2.1
  have hl : lv_has ls 6 [(0, .int (nI ch)), (1, .ref (ad (6 + i))), (2, .ref (ad (6 + i2))), (3, .ref (ad (6 + j)))] := hl
  have hdx := zOk_num hox
  have hdz := zOk_num hoz
  have hdy := zOk_num hoy
  refine lv_aload_n hx hb dX7_combineEach_0 rfl (lv_at hl 3 rfl) ?_
  refine ar_callV (As := []) (rest := []) C hW (c_X1_count hl9 sc sg sh el nf lr j (by omega) z (by omega) (hsz)) (xl_at (by omega) (xc_na (j := j) (by omega))) rfl q527 q214 q215 q2 q216 hd_X1_count ⟨Nat.le_of_ble_eq_true rfl, Nat.le_of_ble_eq_true rfl⟩ hl.1 (Nat.le_of_ble_eq_true rfl) rfl dX7_combineEach_1 (fun _ _ _ _ _ _ hp => hp.elim) (fun v9 u9 H locs hp hW => ?_)
  obtain ⟨rfl, hu9⟩ := hp
  rw [hu9] at hW
  refine W.eq (g2 := F0 m 4 ls [.int (nI (zCt z))]) rfl ?_
  refine lv_istore (lv' := [(4, .int (nI (zCt z))), (0, .int (nI ch)), (1, .ref (ad (6 + i))), (2, .ref (ad (6 + i2))), (3, .ref (ad (6 + j)))]) hx hb dX7_combineEach_4 hl (by decide) rfl (fun ls hl => ?_)
  refine lv_iconst (v := nI 0) hx hb dX7_combineEach_6 (by decide) ?_
  refine lv_istore (lv' := [(5, .int (nI 0)), (4, .int (nI (zCt z))), (0, .int (nI ch)), (1, .ref (ad (6 + i))), (2, .ref (ad (6 + i2))), (3, .ref (ad (6 + j)))]) hx hb dX7_combineEach_7 hl (by decide) rfl (fun ls hl => ?_)
  have lp : ∀ (N9 : Nat) (k : Nat) (f : Nat → UInt64) (H : Heap) (locs : List Loc) (ls : Array Slot), zCt z - k < N9 → (k ≤ zCt z) → (∀ q, q < k → f q = zOp ch (el i (if x = 0 then 0 else q)) (el i2 (if y = 0 then 0 else q))) → (∀ q, q < k → zRg (zOp ch (el i (if x = 0 then 0 else q)) (el i2 (if y = 0 then 0 else q))) = true) → ar_W D A s.heap H locs (xL ad ct (sc, sg, sh, va_up el j f, nf, lr)) → lv_has ls 6 [(0, .int (nI ch)), (1, .ref (ad (6 + i))), (2, .ref (ad (6 + i2))), (3, .ref (ad (6 + j))), (4, .int (nI (zCt z))), (5, .int (nI k))] → W p l e (ar_rm 7 116) s m [.int (nI ch), .ref (ad (6 + i)), .ref (ad (6 + i2)), .ref (ad (6 + j))].toArray below meth c H locs 0 0 (ar_E below (ar_Q D ct (xL ad ct) A (fun v9 u9 => (∀ q, q < zCt z → zRg (zOp ch (el i (if x = 0 then 0 else q)) (el i2 (if y = 0 then 0 else q))) = true) ∧ ∃ f : Nat → UInt64, v9 = none ∧ (∀ q, q < zCt z → f q = zOp ch (el i (if x = 0 then 0 else q)) (el i2 (if y = 0 then 0 else q))) ∧ u9 = (sc, sg, sh, va_up el j f, nf, lr)) (fun E9 u9 => E9 = ARE ∧ ¬ (∀ q, q < zCt z → zRg (zOp ch (el i (if x = 0 then 0 else q)) (el i2 (if y = 0 then 0 else q))) = true) ∧ ∃ f : Nat → UInt64, u9 = (sc, sg, sh, va_up el j f, nf, lr))) [.int (nI ch), .ref (ad (6 + i)), .ref (ad (6 + i2)), .ref (ad (6 + j))].toArray s) (F0 m 9 ls []) := by
    intro N9
    induction N9 with
    | zero =>
      intro k f H locs ls hN9
      exact absurd hN9 (Nat.not_lt_zero _)
    | succ N9 ihlp =>
      intro k f H locs ls hN9 hk hf hR hW hl
      refine lv_iload hx hb dX7_combineEach_9 (lv_at hl 5 rfl) ?_
      refine lv_iload hx hb dX7_combineEach_11 (lv_at hl 4 rfl) ?_
      refine ln_icmp_ge (tgt := 45) hx hb dX7_combineEach_13 (by decide) (by omega) (by omega) (fun h1 => ?_) (fun h1 => ?_)
      · skip
        exact ar_vret C hr hW dX7_combineEach_45 (⟨fun q hq => hR q (by omega), f, rfl, fun q hq => hf q (by omega), rfl⟩)
      · skip
        refine lv_aload_n hx hb dX7_combineEach_16 rfl (lv_at hl 3 rfl) ?_
        refine xg_elements (j := j) C hW q42 (by omega) dX7_combineEach_17 ?_
        refine lv_iload hx hb dX7_combineEach_20 (lv_at hl 5 rfl) ?_
        refine lv_iload_n hx hb dX7_combineEach_22 rfl (lv_at hl 0 rfl) ?_
        refine lv_aload_n hx hb dX7_combineEach_23 rfl (lv_at hl 1 rfl) ?_
        refine lv_iload hx hb dX7_combineEach_24 (lv_at hl 5 rfl) ?_
        refine ar_callS (As := [.ref (ad (6 + i)), .int (nI k)]) (rest := [.int (nI ch), .int (nI k), .ref (ad (55 + j))]) C hW (c_X7_elementFor hl9 sc sg sh (va_up el j f) nf lr i (by omega) x (by omega) (hsx) k (by omega)) q556 q557 q20 q558 hd_X7_elementFor ⟨Nat.le_of_ble_eq_true rfl, Nat.le_of_ble_eq_true rfl⟩ hl.1 (Nat.le_of_ble_eq_true rfl) rfl dX7_combineEach_26 (fun _ _ _ _ _ _ hp => hp.elim) (fun v9 u9 H locs hp hW => ?_)
        obtain ⟨rfl, hu9⟩ := hp
        rw [hu9] at hW
        rw [va_up_ne _ _ (show i ≠ j by omega)]
        refine W.eq (g2 := F0 m 29 ls [.double (el i (if x = 0 then 0 else k)), .int (nI ch), .int (nI k), .ref (ad (55 + j))]) rfl ?_
        refine lv_aload_n hx hb dX7_combineEach_29 rfl (lv_at hl 2 rfl) ?_
        refine lv_iload hx hb dX7_combineEach_30 (lv_at hl 5 rfl) ?_
        refine ar_callS (As := [.ref (ad (6 + i2)), .int (nI k)]) (rest := [.double (el i (if x = 0 then 0 else k)), .int (nI ch), .int (nI k), .ref (ad (55 + j))]) C hW (c_X7_elementFor hl9 sc sg sh (va_up el j f) nf lr i2 (by omega) y (by omega) (hsy) k (by omega)) q556 q557 q20 q558 hd_X7_elementFor ⟨Nat.le_of_ble_eq_true rfl, Nat.le_of_ble_eq_true rfl⟩ hl.1 (Nat.le_of_ble_eq_true rfl) rfl dX7_combineEach_32 (fun _ _ _ _ _ _ hp => hp.elim) (fun v9 u9 H locs hp hW => ?_)
        obtain ⟨rfl, hu9⟩ := hp
        rw [hu9] at hW
        rw [va_up_ne _ _ (show i2 ≠ j by omega)]
        refine W.eq (g2 := F0 m 35 ls [.double (el i2 (if y = 0 then 0 else k)), .double (el i (if x = 0 then 0 else k)), .int (nI ch), .int (nI k), .ref (ad (55 + j))]) rfl ?_
        refine ar_callS (As := [.int (nI ch), .double (el i (if x = 0 then 0 else k)), .double (el i2 (if y = 0 then 0 else k))]) (rest := [.int (nI k), .ref (ad (55 + j))]) C hW (c_X7_combined hl9 _ ch (el i (if x = 0 then 0 else k)) (el i2 (if y = 0 then 0 else k)) (hcs) (hrx _ (by by_cases h77 : x = 0; rw [if_pos h77]; omega; rw [if_neg h77]; have := hxz h77; subst this; omega)) (hry _ (by by_cases h77 : y = 0; rw [if_pos h77]; omega; rw [if_neg h77]; have := hyz h77; subst this; omega))) q540 q541 q20 q542 hd_X7_combined ⟨Nat.le_of_ble_eq_true rfl, Nat.le_of_ble_eq_true rfl⟩ hl.1 (Nat.le_of_ble_eq_true rfl) rfl dX7_combineEach_35 (fun E9 ce9 q9 u9 H locs hp hW h91 h92 h93 => ar_out C hW h91 h92 h93 (⟨hp.2.1, fun q9 => absurd (q9 k (by omega)) (by rw [hp.1]; decide), f, hp.2.2⟩)) (fun v9 u9 H locs hp hW => ?_)
        obtain ⟨hz9, rfl, hu9⟩ := hp
        rw [hu9] at hW
        refine W.eq (g2 := F0 m 38 ls [.double (zOp ch (el i (if x = 0 then 0 else k)) (el i2 (if y = 0 then 0 else k))), .int (nI k), .ref (ad (55 + j))]) rfl ?_
        refine xs_elements (j := j) (i := k) C hW (by omega) (by omega) dX7_combineEach_38 (fun H locs hW => ?_)
        simp only [bx_uu, va_up_self] at hW
        refine ln_iinc (k := 5) (n := 1) (lv' := [(5, .int (nI (k + 1))), (0, .int (nI ch)), (1, .ref (ad (6 + i))), (2, .ref (ad (6 + i2))), (3, .ref (ad (6 + j))), (4, .int (nI (zCt z)))]) hx hb dX7_combineEach_39 hl rfl (by decide) rfl (fun ls hl => ?_)
        refine lv_goto (tgt := 9) hx hb dX7_combineEach_42 (by decide) ?_
        exact ihlp (k + 1) (va_up f k (zOp ch (el i (if x = 0 then 0 else k)) (el i2 (if y = 0 then 0 else k)))) _ _ _ (by omega) (by omega) (fill_p hf) (fun q hq => by by_cases h77 : q = k; (rw [h77]; exact hz9); exact hR q (by omega)) (hW) (lv_sub hl [1, 2, 3, 4, 5, 0] rfl)
  exact lp _ 0 (el j) _ _ _ (Nat.lt_succ_self _) (by omega) (fun q hq => absurd hq (Nat.not_lt_zero _)) (fun q hq => absurd hq (Nat.not_lt_zero _)) (by rw [va_up_id]; exact hW) (lv_sub hl [2, 3, 4, 5, 1, 0] rfl)
theorem va_up_eq {α : Type} {f : Nat → α} {k : Nat} {v : α} (h : v = f k) : va_up f k v = f := by rw [h]; exact va_up_id f k
theorem zTq_s {L G a b : Nat} {f e : Nat → UInt64} (ha : a < L) (hf : ∀ q, q < L * G → (q % L < a ∨ (q % L = a ∧ q / L < b)) → f q = e (q % L * G + q / L)) : ∀ q, q < L * G → (q % L < a ∨ (q % L = a ∧ q / L < b + 1)) → va_up f (b * L + a) (e (a * G + b)) q = e (q % L * G + q / L) := by
  intro q hq h
  have h1 := Nat.div_add_mod q L
  unfold va_up
  by_cases h2 : q = b * L + a
  · rw [if_pos h2]
    have e1 : q % L = a := by rw [h2, Nat.mul_comm, Nat.mul_add_mod]; exact Nat.mod_eq_of_lt ha
    have e2 : q / L = b := by rw [h2, Nat.mul_comm, Nat.mul_add_div (by omega), Nat.div_eq_of_lt ha, Nat.add_zero]
    rw [e1, e2]
  · rw [if_neg h2]
    refine hf q hq ?_
    rcases h with h | ⟨h3, h4⟩
    · exact Or.inl h
    · refine Or.inr ⟨h3, ?_⟩
      by_cases h5 : q / L = b
      · exfalso
        apply h2
        rw [← h1, h3, h5, Nat.mul_comm]
      · omega
theorem zTq_o {L G a b : Nat} {f e : Nat → UInt64} (hb : G ≤ b) (hf : ∀ q, q < L * G → (q % L < a ∨ (q % L = a ∧ q / L < b)) → f q = e (q % L * G + q / L)) : ∀ q, q < L * G → q % L < a + 1 → f q = e (q % L * G + q / L) := by
  intro q hq h
  have h3 : q / L < G := Nat.div_lt_of_lt_mul hq
  exact hf q hq (by omega)
theorem hd_X7_turn : yX7_turn.cls ≠ "java/lang/invoke/MethodHandle" ∧ yX7_turn.cls ≠ "java/lang/invoke/VarHandle" ∧ (parseMethodDescriptor yX7_turn.desc).map (fun d => d.parameters.length) = some 2 := by decide +kernel
set_option maxHeartbeats 4000000 in
set_option maxRecDepth 100000 in
theorem c_X7_turn {l : Launch} (hl9 : l.stackTraces = false) {D : va_G} {ct : Nat → ClassId} {ad : Nat → Nat} (sc sg sh : Nat → Int32) (el : Nat → Nat → UInt64) (nf : Nat → Nat → Int32) (lr : Nat → Nat → Option Nat) (i j : Nat) (hi : i < 49) (hj : j < 49) (hne : i ≠ j) (x : Nat) (hok : zOk x = true) (hsh : sh i = nI x) (hsj : sh j = nI (zTrn x)) : ar_M l yX7_turn cX7_turn 6 none 1 22 D ct (xL ad ct) [.ref (ad (6 + i)), .ref (ad (6 + j))] (sc, sg, sh, el, nf, lr) (fun v9 u9 => ∃ f : Nat → UInt64, v9 = none ∧ (∀ q, q < zCt x → f q = el i (zTq x q)) ∧ u9 = (sc, sg, sh, va_up el j f, nf, lr)) (fun _ _ => False) := by
  refine ar_ofW hl9 (by decide) (Nat.le_of_ble_eq_true rfl) ?_
  intro p e s m below meth c A ls C hr hnm hW hl
  have hx := C.1
  have hb := C.2.1
  have hown := C.2.2.2.1
  have hts := C.2.2.2.2.1
  have hl : lv_has ls 6 [(0, .ref (ad (6 + i))), (1, .ref (ad (6 + j)))] := hl
  have hd9 := zOk_d hok
  have hc9 := zOk_num hok
  refine lv_aload_n hx hb dX7_turn_0 rfl (lv_at hl 0 rfl) ?_
  refine xg_shape (j := i) C hW q40 (by omega) dX7_turn_1 ?_
  refine ln_top (hsh) ?_
  refine ar_callS (As := [.int (nI x)]) (rest := []) C hW (c_X4_isTable hl9 _ x (by omega)) q534 q474 q7 q475 hd_X4_isTable ⟨Nat.le_of_ble_eq_true rfl, Nat.le_of_ble_eq_true rfl⟩ hl.1 (Nat.le_of_ble_eq_true rfl) rfl dX7_turn_4 (fun _ _ _ _ _ _ hp => hp.elim) (fun v9 u9 H locs hp hW => ?_)
  obtain ⟨rfl, hu9⟩ := hp
  rw [hu9] at hW
  refine W.eq (g2 := F0 m 7 ls [.int (bI (zTb x))]) rfl ?_
  refine lb_if_ne (tgt := 16) hx hb dX7_turn_7 (by decide) (fun h1 => ?_) (fun h1 => ?_)
  · skip
    refine lv_aload_n hx hb dX7_turn_16 rfl (lv_at hl 0 rfl) ?_
    refine xg_shape (j := i) C hW q40 (by omega) dX7_turn_17 ?_
    refine ln_top (hsh) ?_
    refine ar_callS (As := [.int (nI x)]) (rest := []) C hW (c_X4_lines hl9 _ x (by omega)) q535 q193 q7 q194 hd_X4_lines ⟨Nat.le_of_ble_eq_true rfl, Nat.le_of_ble_eq_true rfl⟩ hl.1 (Nat.le_of_ble_eq_true rfl) rfl dX7_turn_20 (fun _ _ _ _ _ _ hp => hp.elim) (fun v9 u9 H locs hp hW => ?_)
    obtain ⟨rfl, hu9⟩ := hp
    rw [hu9] at hW
    refine W.eq (g2 := F0 m 23 ls [.int (nI (zLn x))]) rfl ?_
    refine lv_istore_n (lv' := [(2, .int (nI (zLn x))), (0, .ref (ad (6 + i))), (1, .ref (ad (6 + j)))]) hx hb dX7_turn_23 rfl hl (by decide) rfl (fun ls hl => ?_)
    refine lv_aload_n hx hb dX7_turn_24 rfl (lv_at hl 1 rfl) ?_
    refine xg_shape (j := i) C hW q40 (by omega) dX7_turn_25 ?_
    refine ln_top (hsh) ?_
    refine ar_callS (As := [.int (nI x)]) (rest := []) C hW (c_X4_length hl9 _ x (by omega)) q536 q196 q7 q197 hd_X4_length ⟨Nat.le_of_ble_eq_true rfl, Nat.le_of_ble_eq_true rfl⟩ hl.1 (Nat.le_of_ble_eq_true rfl) rfl dX7_turn_28 (fun _ _ _ _ _ _ hp => hp.elim) (fun v9 u9 H locs hp hW => ?_)
    obtain ⟨rfl, hu9⟩ := hp
    rw [hu9] at hW
    refine W.eq (g2 := F0 m 31 ls [.int (nI (zLg x))]) rfl ?_
    refine lv_istore_n (lv' := [(3, .int (nI (zLg x))), (2, .int (nI (zLn x))), (0, .ref (ad (6 + i))), (1, .ref (ad (6 + j)))]) hx hb dX7_turn_31 rfl hl (by decide) rfl (fun ls hl => ?_)
    refine lv_iconst (v := nI 0) hx hb dX7_turn_32 (by decide) ?_
    refine lv_istore (lv' := [(4, .int (nI 0)), (3, .int (nI (zLg x))), (2, .int (nI (zLn x))), (0, .ref (ad (6 + i))), (1, .ref (ad (6 + j)))]) hx hb dX7_turn_33 hl (by decide) rfl (fun ls hl => ?_)
    have lp : ∀ (N9 : Nat) (a : Nat) (f : Nat → UInt64) (H : Heap) (locs : List Loc) (ls : Array Slot), zLn x - a < N9 → (a ≤ zLn x) → (∀ q, q < zLn x * zLg x → q % zLn x < a → f q = el i (q % zLn x * zLg x + q / zLn x)) → ar_W D A s.heap H locs (xL ad ct (sc, sg, sh, va_up el j f, nf, lr)) → lv_has ls 6 [(0, .ref (ad (6 + i))), (1, .ref (ad (6 + j))), (2, .int (nI (zLn x))), (3, .int (nI (zLg x))), (4, .int (nI a))] → W p l e (ar_rm 1 22) s m [.ref (ad (6 + i)), .ref (ad (6 + j))].toArray below meth c H locs 0 0 (ar_E below (ar_Q D ct (xL ad ct) A (fun v9 u9 => ∃ f : Nat → UInt64, v9 = none ∧ (∀ q, q < zCt x → f q = el i (zTq x q)) ∧ u9 = (sc, sg, sh, va_up el j f, nf, lr)) (fun _ _ => False)) [.ref (ad (6 + i)), .ref (ad (6 + j))].toArray s) (F0 m 35 ls []) := by
      intro N9
      induction N9 with
      | zero =>
        intro a f H locs ls hN9
        exact absurd hN9 (Nat.not_lt_zero _)
      | succ N9 ihlp =>
        intro a f H locs ls hN9 ha hf hW hl
        refine lv_iload hx hb dX7_turn_35 (lv_at hl 4 rfl) ?_
        refine lv_iload_n hx hb dX7_turn_37 rfl (lv_at hl 2 rfl) ?_
        refine ln_icmp_ge (tgt := 86) hx hb dX7_turn_38 (by decide) (by omega) (by omega) (fun h2 => ?_) (fun h2 => ?_)
        · skip
          exact ar_vret C hr hW dX7_turn_86 (⟨f, rfl, fun q hq => by unfold zTq; rw [if_pos h1]; exact hf q hq (by have := Nat.mod_lt q (show 0 < zLn x by omega); omega), rfl⟩)
        · skip
          refine lv_iconst (v := nI 0) hx hb dX7_turn_41 (by decide) ?_
          refine lv_istore (lv' := [(5, .int (nI 0)), (0, .ref (ad (6 + i))), (1, .ref (ad (6 + j))), (2, .int (nI (zLn x))), (3, .int (nI (zLg x))), (4, .int (nI a))]) hx hb dX7_turn_42 hl (by decide) rfl (fun ls hl => ?_)
          have lq : ∀ (N9 : Nat) (b : Nat) (f : Nat → UInt64) (H : Heap) (locs : List Loc) (ls : Array Slot), zLg x - b < N9 → (b ≤ zLg x) → (∀ q, q < zLn x * zLg x → (q % zLn x < a ∨ (q % zLn x = a ∧ q / zLn x < b)) → f q = el i (q % zLn x * zLg x + q / zLn x)) → ar_W D A s.heap H locs (xL ad ct (sc, sg, sh, va_up el j f, nf, lr)) → lv_has ls 6 [(0, .ref (ad (6 + i))), (1, .ref (ad (6 + j))), (2, .int (nI (zLn x))), (3, .int (nI (zLg x))), (4, .int (nI a)), (5, .int (nI b))] → W p l e (ar_rm 1 22) s m [.ref (ad (6 + i)), .ref (ad (6 + j))].toArray below meth c H locs 0 0 (ar_E below (ar_Q D ct (xL ad ct) A (fun v9 u9 => ∃ f : Nat → UInt64, v9 = none ∧ (∀ q, q < zCt x → f q = el i (zTq x q)) ∧ u9 = (sc, sg, sh, va_up el j f, nf, lr)) (fun _ _ => False)) [.ref (ad (6 + i)), .ref (ad (6 + j))].toArray s) (F0 m 44 ls []) := by
            intro N9
            induction N9 with
            | zero =>
              intro b f H locs ls hN9
              exact absurd hN9 (Nat.not_lt_zero _)
            | succ N9 ihlq =>
              intro b f H locs ls hN9 hb9 hg hW hl
              refine lv_iload hx hb dX7_turn_44 (lv_at hl 5 rfl) ?_
              refine lv_iload_n hx hb dX7_turn_46 rfl (lv_at hl 3 rfl) ?_
              refine ln_icmp_ge (tgt := 80) hx hb dX7_turn_47 (by decide) (by omega) (by omega) (fun h3 => ?_) (fun h3 => ?_)
              · skip
                refine ln_iinc (k := 4) (n := 1) (lv' := [(4, .int (nI (a + 1))), (0, .ref (ad (6 + i))), (1, .ref (ad (6 + j))), (2, .int (nI (zLn x))), (3, .int (nI (zLg x))), (5, .int (nI b))]) hx hb dX7_turn_80 hl rfl (by decide) rfl (fun ls hl => ?_)
                refine lv_goto (tgt := 35) hx hb dX7_turn_83 (by decide) ?_
                exact ihlp (a + 1) f _ _ _ (by omega) (by omega) (zTq_o (by omega) hg) (hW) (lv_sub hl [1, 2, 3, 4, 0] rfl)
              · skip
                refine lv_aload_n hx hb dX7_turn_50 rfl (lv_at hl 1 rfl) ?_
                refine xg_elements (j := j) C hW q42 (by omega) dX7_turn_51 ?_
                refine lv_iload hx hb dX7_turn_54 (lv_at hl 5 rfl) ?_
                refine lv_iload_n hx hb dX7_turn_56 rfl (lv_at hl 2 rfl) ?_
                refine ln_imul hx hb dX7_turn_57 ?_
                refine lv_iload hx hb dX7_turn_58 (lv_at hl 4 rfl) ?_
                refine ln_iadd hx hb dX7_turn_60 ?_
                refine lv_aload_n hx hb dX7_turn_61 rfl (lv_at hl 0 rfl) ?_
                refine xg_elements (j := i) C hW q42 (by omega) dX7_turn_62 ?_
                refine lv_iload hx hb dX7_turn_65 (lv_at hl 4 rfl) ?_
                refine lv_iload_n hx hb dX7_turn_67 rfl (lv_at hl 3 rfl) ?_
                refine ln_imul hx hb dX7_turn_68 ?_
                refine lv_iload hx hb dX7_turn_69 (lv_at hl 5 rfl) ?_
                refine ln_iadd hx hb dX7_turn_71 ?_
                refine xl_elements (j := i) (i := (a * (zLg x)) + b) C hW (by omega) (by have := zIx (m := zLn x) (n := zLg x) (a := a) (b := b) (by omega) (by omega); omega) dX7_turn_72 ?_
                rw [va_up_ne _ _ (by omega)]
                refine xs_elements (j := j) (i := (b * (zLn x)) + a) C hW (by omega) (by have := zIx (m := zLg x) (n := zLn x) (a := b) (b := a) (by omega) (by omega); rw [Nat.mul_comm (zLg x)] at this; omega) dX7_turn_73 (fun H locs hW => ?_)
                simp only [bx_uu, va_up_self] at hW
                refine ln_iinc (k := 5) (n := 1) (lv' := [(5, .int (nI (b + 1))), (0, .ref (ad (6 + i))), (1, .ref (ad (6 + j))), (2, .int (nI (zLn x))), (3, .int (nI (zLg x))), (4, .int (nI a))]) hx hb dX7_turn_74 hl rfl (by decide) rfl (fun ls hl => ?_)
                refine lv_goto (tgt := 44) hx hb dX7_turn_77 (by decide) ?_
                exact ihlq (b + 1) (va_up f (b * zLn x + a) (el i (a * zLg x + b))) _ _ _ (by omega) (by omega) (zTq_s (by omega) hg) (hW) (lv_sub hl [1, 2, 3, 4, 5, 0] rfl)
          exact lq _ 0 f _ _ _ (Nat.lt_succ_self _) (by omega) (fun q hq h77 => hf q hq (h77.resolve_right (fun h78 => Nat.not_lt_zero _ h78.2))) (hW) (lv_sub hl [1, 2, 3, 4, 5, 0] rfl)
    exact lp _ 0 (el j) _ _ _ (Nat.lt_succ_self _) (by omega) (fun q _ hq => absurd hq (Nat.not_lt_zero _)) (by rw [va_up_id]; exact hW) (lv_sub hl [3, 4, 2, 1, 0] rfl)
  · skip
    refine lv_aload_n hx hb dX7_turn_10 rfl (lv_at hl 1 rfl) ?_
    refine lv_aload_n hx hb dX7_turn_11 rfl (lv_at hl 0 rfl) ?_
    refine ar_callV (As := [.ref (ad (6 + i))]) (rest := []) C hW (c_X1_becomeCopy hl9 sc sg sh el nf lr j i (by omega) (by omega) (by omega)) (xl_at (by omega) (xc_na (j := j) (by omega))) rfl q520 q521 q522 q2 q523 hd_X1_becomeCopy ⟨Nat.le_of_ble_eq_true rfl, Nat.le_of_ble_eq_true rfl⟩ hl.1 (Nat.le_of_ble_eq_true rfl) rfl dX7_turn_12 (fun _ _ _ _ _ _ hp => hp.elim) (fun v9 u9 H locs hp hW => ?_)
    obtain ⟨rfl, hu9⟩ := hp
    rw [hu9] at hW
    refine W.eq (g2 := F0 m 15 ls []) rfl ?_
    exact ar_vret C hr hW dX7_turn_15 (⟨zCp (el j) (el i), rfl, fun q hq => by unfold zTq zCp; rw [if_pos (show q < 24 by omega), if_neg (by rw [h1]; decide)], by rw [va_up_eq (f := sh) (k := j) (by rw [hsj, hsh]; unfold zTrn; rw [h1]; rfl)]⟩)
theorem zRun_s {n a b : Nat} {f : Nat → UInt64} {F : Nat → Nat → UInt64} (hb : b + 1 < n) (h : (∀ q b, q < a → b < n → f (q * n + b) = F q b) ∧ ∀ q, q < b + 1 → f (a * n + q) = F a q) : (∀ q b7, q < a → b7 < n → va_up f (a * n + (b + 1)) (F a (b + 1)) (q * n + b7) = F q b7) ∧ ∀ q, q < b + 1 + 1 → va_up f (a * n + (b + 1)) (F a (b + 1)) (a * n + q) = F a q := by
  refine ⟨fun q b7 hq hb7 => ?_, fun q hq => ?_⟩
  · rw [va_up_ne _ _ (by have := zIx (m := a) (n := n) hq hb7; omega)]
    exact h.1 q b7 hq hb7
  · unfold va_up
    by_cases h1 : q = b + 1
    · rw [if_pos (by omega), h1]
    · rw [if_neg (by omega)]
      exact h.2 q (by omega)
theorem zRun_0 {n a : Nat} {f : Nat → UInt64} {F : Nat → Nat → UInt64} (hb : 0 < n) (h : ∀ q b, q < a → b < n → f (q * n + b) = F q b) : (∀ q b7, q < a → b7 < n → va_up f (a * n) (F a 0) (q * n + b7) = F q b7) ∧ ∀ q, q < 0 + 1 → va_up f (a * n) (F a 0) (a * n + q) = F a q := by
  refine ⟨fun q b7 hq hb7 => ?_, fun q hq => ?_⟩
  · rw [va_up_ne _ _ (by have := zIx (m := a) (n := n) hq hb7; omega)]
    exact h q b7 hq hb7
  · rw [show q = 0 by omega, Nat.add_zero, va_up_self]
theorem hd_X7_reduce : yX7_reduce.cls ≠ "java/lang/invoke/MethodHandle" ∧ yX7_reduce.cls ≠ "java/lang/invoke/VarHandle" ∧ (parseMethodDescriptor yX7_reduce.desc).map (fun d => d.parameters.length) = some 3 := by decide +kernel
set_option maxHeartbeats 4000000 in
set_option maxRecDepth 100000 in
theorem c_X7_reduce {l : Launch} (hl9 : l.stackTraces = false) {D : va_G} {ct : Nat → ClassId} {ad : Nat → Nat} (sc sg sh : Nat → Int32) (el : Nat → Nat → UInt64) (nf : Nat → Nat → Int32) (lr : Nat → Nat → Option Nat) (ch i j : Nat) (hcs : zSg ch) (hi : i < 49) (hj : j < 49) (hne : i ≠ j) (x : Nat) (hok : zOk x = true) (hsh : sh i = nI x) (hre : ∀ q, q < zLn x * zLg x → zRg (el i q) = true) : ar_M l yX7_reduce cX7_reduce 9 none 7 116 D ct (xL ad ct) [.int (nI ch), .ref (ad (6 + i)), .ref (ad (6 + j))] (sc, sg, sh, el, nf, lr) (fun v9 u9 => (∀ a, a < zLn x → ∀ b, b < zLg x → zRg (zAcc ch (fun z => el i (a * zLg x + z)) b) = true) ∧ ∃ f : Nat → UInt64, v9 = none ∧ (∀ a, a < zLn x → f a = zAcc ch (fun z => el i (a * zLg x + z)) (zLg x - 1)) ∧ u9 = (sc, sg, sh, va_up el j f, nf, lr)) (fun E9 u9 => E9 = ARE ∧ ¬ (∀ a, a < zLn x → ∀ b, b < zLg x → zRg (zAcc ch (fun z => el i (a * zLg x + z)) b) = true) ∧ ∃ f : Nat → UInt64, u9 = (sc, sg, sh, va_up el j f, nf, lr)) := by
  refine ar_ofW hl9 (by decide) (Nat.le_of_ble_eq_true rfl) ?_
  intro p e s m below meth c A ls C hr hnm hW hl
  have hx := C.1
  have hb := C.2.1
  have hown := C.2.2.2.1
  have hts := C.2.2.2.2.1
  have hl : lv_has ls 9 [(0, .int (nI ch)), (1, .ref (ad (6 + i))), (2, .ref (ad (6 + j)))] := hl
  have hd9 := zOk_d hok
  have hc9 := zOk_num hok
  refine lv_aload_n hx hb dX7_reduce_0 rfl (lv_at hl 1 rfl) ?_
  refine xg_shape (j := i) C hW q40 (by omega) dX7_reduce_1 ?_
  refine ln_top (hsh) ?_
  refine ar_callS (As := [.int (nI x)]) (rest := []) C hW (c_X4_lines hl9 _ x (by omega)) q535 q193 q7 q194 hd_X4_lines ⟨Nat.le_of_ble_eq_true rfl, Nat.le_of_ble_eq_true rfl⟩ hl.1 (Nat.le_of_ble_eq_true rfl) rfl dX7_reduce_4 (fun _ _ _ _ _ _ hp => hp.elim) (fun v9 u9 H locs hp hW => ?_)
  obtain ⟨rfl, hu9⟩ := hp
  rw [hu9] at hW
  refine W.eq (g2 := F0 m 7 ls [.int (nI (zLn x))]) rfl ?_
  refine lv_istore_n (lv' := [(3, .int (nI (zLn x))), (0, .int (nI ch)), (1, .ref (ad (6 + i))), (2, .ref (ad (6 + j)))]) hx hb dX7_reduce_7 rfl hl (by decide) rfl (fun ls hl => ?_)
  refine lv_aload_n hx hb dX7_reduce_8 rfl (lv_at hl 2 rfl) ?_
  refine xg_shape (j := i) C hW q40 (by omega) dX7_reduce_9 ?_
  refine ln_top (hsh) ?_
  refine ar_callS (As := [.int (nI x)]) (rest := []) C hW (c_X4_length hl9 _ x (by omega)) q536 q196 q7 q197 hd_X4_length ⟨Nat.le_of_ble_eq_true rfl, Nat.le_of_ble_eq_true rfl⟩ hl.1 (Nat.le_of_ble_eq_true rfl) rfl dX7_reduce_12 (fun _ _ _ _ _ _ hp => hp.elim) (fun v9 u9 H locs hp hW => ?_)
  obtain ⟨rfl, hu9⟩ := hp
  rw [hu9] at hW
  refine W.eq (g2 := F0 m 15 ls [.int (nI (zLg x))]) rfl ?_
  refine lv_istore (lv' := [(4, .int (nI (zLg x))), (3, .int (nI (zLn x))), (0, .int (nI ch)), (1, .ref (ad (6 + i))), (2, .ref (ad (6 + j)))]) hx hb dX7_reduce_15 hl (by decide) rfl (fun ls hl => ?_)
  refine lv_iconst (v := nI 0) hx hb dX7_reduce_17 (by decide) ?_
  refine lv_istore (lv' := [(5, .int (nI 0)), (4, .int (nI (zLg x))), (3, .int (nI (zLn x))), (0, .int (nI ch)), (1, .ref (ad (6 + i))), (2, .ref (ad (6 + j)))]) hx hb dX7_reduce_18 hl (by decide) rfl (fun ls hl => ?_)
  have lp : ∀ (N9 : Nat) (a : Nat) (f : Nat → UInt64) (H : Heap) (locs : List Loc) (ls : Array Slot), zLn x - a < N9 → (a ≤ zLn x) → (∀ q, q < a → ∀ b, b < zLg x → zRg (zAcc ch (fun z => el i (q * zLg x + z)) b) = true) → (∀ q, q < a → f q = zAcc ch (fun z => el i (q * zLg x + z)) (zLg x - 1)) → ar_W D A s.heap H locs (xL ad ct (sc, sg, sh, va_up el j f, nf, lr)) → lv_has ls 9 [(0, .int (nI ch)), (1, .ref (ad (6 + i))), (2, .ref (ad (6 + j))), (3, .int (nI (zLn x))), (4, .int (nI (zLg x))), (5, .int (nI a))] → W p l e (ar_rm 7 116) s m [.int (nI ch), .ref (ad (6 + i)), .ref (ad (6 + j))].toArray below meth c H locs 0 0 (ar_E below (ar_Q D ct (xL ad ct) A (fun v9 u9 => (∀ a, a < zLn x → ∀ b, b < zLg x → zRg (zAcc ch (fun z => el i (a * zLg x + z)) b) = true) ∧ ∃ f : Nat → UInt64, v9 = none ∧ (∀ a, a < zLn x → f a = zAcc ch (fun z => el i (a * zLg x + z)) (zLg x - 1)) ∧ u9 = (sc, sg, sh, va_up el j f, nf, lr)) (fun E9 u9 => E9 = ARE ∧ ¬ (∀ a, a < zLn x → ∀ b, b < zLg x → zRg (zAcc ch (fun z => el i (a * zLg x + z)) b) = true) ∧ ∃ f : Nat → UInt64, u9 = (sc, sg, sh, va_up el j f, nf, lr))) [.int (nI ch), .ref (ad (6 + i)), .ref (ad (6 + j))].toArray s) (F0 m 20 ls []) := by
    intro N9
    induction N9 with
    | zero =>
      intro a f H locs ls hN9
      exact absurd hN9 (Nat.not_lt_zero _)
    | succ N9 ihlp =>
      intro a f H locs ls hN9 ha hR hf hW hl
      refine lv_iload hx hb dX7_reduce_20 (lv_at hl 5 rfl) ?_
      refine lv_iload_n hx hb dX7_reduce_22 rfl (lv_at hl 3 rfl) ?_
      refine ln_icmp_ge (tgt := 90) hx hb dX7_reduce_23 (by decide) (by omega) (by omega) (fun h1 => ?_) (fun h1 => ?_)
      · skip
        exact ar_vret C hr hW dX7_reduce_90 (⟨fun q hq => hR q (by omega), f, rfl, fun q hq => hf q (by omega), rfl⟩)
      · skip
        refine lv_aload_n hx hb dX7_reduce_26 rfl (lv_at hl 1 rfl) ?_
        refine xg_elements (j := i) C hW q42 (by omega) dX7_reduce_27 ?_
        refine lv_iload hx hb dX7_reduce_30 (lv_at hl 5 rfl) ?_
        refine lv_iload hx hb dX7_reduce_32 (lv_at hl 4 rfl) ?_
        refine ln_imul hx hb dX7_reduce_34 ?_
        refine xl_elements (j := i) (i := a * (zLg x)) C hW (by omega) (by first | omega | (have := zIx (m := zLn x) (n := zLg x) (a := a) (b := 0) (by omega) (by omega); omega) | (have := zIx (m := zLn x) (n := zLg x) (a := a) (b := b + 1) (by omega) (by omega); omega)) dX7_reduce_35 ?_
        rw [va_up_ne _ _ (by omega)]
        refine lv_dstore (lv' := [(6, .double (el i (a * (zLg x)))), (0, .int (nI ch)), (1, .ref (ad (6 + i))), (2, .ref (ad (6 + j))), (3, .int (nI (zLn x))), (4, .int (nI (zLg x))), (5, .int (nI a))]) hx hb dX7_reduce_36 hl (by decide) rfl (fun ls hl => ?_)
        refine lv_iconst (v := nI 1) hx hb dX7_reduce_38 (by decide) ?_
        refine lv_istore (lv' := [(8, .int (nI 1)), (6, .double (el i (a * (zLg x)))), (0, .int (nI ch)), (1, .ref (ad (6 + i))), (2, .ref (ad (6 + j))), (3, .int (nI (zLn x))), (4, .int (nI (zLg x))), (5, .int (nI a))]) hx hb dX7_reduce_39 hl (by decide) rfl (fun ls hl => ?_)
        have lq : ∀ (N9 : Nat) (b : Nat) (H : Heap) (locs : List Loc) (ls : Array Slot), zLg x - b < N9 → (b + 1 ≤ zLg x) → (∀ q, q < b + 1 → zRg (zAcc ch (fun z => el i (a * zLg x + z)) q) = true) → ar_W D A s.heap H locs (xL ad ct (sc, sg, sh, va_up el j f, nf, lr)) → lv_has ls 9 [(0, .int (nI ch)), (1, .ref (ad (6 + i))), (2, .ref (ad (6 + j))), (3, .int (nI (zLn x))), (4, .int (nI (zLg x))), (5, .int (nI a)), (6, .double (zAcc ch (fun z => el i (a * zLg x + z)) b)), (8, .int (nI (b + 1)))] → W p l e (ar_rm 7 116) s m [.int (nI ch), .ref (ad (6 + i)), .ref (ad (6 + j))].toArray below meth c H locs 0 0 (ar_E below (ar_Q D ct (xL ad ct) A (fun v9 u9 => (∀ a, a < zLn x → ∀ b, b < zLg x → zRg (zAcc ch (fun z => el i (a * zLg x + z)) b) = true) ∧ ∃ f : Nat → UInt64, v9 = none ∧ (∀ a, a < zLn x → f a = zAcc ch (fun z => el i (a * zLg x + z)) (zLg x - 1)) ∧ u9 = (sc, sg, sh, va_up el j f, nf, lr)) (fun E9 u9 => E9 = ARE ∧ ¬ (∀ a, a < zLn x → ∀ b, b < zLg x → zRg (zAcc ch (fun z => el i (a * zLg x + z)) b) = true) ∧ ∃ f : Nat → UInt64, u9 = (sc, sg, sh, va_up el j f, nf, lr))) [.int (nI ch), .ref (ad (6 + i)), .ref (ad (6 + j))].toArray s) (F0 m 41 ls []) := by
          intro N9
          induction N9 with
          | zero =>
            intro b H locs ls hN9
            exact absurd hN9 (Nat.not_lt_zero _)
          | succ N9 ihlq =>
            intro b H locs ls hN9 hb9 hS hW hl
            refine lv_iload hx hb dX7_reduce_41 (lv_at hl 7 rfl) ?_
            refine lv_iload hx hb dX7_reduce_43 (lv_at hl 4 rfl) ?_
            refine ln_icmp_ge (tgt := 75) hx hb dX7_reduce_45 (by decide) (by omega) (by omega) (fun h2 => ?_) (fun h2 => ?_)
            · skip
              refine lv_aload_n hx hb dX7_reduce_75 rfl (lv_at hl 2 rfl) ?_
              refine xg_elements (j := j) C hW q42 (by omega) dX7_reduce_76 ?_
              refine lv_iload hx hb dX7_reduce_79 (lv_at hl 5 rfl) ?_
              refine lv_dload hx hb dX7_reduce_81 (lv_at hl 6 rfl) ?_
              refine xs_elements (j := j) (i := a) C hW (by omega) (by first | omega | (have := zIx (m := zLn x) (n := zLg x) (a := a) (b := 0) (by omega) (by omega); omega) | (have := zIx (m := zLn x) (n := zLg x) (a := a) (b := b + 1) (by omega) (by omega); omega)) dX7_reduce_83 (fun H locs hW => ?_)
              simp only [bx_uu, va_up_self] at hW
              refine ln_iinc (k := 5) (n := 1) (lv' := [(5, .int (nI (a + 1))), (0, .int (nI ch)), (1, .ref (ad (6 + i))), (2, .ref (ad (6 + j))), (3, .int (nI (zLn x))), (4, .int (nI (zLg x))), (6, .double (zAcc ch (fun z => el i (a * zLg x + z)) b)), (8, .int (nI (b + 1)))]) hx hb dX7_reduce_84 hl rfl (by decide) rfl (fun ls hl => ?_)
              refine lv_goto (tgt := 20) hx hb dX7_reduce_87 (by decide) ?_
              exact ihlp (a + 1) (va_up f a (zAcc ch (fun z => el i (a * zLg x + z)) b)) _ _ _ (by omega) (by omega) (fun q hq b7 hb7 => by by_cases h77 : q = a; (subst h77; exact hS b7 (by omega)); exact hR q (by omega) b7 hb7) (fun q hq => by unfold va_up; by_cases h77 : q = a; (subst h77; rw [if_pos rfl, show zLg x - 1 = b by omega]); rw [if_neg h77]; exact hf q (by omega)) (hW) (lv_sub hl [1, 2, 3, 4, 5, 0] rfl)
            · skip
              refine lv_iload_n hx hb dX7_reduce_48 rfl (lv_at hl 0 rfl) ?_
              refine lv_dload hx hb dX7_reduce_49 (lv_at hl 6 rfl) ?_
              refine lv_aload_n hx hb dX7_reduce_51 rfl (lv_at hl 1 rfl) ?_
              refine xg_elements (j := i) C hW q42 (by omega) dX7_reduce_52 ?_
              refine lv_iload hx hb dX7_reduce_55 (lv_at hl 5 rfl) ?_
              refine lv_iload hx hb dX7_reduce_57 (lv_at hl 4 rfl) ?_
              refine ln_imul hx hb dX7_reduce_59 ?_
              refine lv_iload hx hb dX7_reduce_60 (lv_at hl 7 rfl) ?_
              refine ln_iadd hx hb dX7_reduce_62 ?_
              refine xl_elements (j := i) (i := (a * (zLg x)) + (b + 1)) C hW (by omega) (by first | omega | (have := zIx (m := zLn x) (n := zLg x) (a := a) (b := 0) (by omega) (by omega); omega) | (have := zIx (m := zLn x) (n := zLg x) (a := a) (b := b + 1) (by omega) (by omega); omega)) dX7_reduce_63 ?_
              rw [va_up_ne _ _ (by omega)]
              refine ar_callS (As := [.int (nI ch), .double (zAcc ch (fun z => el i (a * zLg x + z)) b), .double (el i ((a * (zLg x)) + (b + 1)))]) (rest := []) C hW (c_X7_combined hl9 _ ch (zAcc ch (fun z => el i (a * zLg x + z)) b) (el i ((a * (zLg x)) + (b + 1))) (hcs) (hS b (by omega)) (hre _ (zIx (by omega) (by omega)))) q540 q541 q20 q542 hd_X7_combined ⟨Nat.le_of_ble_eq_true rfl, Nat.le_of_ble_eq_true rfl⟩ hl.1 (Nat.le_of_ble_eq_true rfl) rfl dX7_reduce_64 (fun E9 ce9 q9 u9 H locs hp hW h91 h92 h93 => ar_out C hW h91 h92 h93 (⟨hp.2.1, (fun q9 => by have h88 := q9 a (by omega) (b + 1) (by omega); have h89 := hp.1.symm.trans h88; cases h89), f, hp.2.2⟩)) (fun v9 u9 H locs hp hW => ?_)
              obtain ⟨hz9, rfl, hu9⟩ := hp
              rw [hu9] at hW
              refine W.eq (g2 := F0 m 67 ls [.double (zOp ch (zAcc ch (fun z => el i (a * zLg x + z)) b) (el i ((a * (zLg x)) + (b + 1))))]) rfl ?_
              refine lv_dstore (lv' := [(6, .double (zOp ch (zAcc ch (fun z => el i (a * zLg x + z)) b) (el i ((a * (zLg x)) + (b + 1))))), (0, .int (nI ch)), (1, .ref (ad (6 + i))), (2, .ref (ad (6 + j))), (3, .int (nI (zLn x))), (4, .int (nI (zLg x))), (5, .int (nI a)), (8, .int (nI (b + 1)))]) hx hb dX7_reduce_67 hl (by decide) rfl (fun ls hl => ?_)
              refine ln_iinc (k := 7) (n := 1) (lv' := [(8, .int (nI ((b + 1) + 1))), (6, .double (zOp ch (zAcc ch (fun z => el i (a * zLg x + z)) b) (el i ((a * (zLg x)) + (b + 1))))), (0, .int (nI ch)), (1, .ref (ad (6 + i))), (2, .ref (ad (6 + j))), (3, .int (nI (zLn x))), (4, .int (nI (zLg x))), (5, .int (nI a))]) hx hb dX7_reduce_69 hl rfl (by decide) rfl (fun ls hl => ?_)
              refine lv_goto (tgt := 41) hx hb dX7_reduce_72 (by decide) ?_
              exact ihlq (b + 1) _ _ _ (by omega) (by omega) (fun q hq => by by_cases h77 : q = b + 1; (subst h77; exact hz9); exact hS q (by omega)) (hW) (lv_sub hl [2, 3, 4, 5, 6, 7, 1, 0] rfl)
        exact lq _ 0 _ _ _ (Nat.lt_succ_self _) (by omega) (fun q hq => by rw [show q = 0 by omega]; exact hre _ (zIx (by omega) (by omega))) (hW) (lv_sub hl [2, 3, 4, 5, 6, 7, 1, 0] rfl)
  exact lp _ 0 (el j) _ _ _ (Nat.lt_succ_self _) (by omega) (fun q hq => absurd hq (Nat.not_lt_zero _)) (fun q hq => absurd hq (Nat.not_lt_zero _)) (by rw [va_up_id]; exact hW) (lv_sub hl [3, 4, 5, 2, 1, 0] rfl)
theorem hd_X7_runAlong : yX7_runAlong.cls ≠ "java/lang/invoke/MethodHandle" ∧ yX7_runAlong.cls ≠ "java/lang/invoke/VarHandle" ∧ (parseMethodDescriptor yX7_runAlong.desc).map (fun d => d.parameters.length) = some 3 := by decide +kernel
set_option maxHeartbeats 4000000 in
set_option maxRecDepth 100000 in
theorem c_X7_runAlong {l : Launch} (hl9 : l.stackTraces = false) {D : va_G} {ct : Nat → ClassId} {ad : Nat → Nat} (sc sg sh : Nat → Int32) (el : Nat → Nat → UInt64) (nf : Nat → Nat → Int32) (lr : Nat → Nat → Option Nat) (ch i j : Nat) (hcs : zSg ch) (hi : i < 49) (hj : j < 49) (hne : i ≠ j) (x : Nat) (hok : zOk x = true) (hsh : sh i = nI x) (hre : ∀ q, q < zLn x * zLg x → zRg (el i q) = true) : ar_M l yX7_runAlong cX7_runAlong 9 none 7 116 D ct (xL ad ct) [.int (nI ch), .ref (ad (6 + i)), .ref (ad (6 + j))] (sc, sg, sh, el, nf, lr) (fun v9 u9 => (∀ a, a < zLn x → ∀ b, b < zLg x → zRg (zAcc ch (fun z => el i (a * zLg x + z)) b) = true) ∧ ∃ f : Nat → UInt64, v9 = none ∧ (∀ a b, a < zLn x → b < zLg x → f (a * zLg x + b) = zAcc ch (fun z => el i (a * zLg x + z)) b) ∧ u9 = (sc, sg, sh, va_up el j f, nf, lr)) (fun E9 u9 => E9 = ARE ∧ ¬ (∀ a, a < zLn x → ∀ b, b < zLg x → zRg (zAcc ch (fun z => el i (a * zLg x + z)) b) = true) ∧ ∃ f : Nat → UInt64, u9 = (sc, sg, sh, va_up el j f, nf, lr)) := by
  refine ar_ofW hl9 (by decide) (Nat.le_of_ble_eq_true rfl) ?_
  intro p e s m below meth c A ls C hr hnm hW hl
  have hx := C.1
  have hb := C.2.1
  have hown := C.2.2.2.1
  have hts := C.2.2.2.2.1
  have hl : lv_has ls 9 [(0, .int (nI ch)), (1, .ref (ad (6 + i))), (2, .ref (ad (6 + j)))] := hl
  have hd9 := zOk_d hok
  have hc9 := zOk_num hok
  refine lv_aload_n hx hb dX7_runAlong_0 rfl (lv_at hl 1 rfl) ?_
  refine xg_shape (j := i) C hW q40 (by omega) dX7_runAlong_1 ?_
  refine ln_top (hsh) ?_
  refine ar_callS (As := [.int (nI x)]) (rest := []) C hW (c_X4_lines hl9 _ x (by omega)) q535 q193 q7 q194 hd_X4_lines ⟨Nat.le_of_ble_eq_true rfl, Nat.le_of_ble_eq_true rfl⟩ hl.1 (Nat.le_of_ble_eq_true rfl) rfl dX7_runAlong_4 (fun _ _ _ _ _ _ hp => hp.elim) (fun v9 u9 H locs hp hW => ?_)
  obtain ⟨rfl, hu9⟩ := hp
  rw [hu9] at hW
  refine W.eq (g2 := F0 m 7 ls [.int (nI (zLn x))]) rfl ?_
  refine lv_istore_n (lv' := [(3, .int (nI (zLn x))), (0, .int (nI ch)), (1, .ref (ad (6 + i))), (2, .ref (ad (6 + j)))]) hx hb dX7_runAlong_7 rfl hl (by decide) rfl (fun ls hl => ?_)
  refine lv_aload_n hx hb dX7_runAlong_8 rfl (lv_at hl 2 rfl) ?_
  refine xg_shape (j := i) C hW q40 (by omega) dX7_runAlong_9 ?_
  refine ln_top (hsh) ?_
  refine ar_callS (As := [.int (nI x)]) (rest := []) C hW (c_X4_length hl9 _ x (by omega)) q536 q196 q7 q197 hd_X4_length ⟨Nat.le_of_ble_eq_true rfl, Nat.le_of_ble_eq_true rfl⟩ hl.1 (Nat.le_of_ble_eq_true rfl) rfl dX7_runAlong_12 (fun _ _ _ _ _ _ hp => hp.elim) (fun v9 u9 H locs hp hW => ?_)
  obtain ⟨rfl, hu9⟩ := hp
  rw [hu9] at hW
  refine W.eq (g2 := F0 m 15 ls [.int (nI (zLg x))]) rfl ?_
  refine lv_istore (lv' := [(4, .int (nI (zLg x))), (3, .int (nI (zLn x))), (0, .int (nI ch)), (1, .ref (ad (6 + i))), (2, .ref (ad (6 + j)))]) hx hb dX7_runAlong_15 hl (by decide) rfl (fun ls hl => ?_)
  refine lv_iconst (v := nI 0) hx hb dX7_runAlong_17 (by decide) ?_
  refine lv_istore (lv' := [(5, .int (nI 0)), (4, .int (nI (zLg x))), (3, .int (nI (zLn x))), (0, .int (nI ch)), (1, .ref (ad (6 + i))), (2, .ref (ad (6 + j)))]) hx hb dX7_runAlong_18 hl (by decide) rfl (fun ls hl => ?_)
  have lp : ∀ (N9 : Nat) (a : Nat) (f : Nat → UInt64) (H : Heap) (locs : List Loc) (ls : Array Slot), zLn x - a < N9 → (a ≤ zLn x) → (∀ q, q < a → ∀ b, b < zLg x → zRg (zAcc ch (fun z => el i (q * zLg x + z)) b) = true) → (∀ q b, q < a → b < zLg x → f (q * zLg x + b) = zAcc ch (fun z => el i (q * zLg x + z)) b) → ar_W D A s.heap H locs (xL ad ct (sc, sg, sh, va_up el j f, nf, lr)) → lv_has ls 9 [(0, .int (nI ch)), (1, .ref (ad (6 + i))), (2, .ref (ad (6 + j))), (3, .int (nI (zLn x))), (4, .int (nI (zLg x))), (5, .int (nI a))] → W p l e (ar_rm 7 116) s m [.int (nI ch), .ref (ad (6 + i)), .ref (ad (6 + j))].toArray below meth c H locs 0 0 (ar_E below (ar_Q D ct (xL ad ct) A (fun v9 u9 => (∀ a, a < zLn x → ∀ b, b < zLg x → zRg (zAcc ch (fun z => el i (a * zLg x + z)) b) = true) ∧ ∃ f : Nat → UInt64, v9 = none ∧ (∀ a b, a < zLn x → b < zLg x → f (a * zLg x + b) = zAcc ch (fun z => el i (a * zLg x + z)) b) ∧ u9 = (sc, sg, sh, va_up el j f, nf, lr)) (fun E9 u9 => E9 = ARE ∧ ¬ (∀ a, a < zLn x → ∀ b, b < zLg x → zRg (zAcc ch (fun z => el i (a * zLg x + z)) b) = true) ∧ ∃ f : Nat → UInt64, u9 = (sc, sg, sh, va_up el j f, nf, lr))) [.int (nI ch), .ref (ad (6 + i)), .ref (ad (6 + j))].toArray s) (F0 m 20 ls []) := by
    intro N9
    induction N9 with
    | zero =>
      intro a f H locs ls hN9
      exact absurd hN9 (Nat.not_lt_zero _)
    | succ N9 ihlp =>
      intro a f H locs ls hN9 ha hR hf hW hl
      refine lv_iload hx hb dX7_runAlong_20 (lv_at hl 5 rfl) ?_
      refine lv_iload_n hx hb dX7_runAlong_22 rfl (lv_at hl 3 rfl) ?_
      refine ln_icmp_ge (tgt := 108) hx hb dX7_runAlong_23 (by decide) (by omega) (by omega) (fun h1 => ?_) (fun h1 => ?_)
      · skip
        exact ar_vret C hr hW dX7_runAlong_108 (⟨fun q hq => hR q (by omega), f, rfl, fun q b7 hq => hf q b7 (by omega), rfl⟩)
      · skip
        refine lv_aload_n hx hb dX7_runAlong_26 rfl (lv_at hl 1 rfl) ?_
        refine xg_elements (j := i) C hW q42 (by omega) dX7_runAlong_27 ?_
        refine lv_iload hx hb dX7_runAlong_30 (lv_at hl 5 rfl) ?_
        refine lv_iload hx hb dX7_runAlong_32 (lv_at hl 4 rfl) ?_
        refine ln_imul hx hb dX7_runAlong_34 ?_
        refine xl_elements (j := i) (i := a * (zLg x)) C hW (by omega) (by first | omega | (have := zIx (m := zLn x) (n := zLg x) (a := a) (b := 0) (by omega) (by omega); omega) | (have := zIx (m := zLn x) (n := zLg x) (a := a) (b := b + 1) (by omega) (by omega); omega)) dX7_runAlong_35 ?_
        rw [va_up_ne _ _ (by omega)]
        refine lv_dstore (lv' := [(6, .double (el i (a * (zLg x)))), (0, .int (nI ch)), (1, .ref (ad (6 + i))), (2, .ref (ad (6 + j))), (3, .int (nI (zLn x))), (4, .int (nI (zLg x))), (5, .int (nI a))]) hx hb dX7_runAlong_36 hl (by decide) rfl (fun ls hl => ?_)
        refine lv_aload_n hx hb dX7_runAlong_38 rfl (lv_at hl 3 rfl) ?_
        refine xg_elements (j := j) C hW q42 (by omega) dX7_runAlong_39 ?_
        refine lv_iload hx hb dX7_runAlong_42 (lv_at hl 6 rfl) ?_
        refine lv_iload hx hb dX7_runAlong_44 (lv_at hl 5 rfl) ?_
        refine ln_imul hx hb dX7_runAlong_46 ?_
        refine lv_dload hx hb dX7_runAlong_47 (lv_at hl 0 rfl) ?_
        refine xs_elements (j := j) (i := a * (zLg x)) C hW (by omega) (by first | omega | (have := zIx (m := zLn x) (n := zLg x) (a := a) (b := 0) (by omega) (by omega); omega) | (have := zIx (m := zLn x) (n := zLg x) (a := a) (b := b + 1) (by omega) (by omega); omega)) dX7_runAlong_49 (fun H locs hW => ?_)
        simp only [bx_uu, va_up_self] at hW
        refine lv_iconst (v := nI 1) hx hb dX7_runAlong_50 (by decide) ?_
        refine lv_istore (lv' := [(8, .int (nI 1)), (6, .double (el i (a * (zLg x)))), (0, .int (nI ch)), (1, .ref (ad (6 + i))), (2, .ref (ad (6 + j))), (3, .int (nI (zLn x))), (4, .int (nI (zLg x))), (5, .int (nI a))]) hx hb dX7_runAlong_51 hl (by decide) rfl (fun ls hl => ?_)
        have lq : ∀ (N9 : Nat) (b : Nat) (f : Nat → UInt64) (H : Heap) (locs : List Loc) (ls : Array Slot), zLg x - b < N9 → (b + 1 ≤ zLg x) → (∀ q, q < b + 1 → zRg (zAcc ch (fun z => el i (a * zLg x + z)) q) = true) → ((∀ q b, q < a → b < zLg x → f (q * zLg x + b) = zAcc ch (fun z => el i (q * zLg x + z)) b) ∧ ∀ q, q < b + 1 → f (a * zLg x + q) = zAcc ch (fun z => el i (a * zLg x + z)) q) → ar_W D A s.heap H locs (xL ad ct (sc, sg, sh, va_up el j f, nf, lr)) → lv_has ls 9 [(0, .int (nI ch)), (1, .ref (ad (6 + i))), (2, .ref (ad (6 + j))), (3, .int (nI (zLn x))), (4, .int (nI (zLg x))), (5, .int (nI a)), (6, .double (zAcc ch (fun z => el i (a * zLg x + z)) b)), (8, .int (nI (b + 1)))] → W p l e (ar_rm 7 116) s m [.int (nI ch), .ref (ad (6 + i)), .ref (ad (6 + j))].toArray below meth c H locs 0 0 (ar_E below (ar_Q D ct (xL ad ct) A (fun v9 u9 => (∀ a, a < zLn x → ∀ b, b < zLg x → zRg (zAcc ch (fun z => el i (a * zLg x + z)) b) = true) ∧ ∃ f : Nat → UInt64, v9 = none ∧ (∀ a b, a < zLn x → b < zLg x → f (a * zLg x + b) = zAcc ch (fun z => el i (a * zLg x + z)) b) ∧ u9 = (sc, sg, sh, va_up el j f, nf, lr)) (fun E9 u9 => E9 = ARE ∧ ¬ (∀ a, a < zLn x → ∀ b, b < zLg x → zRg (zAcc ch (fun z => el i (a * zLg x + z)) b) = true) ∧ ∃ f : Nat → UInt64, u9 = (sc, sg, sh, va_up el j f, nf, lr))) [.int (nI ch), .ref (ad (6 + i)), .ref (ad (6 + j))].toArray s) (F0 m 53 ls []) := by
          intro N9
          induction N9 with
          | zero =>
            intro b f H locs ls hN9
            exact absurd hN9 (Nat.not_lt_zero _)
          | succ N9 ihlq =>
            intro b f H locs ls hN9 hb9 hS hg hW hl
            refine lv_iload hx hb dX7_runAlong_53 (lv_at hl 7 rfl) ?_
            refine lv_iload hx hb dX7_runAlong_55 (lv_at hl 4 rfl) ?_
            refine ln_icmp_ge (tgt := 102) hx hb dX7_runAlong_57 (by decide) (by omega) (by omega) (fun h2 => ?_) (fun h2 => ?_)
            · skip
              refine ln_iinc (k := 5) (n := 1) (lv' := [(5, .int (nI (a + 1))), (0, .int (nI ch)), (1, .ref (ad (6 + i))), (2, .ref (ad (6 + j))), (3, .int (nI (zLn x))), (4, .int (nI (zLg x))), (6, .double (zAcc ch (fun z => el i (a * zLg x + z)) b)), (8, .int (nI (b + 1)))]) hx hb dX7_runAlong_102 hl rfl (by decide) rfl (fun ls hl => ?_)
              refine lv_goto (tgt := 20) hx hb dX7_runAlong_105 (by decide) ?_
              exact ihlp (a + 1) f _ _ _ (by omega) (by omega) (fun q hq b7 hb7 => by by_cases h77 : q = a; (subst h77; exact hS b7 (by omega)); exact hR q (by omega) b7 hb7) (fun q b7 hq hb7 => by by_cases h77 : q = a; (subst h77; exact hg.2 b7 (by omega)); exact hg.1 q b7 (by omega) hb7) (hW) (lv_sub hl [1, 2, 3, 4, 5, 0] rfl)
            · skip
              refine lv_iload_n hx hb dX7_runAlong_60 rfl (lv_at hl 0 rfl) ?_
              refine lv_dload hx hb dX7_runAlong_61 (lv_at hl 6 rfl) ?_
              refine lv_aload_n hx hb dX7_runAlong_63 rfl (lv_at hl 1 rfl) ?_
              refine xg_elements (j := i) C hW q42 (by omega) dX7_runAlong_64 ?_
              refine lv_iload hx hb dX7_runAlong_67 (lv_at hl 5 rfl) ?_
              refine lv_iload hx hb dX7_runAlong_69 (lv_at hl 4 rfl) ?_
              refine ln_imul hx hb dX7_runAlong_71 ?_
              refine lv_iload hx hb dX7_runAlong_72 (lv_at hl 7 rfl) ?_
              refine ln_iadd hx hb dX7_runAlong_74 ?_
              refine xl_elements (j := i) (i := (a * (zLg x)) + (b + 1)) C hW (by omega) (by first | omega | (have := zIx (m := zLn x) (n := zLg x) (a := a) (b := 0) (by omega) (by omega); omega) | (have := zIx (m := zLn x) (n := zLg x) (a := a) (b := b + 1) (by omega) (by omega); omega)) dX7_runAlong_75 ?_
              rw [va_up_ne _ _ (by omega)]
              refine ar_callS (As := [.int (nI ch), .double (zAcc ch (fun z => el i (a * zLg x + z)) b), .double (el i ((a * (zLg x)) + (b + 1)))]) (rest := []) C hW (c_X7_combined hl9 _ ch (zAcc ch (fun z => el i (a * zLg x + z)) b) (el i ((a * (zLg x)) + (b + 1))) (hcs) (hS b (by omega)) (hre _ (zIx (by omega) (by omega)))) q540 q541 q20 q542 hd_X7_combined ⟨Nat.le_of_ble_eq_true rfl, Nat.le_of_ble_eq_true rfl⟩ hl.1 (Nat.le_of_ble_eq_true rfl) rfl dX7_runAlong_76 (fun E9 ce9 q9 u9 H locs hp hW h91 h92 h93 => ar_out C hW h91 h92 h93 (⟨hp.2.1, (fun q9 => by have h88 := q9 a (by omega) (b + 1) (by omega); have h89 := hp.1.symm.trans h88; cases h89), f, hp.2.2⟩)) (fun v9 u9 H locs hp hW => ?_)
              obtain ⟨hz9, rfl, hu9⟩ := hp
              rw [hu9] at hW
              refine W.eq (g2 := F0 m 79 ls [.double (zOp ch (zAcc ch (fun z => el i (a * zLg x + z)) b) (el i ((a * (zLg x)) + (b + 1))))]) rfl ?_
              refine lv_dstore (lv' := [(6, .double (zOp ch (zAcc ch (fun z => el i (a * zLg x + z)) b) (el i ((a * (zLg x)) + (b + 1))))), (0, .int (nI ch)), (1, .ref (ad (6 + i))), (2, .ref (ad (6 + j))), (3, .int (nI (zLn x))), (4, .int (nI (zLg x))), (5, .int (nI a)), (8, .int (nI (b + 1)))]) hx hb dX7_runAlong_79 hl (by decide) rfl (fun ls hl => ?_)
              refine lv_aload_n hx hb dX7_runAlong_81 rfl (lv_at hl 3 rfl) ?_
              refine xg_elements (j := j) C hW q42 (by omega) dX7_runAlong_82 ?_
              refine lv_iload hx hb dX7_runAlong_85 (lv_at hl 6 rfl) ?_
              refine lv_iload hx hb dX7_runAlong_87 (lv_at hl 5 rfl) ?_
              refine ln_imul hx hb dX7_runAlong_89 ?_
              refine lv_iload hx hb dX7_runAlong_90 (lv_at hl 7 rfl) ?_
              refine ln_iadd hx hb dX7_runAlong_92 ?_
              refine lv_dload hx hb dX7_runAlong_93 (lv_at hl 0 rfl) ?_
              refine xs_elements (j := j) (i := (a * (zLg x)) + (b + 1)) C hW (by omega) (by first | omega | (have := zIx (m := zLn x) (n := zLg x) (a := a) (b := 0) (by omega) (by omega); omega) | (have := zIx (m := zLn x) (n := zLg x) (a := a) (b := b + 1) (by omega) (by omega); omega)) dX7_runAlong_95 (fun H locs hW => ?_)
              simp only [bx_uu, va_up_self] at hW
              refine ln_iinc (k := 7) (n := 1) (lv' := [(8, .int (nI ((b + 1) + 1))), (6, .double (zOp ch (zAcc ch (fun z => el i (a * zLg x + z)) b) (el i ((a * (zLg x)) + (b + 1))))), (0, .int (nI ch)), (1, .ref (ad (6 + i))), (2, .ref (ad (6 + j))), (3, .int (nI (zLn x))), (4, .int (nI (zLg x))), (5, .int (nI a))]) hx hb dX7_runAlong_96 hl rfl (by decide) rfl (fun ls hl => ?_)
              refine lv_goto (tgt := 53) hx hb dX7_runAlong_99 (by decide) ?_
              exact ihlq (b + 1) (va_up f (a * zLg x + (b + 1)) (zAcc ch (fun z => el i (a * zLg x + z)) (b + 1))) _ _ _ (by omega) (by omega) (fun q hq => by by_cases h77 : q = b + 1; (subst h77; exact hz9); exact hS q (by omega)) (zRun_s (by omega) hg) (hW) (lv_sub hl [2, 3, 4, 5, 6, 7, 1, 0] rfl)
        exact lq _ 0 (va_up f (a * zLg x) (el i (a * zLg x))) _ _ _ (Nat.lt_succ_self _) (by omega) (fun q hq => by rw [show q = 0 by omega]; exact hre _ (zIx (by omega) (by omega))) (zRun_0 (by omega) hf) (hW) (lv_sub hl [2, 3, 4, 5, 6, 7, 1, 0] rfl)
  exact lp _ 0 (el j) _ _ _ (Nat.lt_succ_self _) (by omega) (fun q hq => absurd hq (Nat.not_lt_zero _)) (fun q b7 hq => absurd hq (Nat.not_lt_zero _)) (by rw [va_up_id]; exact hW) (lv_sub hl [3, 4, 5, 2, 1, 0] rfl)
