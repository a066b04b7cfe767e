theorem zFit_iff {a b : Nat} : zFit a b = true ↔ 1 ≤ a ∧ a ≤ 24 ∧ 1 ≤ b ∧ b ≤ 24 ∧ a * b ≤ 24 := by unfold zFit; exact decide_eq_true_iff
theorem zOk_row {s : Nat} (h0 : 1 ≤ s) (h : s ≤ 24) : zOk s = true := by
  unfold zOk
  rw [show zFit (zLn s) (zLg s) = true from zFit_iff.mpr (by unfold zLn zLg; rw [if_neg (by omega), if_neg (by omega), Nat.mod_eq_of_lt (by omega)]; omega), Bool.or_true]
theorem zOk_tab {a b : Nat} (h : zFit a b = true) : zOk (a * 32 + b) = true := by
  obtain ⟨h1, h2, h3, h4, h5⟩ := zFit_iff.mp h
  unfold zOk
  have e1 : zLn (a * 32 + b) = a := by unfold zLn; rw [if_pos (by omega)]; omega
  have e2 : zLg (a * 32 + b) = b := by unfold zLg; rw [if_neg (by omega)]; omega
  rw [e1, e2, h, Bool.or_true]
theorem zOk_num {s : Nat} (h : zOk s = true) : s ≤ 792 ∧ 1 ≤ zCt s ∧ zCt s ≤ 24 ∧ (zTb s = true → zFit (zLn s) (zLg s) = true ∧ s = zLn s * 32 + zLg s) ∧ (zTb s = false → s ≤ 24) := by
  unfold zOk at h
  by_cases h0 : s = 0
  · subst h0
    decide
  · rw [show (s == 0) = false by simpa using h0, Bool.false_or] at h
    obtain ⟨h1, h2, h3, h4, h5⟩ := zFit_iff.mp h
    have e2 : zLg s = s % 32 := by unfold zLg; rw [if_neg h0]
    by_cases h6 : 31 < s
    · have e1 : zLn s = s / 32 := by unfold zLn; rw [if_pos h6]
      refine ⟨by omega, ?_, h5, fun _ => ⟨h, by omega⟩, fun q => ?_⟩
      · unfold zCt
        exact Nat.mul_pos h1 h3
      · unfold zTb at q
        rw [decide_eq_false_iff_not] at q
        omega
    · have e1 : zLn s = 1 := by unfold zLn; rw [if_neg h6]
      refine ⟨by omega, ?_, h5, fun q => ?_, fun _ => by rw [e2, Nat.mod_eq_of_lt (by omega)] at h4; exact h4⟩
      · unfold zCt
        exact Nat.mul_pos h1 h3
      · unfold zTb at q
        rw [decide_eq_true_iff] at q
        exact absurd q h6
theorem zTrn_ok {s : Nat} (h : zOk s = true) : zOk (zTrn s) = true := by
  unfold zTrn
  split
  · rename_i q
    obtain ⟨h1, h2, h3, h4, h5⟩ := zFit_iff.mp ((zOk_num h).2.2.2.1 q).1
    exact zOk_tab (zFit_iff.mpr ⟨h3, h4, h1, h2, by rw [Nat.mul_comm]; exact h5⟩)
  · exact h
theorem zRed_ok {s : Nat} (h : zOk s = true) : zOk (zRed s) = true := by
  unfold zRed
  split
  · rename_i q
    obtain ⟨h1, h2, h3, h4, h5⟩ := zFit_iff.mp ((zOk_num h).2.2.2.1 q).1
    exact zOk_row h1 h2
  · decide
theorem zEach_ok {x y : Nat} (hx : zOk x = true) (hy : zOk y = true) (h : (zEach x y).1 = 0) : zOk (zEach x y).2 = true := by
  unfold zEach at h ⊢
  split at h
  · cases h
  · rename_i q
    rw [if_neg q]
    show zOk (if x = 0 then y else x) = true
    split
    · exact hy
    · exact hx
theorem zJoi_ok {x y : Nat} (h : (zJoi x y).1 = 0) : zOk (zJoi x y).2 = true := by
  unfold zJoi at h ⊢
  split at h
  · cases h
  · rename_i q
    rw [if_neg q]
    split at h
    · rename_i q2
      rw [if_pos q2]
      obtain ⟨h1, h2, h3, h4, h5⟩ := zFit_iff.mp q2
      exact zOk_row h3 h4
    · cases h
theorem zCou_ok {x : Nat} (h : (zCou x).1 = 0) : zOk (zCou x).2 = true := by
  unfold zCou at h ⊢
  split at h
  · rename_i q2
    rw [if_pos q2]
    obtain ⟨h1, h2, h3, h4, h5⟩ := zFit_iff.mp q2
    exact zOk_row h3 h4
  · cases h
theorem zAnw_ok {cl : Bool} {s v0 v1 cnt : Nat} (h : (zAnw cl s v0 v1 cnt).1 = 0) : zOk (zAnw cl s v0 v1 cnt).2 = true := by
  unfold zAnw at h ⊢
  by_cases q : cl = false ∨ 2 < zCt s
  · rw [if_pos q] at h; cases h
  rw [if_neg q] at h ⊢
  by_cases q2 : zFit (if s = 0 then 1 else v0) (if s = 0 then v0 else v1) = false
  · rw [if_pos q2] at h; cases h
  rw [if_neg q2] at h ⊢
  by_cases q3 : (if s = 0 then 1 else v0) * (if s = 0 then v0 else v1) < cnt
  · rw [if_pos q3] at h; cases h
  rw [if_neg q3]
  have q2 : zFit (if s = 0 then 1 else v0) (if s = 0 then v0 else v1) = true := by
    cases hq : zFit (if s = 0 then 1 else v0) (if s = 0 then v0 else v1)
    · exact absurd hq q2
    · rfl
  show zOk (if s = 0 then v0 else v0 * 32 + v1) = true
  by_cases h0 : s = 0
  · rw [if_pos h0]
    rw [if_pos h0, if_pos h0] at q2
    obtain ⟨h1, h2, h3, h4, h5⟩ := zFit_iff.mp q2
    exact zOk_row h3 h4
  · rw [if_neg h0]
    rw [if_neg h0, if_neg h0] at q2
    exact zOk_tab q2
theorem zSf_ok {x num : Nat} {sv : Nat → Nat} {sl sr so : Nat} {cl : Bool} {v0 v1 : Nat} (hv : x = 1 → zOk (sv num) = true) (hl : 8 ≤ x → zOk sl = true) (hr : 4 ≤ x → zOk sr = true) (ho : zOk so = true) (h : (zSf x num sv sl sr so cl v0 v1).1 = 0) : zOk (zSf x num sv sl sr so cl v0 v1).2 = true := by
  unfold zSf at h ⊢
  by_cases h1 : x = 1
  · rw [if_pos h1]; exact hv h1
  rw [if_neg h1] at h ⊢
  by_cases h2 : x = 3
  · rw [if_pos h2] at h ⊢; exact zCou_ok h
  rw [if_neg h2] at h ⊢
  by_cases h3 : x = 4 ∨ x = 7
  · rw [if_pos h3]; exact hr (by omega)
  rw [if_neg h3] at h ⊢
  by_cases h4 : x = 5
  · rw [if_pos h4]; exact zTrn_ok (hr (by omega))
  rw [if_neg h4] at h ⊢
  by_cases h5 : x = 6
  · rw [if_pos h5]; exact zRed_ok (hr (by omega))
  rw [if_neg h5] at h ⊢
  by_cases h6 : x = 8
  · rw [if_pos h6] at h ⊢; exact zEach_ok (hl (by omega)) (hr (by omega)) h
  rw [if_neg h6] at h ⊢
  by_cases h7 : x = 9
  · rw [if_pos h7] at h ⊢; exact zJoi_ok h
  rw [if_neg h7] at h ⊢
  by_cases h8 : x = 10
  · rw [if_pos h8] at h ⊢; exact zAnw_ok h
  rw [if_neg h8]
  exact ho
/-- node k's shape out of the shapes so far -/
def zSfN (kd num l9 r9 : Nat → Nat) (w : Nat → Nat → Nat) (s : Nat → Nat) (k : Nat) : Nat × Nat := zSf (kd k) (num k) s (s (8 + l9 k)) (s (8 + r9 k)) (s (8 + k)) (decide (kd (l9 k) = 2)) (w (l9 k) 0) (w (l9 k) 1)
/-- the shapes of the nodes below i, from the last to the first; or an error -/
def zShs (kd num l9 r9 : Nat → Nat) (w : Nat → Nat → Nat) : Nat → (Nat → Nat) → Nat × (Nat → Nat)
  | 0, s => (0, s)
  | k + 1, s => if (zSfN kd num l9 r9 w s k).1 ≠ 0 then ((zSfN kd num l9 r9 w s k).1, s) else zShs kd num l9 r9 w k (va_up s (8 + k) (zSfN kd num l9 r9 w s k).2)
/-- the nodes below b as numbers -/
def zNok (nf : Nat → Nat → Int32) (lr : Nat → Nat → Option Nat) (kd sgn num l9 r9 : Nat → Nat) (b k : Nat) : Prop :=
  nf 0 k = nI (kd k) ∧ kd k ≤ 10 ∧ nf 1 k = nI (sgn k) ∧ sgn k < 2 ^ 15 ∧ nf 2 k = nI (num k) ∧ num k < 2 ^ 15 ∧ (kd k = 1 → num k < 8) ∧ (8 ≤ kd k → lr 0 k = some (l9 k) ∧ k < l9 k ∧ l9 k < b) ∧ (4 ≤ kd k → lr 1 k = some (r9 k) ∧ k < r9 k ∧ r9 k < b) ∧ ((kd k = 6 ∨ kd k = 7 ∨ kd k = 8) → zSg (sgn k))
/-- the constants among them -/
def zCok (el : Nat → Nat → UInt64) (kd : Nat → Nat) (w : Nat → Nat → Nat) (s : Nat → Nat) (k : Nat) : Prop :=
  kd k = 2 → w k 0 < 2 ^ 15 ∧ w k 1 < 2 ^ 15 ∧ el (8 + k) 0 = FP.i2d (nI (w k 0)) ∧ (s (8 + k) ≠ 0 → el (8 + k) 1 = FP.i2d (nI (w k 1)))
theorem hd_X3_shapeFound : yX3_shapeFound.cls ≠ "java/lang/invoke/MethodHandle" ∧ yX3_shapeFound.cls ≠ "java/lang/invoke/VarHandle" ∧ (parseMethodDescriptor yX3_shapeFound.desc).map (fun d => d.parameters.length) = some 2 := by decide +kernel
set_option maxHeartbeats 4000000 in
set_option maxRecDepth 100000 in
theorem c_X3_shapeFound {l : Launch} (hl9 : l.stackTraces = false) {D : va_G} {ct : Nat → ClassId} {ad : Nat → Nat} (sc sg sh : Nat → Int32) (el : Nat → Nat → UInt64) (nf : Nat → Nat → Int32) (lr : Nat → Nat → Option Nat) (k : Nat) (hk : k < 41) (x : Nat) (hx9 : x ≤ 10) (hkd : nf 0 k = nI x) (num : Nat) (hnum : nf 2 k = nI num) (hn15 : num < 2 ^ 15) (hv : x = 1 → num < 8) (lf rt : Nat) (hL : 8 ≤ x → lr 0 k = some lf ∧ lf < 41) (hR : 4 ≤ x → lr 1 k = some rt ∧ rt < 41) (s9 : Nat → Nat) (hs : ∀ j, j < 49 → sh j = nI (s9 j)) (ho : ∀ j, j < 49 → s9 j ≤ 792 ∧ zCt (s9 j) ≤ 24) (kl : Nat) (hkl : x = 10 → nf 0 lf = nI kl ∧ kl ≤ 10) (v0 v1 : Nat) (hv0 : v0 < 2 ^ 15) (hv1 : v1 < 2 ^ 15) (hcv : x = 10 → kl = 2 → el (8 + lf) 0 = FP.i2d (nI v0) ∧ True ∧ (s9 (8 + lf) ≠ 0 → el (8 + lf) 1 = FP.i2d (nI v1) ∧ True)) : ar_M l yX3_shapeFound cX3_shapeFound 2 (some .int) 7 114 D ct (xL ad ct) [.ref (ad (104 + k)), .ref (ad 1)] (sc, sg, sh, el, nf, lr) (fun v9 u9 => (zSf x num s9 (s9 (8 + lf)) (s9 (8 + rt)) (s9 (8 + k)) (decide (kl = 2)) v0 v1).1 = 0 ∧ v9 = some (.int (nI (zSf x num s9 (s9 (8 + lf)) (s9 (8 + rt)) (s9 (8 + k)) (decide (kl = 2)) v0 v1).2)) ∧ u9 = (sc, sg, sh, el, nf, lr)) (fun E9 u9 => (zSf x num s9 (s9 (8 + lf)) (s9 (8 + rt)) (s9 (8 + k)) (decide (kl = 2)) v0 v1).1 ≠ 0 ∧ E9 = zEc (zSf x num s9 (s9 (8 + lf)) (s9 (8 + rt)) (s9 (8 + k)) (decide (kl = 2)) v0 v1).1 ∧ u9 = (sc, sg, sh, el, nf, lr)) := by
  refine ar_ofW hl9 (by decide) (Nat.le_of_ble_eq_true rfl) ?_
  intro p e s m below meth c A ls C hr hnm hW hl
  have hx := C.1
  have hb := C.2.1
  have hown := C.2.2.2.1
  have hts := C.2.2.2.2.1
  have hl : lv_has ls 2 [(0, .ref (ad (104 + k))), (1, .ref (ad 1))] := hl
  refine lv_aload_n hx hb dX3_shapeFound_0 rfl (lv_at hl 0 rfl) ?_
  refine xg_kind (k := k) C hW q85 (by first | omega | (have := (hR (by decide)).2; omega) | (have := (hL (by decide)).2; omega) | (have := hv rfl; omega)) dX3_shapeFound_1 ?_
  refine ln_top (hkd) ?_
  rcases (show x = 0 ∨ x = 1 ∨ x = 2 ∨ x = 3 ∨ x = 4 ∨ x = 5 ∨ x = 6 ∨ x = 7 ∨ x = 8 ∨ x = 9 ∨ x = 10 by omega) with rfl | rfl | rfl | rfl | rfl | rfl | rfl | rfl | rfl | rfl | rfl
  · skip
    refine lv_tableOut (tgt := 183) hx hb dX3_shapeFound_4 (by decide) (by decide) ?_
    refine lv_aload_n hx hb dX3_shapeFound_183 rfl (lv_at hl 0 rfl) ?_
    refine xg_result (k := k) C hW q104 (by first | omega | (have := (hR (by decide)).2; omega) | (have := (hL (by decide)).2; omega) | (have := hv rfl; omega)) dX3_shapeFound_184 ?_
    refine xg_shape (j := 8 + k) C hW q37 (by first | omega | (have := (hR (by decide)).2; omega) | (have := (hL (by decide)).2; omega) | (have := hv rfl; omega)) dX3_shapeFound_187 ?_
    refine ln_top (hs _ (by omega)) ?_
    exact ar_iret C hr hW dX3_shapeFound_190 (⟨rfl, rfl, rfl⟩)
  · skip
    refine lv_tableIn (off := 56) (tgt := 60) hx hb dX3_shapeFound_4 (by decide) (by decide) (by decide) (by decide) ?_
    refine lv_aload_n hx hb dX3_shapeFound_60 rfl (lv_at hl 1 rfl) ?_
    refine lv_aload_n hx hb dX3_shapeFound_61 rfl (lv_at hl 0 rfl) ?_
    refine xg_number (k := k) C hW q92 (by first | omega | (have := (hR (by decide)).2; omega) | (have := (hL (by decide)).2; omega) | (have := hv rfl; omega)) dX3_shapeFound_62 ?_
    refine ln_top (hnum) ?_
    refine xl_variables (j := num) C hW (hv rfl) dX3_shapeFound_65 ?_
    refine xg_shape (j := num) C hW q37 (by first | omega | (have := (hR (by decide)).2; omega) | (have := (hL (by decide)).2; omega) | (have := hv rfl; omega)) dX3_shapeFound_66 ?_
    refine ln_top (hs _ (by have := hv rfl; omega)) ?_
    exact ar_iret C hr hW dX3_shapeFound_69 (⟨rfl, rfl, rfl⟩)
  · skip
    refine lv_tableIn (off := 179) (tgt := 183) hx hb dX3_shapeFound_4 (by decide) (by decide) (by decide) (by decide) ?_
    refine lv_aload_n hx hb dX3_shapeFound_183 rfl (lv_at hl 0 rfl) ?_
    refine xg_result (k := k) C hW q104 (by first | omega | (have := (hR (by decide)).2; omega) | (have := (hL (by decide)).2; omega) | (have := hv rfl; omega)) dX3_shapeFound_184 ?_
    refine xg_shape (j := 8 + k) C hW q37 (by first | omega | (have := (hR (by decide)).2; omega) | (have := (hL (by decide)).2; omega) | (have := hv rfl; omega)) dX3_shapeFound_187 ?_
    refine ln_top (hs _ (by omega)) ?_
    exact ar_iret C hr hW dX3_shapeFound_190 (⟨rfl, rfl, rfl⟩)
  · skip
    refine lv_tableIn (off := 66) (tgt := 70) hx hb dX3_shapeFound_4 (by decide) (by decide) (by decide) (by decide) ?_
    refine lv_aload_n hx hb dX3_shapeFound_70 rfl (lv_at hl 0 rfl) ?_
    refine xg_number (k := k) C hW q92 (by first | omega | (have := (hR (by decide)).2; omega) | (have := (hL (by decide)).2; omega) | (have := hv rfl; omega)) dX3_shapeFound_71 ?_
    refine ln_top (hnum) ?_
    refine ar_callS (As := [.int (nI num)]) (rest := []) C hW (c_X3_shapeOfCount hl9 _ num (hn15)) q450 q451 q17 q452 hd_X3_shapeOfCount ⟨Nat.le_of_ble_eq_true rfl, Nat.le_of_ble_eq_true rfl⟩ hl.1 (Nat.le_of_ble_eq_true rfl) rfl dX3_shapeFound_74 (fun E9 ce9 q9 u9 H locs hp hW h91 h92 h93 => ar_out C hW h91 h92 h93 (hp)) (fun v9 u9 H locs hp hW => ?_)
    obtain ⟨hz9, rfl, hu9⟩ := hp
    rw [hu9] at hW
    refine W.eq (g2 := F0 m 77 ls [.int (nI ((zCou num).2))]) rfl ?_
    exact ar_iret C hr hW dX3_shapeFound_77 (⟨hz9, rfl, rfl⟩)
  · skip
    refine lv_tableIn (off := 74) (tgt := 78) hx hb dX3_shapeFound_4 (by decide) (by decide) (by decide) (by decide) ?_
    refine lv_aload_n hx hb dX3_shapeFound_78 rfl (lv_at hl 0 rfl) ?_
    refine xg_right (k := k) C hW q101 (by first | omega | (have := (hR (by decide)).2; omega) | (have := (hL (by decide)).2; omega) | (have := hv rfl; omega)) dX3_shapeFound_79 ?_
    refine ln_opt ((hR (by decide)).1) ?_
    refine xg_result (k := rt) C hW q104 (by first | omega | (have := (hR (by decide)).2; omega) | (have := (hL (by decide)).2; omega) | (have := hv rfl; omega)) dX3_shapeFound_82 ?_
    refine xg_shape (j := 8 + rt) C hW q37 (by first | omega | (have := (hR (by decide)).2; omega) | (have := (hL (by decide)).2; omega) | (have := hv rfl; omega)) dX3_shapeFound_85 ?_
    refine ln_top (hs _ (by have := (hR (by decide)).2; omega)) ?_
    exact ar_iret C hr hW dX3_shapeFound_88 (⟨rfl, rfl, rfl⟩)
  · skip
    refine lv_tableIn (off := 85) (tgt := 89) hx hb dX3_shapeFound_4 (by decide) (by decide) (by decide) (by decide) ?_
    refine lv_aload_n hx hb dX3_shapeFound_89 rfl (lv_at hl 0 rfl) ?_
    refine xg_right (k := k) C hW q101 (by first | omega | (have := (hR (by decide)).2; omega) | (have := (hL (by decide)).2; omega) | (have := hv rfl; omega)) dX3_shapeFound_90 ?_
    refine ln_opt ((hR (by decide)).1) ?_
    refine xg_result (k := rt) C hW q104 (by first | omega | (have := (hR (by decide)).2; omega) | (have := (hL (by decide)).2; omega) | (have := hv rfl; omega)) dX3_shapeFound_93 ?_
    refine xg_shape (j := 8 + rt) C hW q37 (by first | omega | (have := (hR (by decide)).2; omega) | (have := (hL (by decide)).2; omega) | (have := hv rfl; omega)) dX3_shapeFound_96 ?_
    refine ln_top (hs _ (by have := (hR (by decide)).2; omega)) ?_
    refine ar_callS (As := [.int (nI (s9 (8 + rt)))]) (rest := []) C hW (c_X3_shapeTurned hl9 _ (s9 (8 + rt)) ((ho (8 + rt) (by have := (hR (by decide)).2; omega)).1)) q470 q471 q17 q472 hd_X3_shapeTurned ⟨Nat.le_of_ble_eq_true rfl, Nat.le_of_ble_eq_true rfl⟩ hl.1 (Nat.le_of_ble_eq_true rfl) rfl dX3_shapeFound_99 (fun _ _ _ _ _ _ hp => hp.elim) (fun v9 u9 H locs hp hW => ?_)
    obtain ⟨rfl, hu9⟩ := hp
    rw [hu9] at hW
    refine W.eq (g2 := F0 m 102 ls [.int (nI (zTrn (s9 (8 + rt))))]) rfl ?_
    exact ar_iret C hr hW dX3_shapeFound_102 (⟨rfl, rfl, rfl⟩)
  · skip
    refine lv_tableIn (off := 99) (tgt := 103) hx hb dX3_shapeFound_4 (by decide) (by decide) (by decide) (by decide) ?_
    refine lv_aload_n hx hb dX3_shapeFound_103 rfl (lv_at hl 0 rfl) ?_
    refine xg_right (k := k) C hW q101 (by first | omega | (have := (hR (by decide)).2; omega) | (have := (hL (by decide)).2; omega) | (have := hv rfl; omega)) dX3_shapeFound_104 ?_
    refine ln_opt ((hR (by decide)).1) ?_
    refine xg_result (k := rt) C hW q104 (by first | omega | (have := (hR (by decide)).2; omega) | (have := (hL (by decide)).2; omega) | (have := hv rfl; omega)) dX3_shapeFound_107 ?_
    refine xg_shape (j := 8 + rt) C hW q37 (by first | omega | (have := (hR (by decide)).2; omega) | (have := (hL (by decide)).2; omega) | (have := hv rfl; omega)) dX3_shapeFound_110 ?_
    refine ln_top (hs _ (by have := (hR (by decide)).2; omega)) ?_
    refine ar_callS (As := [.int (nI (s9 (8 + rt)))]) (rest := []) C hW (c_X3_shapeReduced hl9 _ (s9 (8 + rt)) ((ho (8 + rt) (by have := (hR (by decide)).2; omega)).1)) q479 q480 q17 q481 hd_X3_shapeReduced ⟨Nat.le_of_ble_eq_true rfl, Nat.le_of_ble_eq_true rfl⟩ hl.1 (Nat.le_of_ble_eq_true rfl) rfl dX3_shapeFound_113 (fun _ _ _ _ _ _ hp => hp.elim) (fun v9 u9 H locs hp hW => ?_)
    obtain ⟨rfl, hu9⟩ := hp
    rw [hu9] at hW
    refine W.eq (g2 := F0 m 116 ls [.int (nI (zRed (s9 (8 + rt))))]) rfl ?_
    exact ar_iret C hr hW dX3_shapeFound_116 (⟨rfl, rfl, rfl⟩)
  · skip
    refine lv_tableIn (off := 74) (tgt := 78) hx hb dX3_shapeFound_4 (by decide) (by decide) (by decide) (by decide) ?_
    refine lv_aload_n hx hb dX3_shapeFound_78 rfl (lv_at hl 0 rfl) ?_
    refine xg_right (k := k) C hW q101 (by first | omega | (have := (hR (by decide)).2; omega) | (have := (hL (by decide)).2; omega) | (have := hv rfl; omega)) dX3_shapeFound_79 ?_
    refine ln_opt ((hR (by decide)).1) ?_
    refine xg_result (k := rt) C hW q104 (by first | omega | (have := (hR (by decide)).2; omega) | (have := (hL (by decide)).2; omega) | (have := hv rfl; omega)) dX3_shapeFound_82 ?_
    refine xg_shape (j := 8 + rt) C hW q37 (by first | omega | (have := (hR (by decide)).2; omega) | (have := (hL (by decide)).2; omega) | (have := hv rfl; omega)) dX3_shapeFound_85 ?_
    refine ln_top (hs _ (by have := (hR (by decide)).2; omega)) ?_
    exact ar_iret C hr hW dX3_shapeFound_88 (⟨rfl, rfl, rfl⟩)
  · skip
    refine lv_tableIn (off := 113) (tgt := 117) hx hb dX3_shapeFound_4 (by decide) (by decide) (by decide) (by decide) ?_
    refine lv_aload_n hx hb dX3_shapeFound_117 rfl (lv_at hl 0 rfl) ?_
    refine xg_left (k := k) C hW q97 (by first | omega | (have := (hR (by decide)).2; omega) | (have := (hL (by decide)).2; omega) | (have := hv rfl; omega)) dX3_shapeFound_118 ?_
    refine ln_opt ((hL (by decide)).1) ?_
    refine xg_result (k := lf) C hW q104 (by first | omega | (have := (hR (by decide)).2; omega) | (have := (hL (by decide)).2; omega) | (have := hv rfl; omega)) dX3_shapeFound_121 ?_
    refine xg_shape (j := 8 + lf) C hW q37 (by first | omega | (have := (hR (by decide)).2; omega) | (have := (hL (by decide)).2; omega) | (have := hv rfl; omega)) dX3_shapeFound_124 ?_
    refine ln_top (hs _ (by have := (hL (by decide)).2; omega)) ?_
    refine lv_aload_n hx hb dX3_shapeFound_127 rfl (lv_at hl 0 rfl) ?_
    refine xg_right (k := k) C hW q101 (by first | omega | (have := (hR (by decide)).2; omega) | (have := (hL (by decide)).2; omega) | (have := hv rfl; omega)) dX3_shapeFound_128 ?_
    refine ln_opt ((hR (by decide)).1) ?_
    refine xg_result (k := rt) C hW q104 (by first | omega | (have := (hR (by decide)).2; omega) | (have := (hL (by decide)).2; omega) | (have := hv rfl; omega)) dX3_shapeFound_131 ?_
    refine xg_shape (j := 8 + rt) C hW q37 (by first | omega | (have := (hR (by decide)).2; omega) | (have := (hL (by decide)).2; omega) | (have := hv rfl; omega)) dX3_shapeFound_134 ?_
    refine ln_top (hs _ (by have := (hR (by decide)).2; omega)) ?_
    refine ar_callS (As := [.int (nI (s9 (8 + lf))), .int (nI (s9 (8 + rt)))]) (rest := []) C hW (c_X3_shapeOfEach hl9 _ (s9 (8 + lf)) (s9 (8 + rt)) ((ho (8 + lf) (by have := (hL (by decide)).2; omega)).1) ((ho (8 + rt) (by have := (hR (by decide)).2; omega)).1)) q482 q483 q17 q484 hd_X3_shapeOfEach ⟨Nat.le_of_ble_eq_true rfl, Nat.le_of_ble_eq_true rfl⟩ hl.1 (Nat.le_of_ble_eq_true rfl) rfl dX3_shapeFound_137 (fun E9 ce9 q9 u9 H locs hp hW h91 h92 h93 => ar_out C hW h91 h92 h93 (hp)) (fun v9 u9 H locs hp hW => ?_)
    obtain ⟨hz9, rfl, hu9⟩ := hp
    rw [hu9] at hW
    refine W.eq (g2 := F0 m 140 ls [.int (nI ((zEach (s9 (8 + lf)) (s9 (8 + rt))).2))]) rfl ?_
    exact ar_iret C hr hW dX3_shapeFound_140 (⟨hz9, rfl, rfl⟩)
  · skip
    refine lv_tableIn (off := 137) (tgt := 141) hx hb dX3_shapeFound_4 (by decide) (by decide) (by decide) (by decide) ?_
    refine lv_aload_n hx hb dX3_shapeFound_141 rfl (lv_at hl 0 rfl) ?_
    refine xg_left (k := k) C hW q97 (by first | omega | (have := (hR (by decide)).2; omega) | (have := (hL (by decide)).2; omega) | (have := hv rfl; omega)) dX3_shapeFound_142 ?_
    refine ln_opt ((hL (by decide)).1) ?_
    refine xg_result (k := lf) C hW q104 (by first | omega | (have := (hR (by decide)).2; omega) | (have := (hL (by decide)).2; omega) | (have := hv rfl; omega)) dX3_shapeFound_145 ?_
    refine xg_shape (j := 8 + lf) C hW q37 (by first | omega | (have := (hR (by decide)).2; omega) | (have := (hL (by decide)).2; omega) | (have := hv rfl; omega)) dX3_shapeFound_148 ?_
    refine ln_top (hs _ (by have := (hL (by decide)).2; omega)) ?_
    refine lv_aload_n hx hb dX3_shapeFound_151 rfl (lv_at hl 0 rfl) ?_
    refine xg_right (k := k) C hW q101 (by first | omega | (have := (hR (by decide)).2; omega) | (have := (hL (by decide)).2; omega) | (have := hv rfl; omega)) dX3_shapeFound_152 ?_
    refine ln_opt ((hR (by decide)).1) ?_
    refine xg_result (k := rt) C hW q104 (by first | omega | (have := (hR (by decide)).2; omega) | (have := (hL (by decide)).2; omega) | (have := hv rfl; omega)) dX3_shapeFound_155 ?_
    refine xg_shape (j := 8 + rt) C hW q37 (by first | omega | (have := (hR (by decide)).2; omega) | (have := (hL (by decide)).2; omega) | (have := hv rfl; omega)) dX3_shapeFound_158 ?_
    refine ln_top (hs _ (by have := (hR (by decide)).2; omega)) ?_
    refine ar_callS (As := [.int (nI (s9 (8 + lf))), .int (nI (s9 (8 + rt)))]) (rest := []) C hW (c_X3_shapeJoined hl9 _ (s9 (8 + lf)) (s9 (8 + rt)) ((ho (8 + lf) (by have := (hL (by decide)).2; omega)).1) ((ho (8 + rt) (by have := (hR (by decide)).2; omega)).1) ((ho (8 + lf) (by have := (hL (by decide)).2; omega)).2) ((ho (8 + rt) (by have := (hR (by decide)).2; omega)).2)) q501 q502 q17 q503 hd_X3_shapeJoined ⟨Nat.le_of_ble_eq_true rfl, Nat.le_of_ble_eq_true rfl⟩ hl.1 (Nat.le_of_ble_eq_true rfl) rfl dX3_shapeFound_161 (fun E9 ce9 q9 u9 H locs hp hW h91 h92 h93 => ar_out C hW h91 h92 h93 (hp)) (fun v9 u9 H locs hp hW => ?_)
    obtain ⟨hz9, rfl, hu9⟩ := hp
    rw [hu9] at hW
    refine W.eq (g2 := F0 m 164 ls [.int (nI ((zJoi (s9 (8 + lf)) (s9 (8 + rt))).2))]) rfl ?_
    exact ar_iret C hr hW dX3_shapeFound_164 (⟨hz9, rfl, rfl⟩)
  · skip
    refine lv_tableIn (off := 161) (tgt := 165) hx hb dX3_shapeFound_4 (by decide) (by decide) (by decide) (by decide) ?_
    refine lv_aload_n hx hb dX3_shapeFound_165 rfl (lv_at hl 0 rfl) ?_
    refine xg_left (k := k) C hW q97 (by first | omega | (have := (hR (by decide)).2; omega) | (have := (hL (by decide)).2; omega) | (have := hv rfl; omega)) dX3_shapeFound_166 ?_
    refine ln_opt ((hL (by decide)).1) ?_
    refine lv_aload_n hx hb dX3_shapeFound_169 rfl (lv_at hl 0 rfl) ?_
    refine xg_right (k := k) C hW q101 (by first | omega | (have := (hR (by decide)).2; omega) | (have := (hL (by decide)).2; omega) | (have := hv rfl; omega)) dX3_shapeFound_170 ?_
    refine ln_opt ((hR (by decide)).1) ?_
    refine xg_result (k := rt) C hW q104 (by first | omega | (have := (hR (by decide)).2; omega) | (have := (hL (by decide)).2; omega) | (have := hv rfl; omega)) dX3_shapeFound_173 ?_
    refine ar_callV (As := []) (rest := [.ref (ad (104 + lf))]) C hW (c_X1_count hl9 sc sg sh el nf lr (8 + rt) (by have := (hR (by decide)).2; omega) (s9 (8 + rt)) (by have := (ho (8 + rt) (by have := (hR (by decide)).2; omega)).1; omega) (hs _ (by have := (hR (by decide)).2; omega))) (xl_at (by have := (hR (by decide)).2; omega) (xc_na (j := 8 + rt) (by have := (hR (by decide)).2; omega))) rfl q507 q214 q215 q2 q216 hd_X1_count ⟨Nat.le_of_ble_eq_true rfl, Nat.le_of_ble_eq_true rfl⟩ hl.1 (Nat.le_of_ble_eq_true rfl) rfl dX3_shapeFound_176 (fun _ _ _ _ _ _ hp => hp.elim) (fun v9 u9 H locs hp hW => ?_)
    obtain ⟨rfl, hu9⟩ := hp
    rw [hu9] at hW
    refine W.eq (g2 := F0 m 179 ls [.int (nI (zCt (s9 (8 + rt)))), .ref (ad (104 + lf))]) rfl ?_
    refine ar_callS (As := [.ref (ad (104 + lf)), .int (nI (zCt (s9 (8 + rt))))]) (rest := []) C hW (c_X3_shapeAnew hl9 sc sg sh el nf lr lf (hL (by decide)).2 kl (hkl rfl).2 (hkl rfl).1 (s9 (8 + lf)) (ho _ (by have := (hL (by decide)).2; omega)).1 (hs _ (by have := (hL (by decide)).2; omega)) v0 v1 (zCt (s9 (8 + rt))) hv0 hv1 (ho _ (by have := (hR (by decide)).2; omega)).2 (fun q => hcv rfl q)) q508 q509 q17 q510 hd_X3_shapeAnew ⟨Nat.le_of_ble_eq_true rfl, Nat.le_of_ble_eq_true rfl⟩ hl.1 (Nat.le_of_ble_eq_true rfl) rfl dX3_shapeFound_179 (fun E9 ce9 q9 u9 H locs hp hW h91 h92 h93 => ar_out C hW h91 h92 h93 (hp)) (fun v9 u9 H locs hp hW => ?_)
    obtain ⟨hz9, rfl, hu9⟩ := hp
    rw [hu9] at hW
    refine W.eq (g2 := F0 m 182 ls [.int (nI ((zAnw (decide (kl = 2)) (s9 (8 + lf)) v0 v1 (zCt (s9 (8 + rt)))).2))]) rfl ?_
    exact ar_iret C hr hW dX3_shapeFound_182 (⟨hz9, rfl, rfl⟩)
