theorem zj_made {n : Nat} {tx : Nat → Nat} {sc sg sh : Nat → Int32} {el : Nat → Nat → UInt64} {nf : Nat → Nat → Int32} {lr : Nat → Nat → Option Nat} {g : Nat → Int32} {a : Nat → Nat → Int32} {d : Nat → Nat → UInt64}  {v8 w8 : Option Value} {x1 : XS} {u1 : MS} (hJ : zJ n tx (sc, sg, sh, el, nf, lr) (g, a, d)) (h8 : (fun v9 u9 => v9 = some (.int (sc 0)) ∧ u9 = (sc, sg, sh, el, nf, lr)) v8 x1) (h9 : (fun v9 u9 => v9 = some (.int (g 24)) ∧ u9 = (va_up g 26 (nI 0), a, d)) w8 u1) : ∃ r, v8 = some (.int r) ∧ w8 = some (.int r) ∧ ∃ n2 tx2, zJ n2 tx2 x1 u1 := by
  obtain ⟨rfl, rfl⟩ := h8
  obtain ⟨rfl, rfl⟩ := h9
  exact ⟨_, rfl, congrArg (fun z => some (Value.int z)) hJ.2.2.1.symm, n, tx, zJ_26 hJ⟩
theorem zj_runs {n : Nat} {tx : Nat → Nat} {sc sg sh : Nat → Int32} {el : Nat → Nat → UInt64} {nf : Nat → Nat → Int32} {lr : Nat → Nat → Option Nat} {g : Nat → Int32} {a : Nat → Nat → Int32} {d : Nat → Nat → UInt64}  {v8 w8 : Option Value} {x1 : XS} {u1 : MS} (hJ : zJ n tx (sc, sg, sh, el, nf, lr) (g, a, d)) (h8 : (fun v9 u9 => v9 = some (.int (sc 1)) ∧ u9 = (sc, sg, sh, el, nf, lr)) v8 x1) (h9 : (fun v9 u9 => v9 = some (.int (g 25)) ∧ u9 = (va_up g 26 (nI 0), a, d)) w8 u1) : ∃ r, v8 = some (.int r) ∧ w8 = some (.int r) ∧ ∃ n2 tx2, zJ n2 tx2 x1 u1 := by
  obtain ⟨rfl, rfl⟩ := h8
  obtain ⟨rfl, rfl⟩ := h9
  exact ⟨_, rfl, congrArg (fun z => some (Value.int z)) hJ.2.2.2.symm, n, tx, zJ_26 hJ⟩
theorem zj_shapeOf {n : Nat} {tx : Nat → Nat} {sc sg sh : Nat → Int32} {el : Nat → Nat → UInt64} {nf : Nat → Nat → Int32} {lr : Nat → Nat → Option Nat} {g : Nat → Int32} {a : Nat → Nat → Int32} {d : Nat → Nat → UInt64} {v : Int32} {v8 w8 : Option Value} {x1 : XS} {u1 : MS} (hJ : zJ n tx (sc, sg, sh, el, nf, lr) (g, a, d)) (h8 : (fun v9 u9 => u9 = (sc, sg, sh, el, nf, lr) ∧ ((vOk v = false ∧ v9 = some (.int (-1))) ∨ ∃ j : Nat, j < 8 ∧ v = nI j ∧ v9 = some (.int (nI (zSN sh j))))) v8 x1) (h9 : (fun v9 u9 => u9 = (va_up g 26 (nI 0), a, d) ∧ ((vOk v = false ∧ v9 = some (.int (-1))) ∨ ∃ j : Nat, j < 8 ∧ v = nI j ∧ v9 = some (.int (nI (zSN sh j))))) w8 u1) : ∃ r, v8 = some (.int r) ∧ w8 = some (.int r) ∧ ∃ n2 tx2, zJ n2 tx2 x1 u1 := by
  have hne : ∀ {j k : Nat}, j < 8 → k < 8 → nI j = nI k → j = k := fun hj hk h => (nI_eq (by omega) (by omega)).mp h
  obtain ⟨rfl, h8⟩ := h8
  obtain ⟨rfl, h9⟩ := h9
  rcases h8 with ⟨e1, rfl⟩ | ⟨j, hj, rfl, rfl⟩
  · rcases h9 with ⟨-, rfl⟩ | ⟨j, hj, rfl, rfl⟩
    · exact ⟨_, rfl, rfl, n, tx, zJ_26 hJ⟩
    · rw [vOk_lt hj] at e1; cases e1
  · rcases h9 with ⟨e1, rfl⟩ | ⟨k, hk, e1, rfl⟩
    · rw [vOk_lt hj] at e1; cases e1
    · cases hne hj hk e1
      exact ⟨_, rfl, rfl, n, tx, zJ_26 hJ⟩
theorem zj_size {n : Nat} {tx : Nat → Nat} {sc sg sh : Nat → Int32} {el : Nat → Nat → UInt64} {nf : Nat → Nat → Int32} {lr : Nat → Nat → Option Nat} {g : Nat → Int32} {a : Nat → Nat → Int32} {d : Nat → Nat → UInt64} {v : Int32} {v8 w8 : Option Value} {x1 : XS} {u1 : MS} (hJ : zJ n tx (sc, sg, sh, el, nf, lr) (g, a, d)) (h8 : (fun v9 u9 => u9 = (sc, sg, sh, el, nf, lr) ∧ ((vOk v = false ∧ v9 = some (.int (-1))) ∨ ∃ j : Nat, j < 8 ∧ v = nI j ∧ v9 = some (.int (nI (zCt (zSN sh j)))))) v8 x1) (h9 : (fun v9 u9 => u9 = (va_up g 26 (nI 0), a, d) ∧ ((vOk v = false ∧ v9 = some (.int (-1))) ∨ ∃ j : Nat, j < 8 ∧ v = nI j ∧ v9 = some (.int (nI (zCt (zSN sh j)))))) w8 u1) : ∃ r, v8 = some (.int r) ∧ w8 = some (.int r) ∧ ∃ n2 tx2, zJ n2 tx2 x1 u1 := by
  have hne : ∀ {j k : Nat}, j < 8 → k < 8 → nI j = nI k → j = k := fun hj hk h => (nI_eq (by omega) (by omega)).mp h
  obtain ⟨rfl, h8⟩ := h8
  obtain ⟨rfl, h9⟩ := h9
  rcases h8 with ⟨e1, rfl⟩ | ⟨j, hj, rfl, rfl⟩
  · rcases h9 with ⟨-, rfl⟩ | ⟨j, hj, rfl, rfl⟩
    · exact ⟨_, rfl, rfl, n, tx, zJ_26 hJ⟩
    · rw [vOk_lt hj] at e1; cases e1
  · rcases h9 with ⟨e1, rfl⟩ | ⟨k, hk, e1, rfl⟩
    · rw [vOk_lt hj] at e1; cases e1
    · cases hne hj hk e1
      exact ⟨_, rfl, rfl, n, tx, zJ_26 hJ⟩
theorem zj_at {n : Nat} {tx : Nat → Nat} {sc sg sh : Nat → Int32} {el : Nat → Nat → UInt64} {nf : Nat → Nat → Int32} {lr : Nat → Nat → Option Nat} {g : Nat → Int32} {a : Nat → Nat → Int32} {d : Nat → Nat → UInt64} {v i : Int32} {v8 w8 : Option Value} {x1 : XS} {u1 : MS} (hJ : zJ n tx (sc, sg, sh, el, nf, lr) (g, a, d)) (h8 : (fun v9 u9 => u9 = (sc, sg, sh, el, nf, lr) ∧ (((vOk v = false ∨ ∃ j : Nat, j < 8 ∧ v = nI j ∧ zHas i (zCt (zSN sh j)) = false) ∧ v9 = some (.double FP.dconst0)) ∨ ∃ j i9 : Nat, j < 8 ∧ v = nI j ∧ i9 < zCt (zSN sh j) ∧ i = nI i9 ∧ v9 = some (.double (el j i9)))) v8 x1) (h9 : (fun v9 u9 => u9 = (va_up g 26 (nI 0), a, d) ∧ (((vOk v = false ∨ ∃ j : Nat, j < 8 ∧ v = nI j ∧ zHas i (zCt (zSN sh j)) = false) ∧ v9 = some (.double FP.dconst0)) ∨ ∃ j i9 : Nat, j < 8 ∧ v = nI j ∧ i9 < zCt (zSN sh j) ∧ i = nI i9 ∧ v9 = some (.double (d 3 (24 * j + i9))))) w8 u1) : ∃ r, v8 = some (.double r) ∧ w8 = some (.double r) ∧ ∃ n2 tx2, zJ n2 tx2 x1 u1 := by
  have hne : ∀ {j k : Nat}, j < 8 → k < 8 → nI j = nI k → j = k := fun hj hk h => (nI_eq (by omega) (by omega)).mp h
  obtain ⟨rfl, h8⟩ := h8
  obtain ⟨rfl, h9⟩ := h9
  have hvs := zJ_vs hJ
  have hne2 : ∀ {j k l : Nat}, l < 8 → j < zCt (zSN sh l) → k < zCt (zSN sh l) → nI j = nI k → j = k := fun hl hj hk h => by have := (hvs.2.2.2.1 _ hl).2; exact (nI_eq (by show _ < 2 ^ 31; have : zCt (zSN sh _) ≤ 24 := this; omega) (by have : zCt (zSN sh _) ≤ 24 := this; omega)).mp h
  have hno : ∀ {j i9 : Nat}, j < 8 → i9 < zCt (zSN sh j) → (vOk (nI j) = false ∨ ∃ k : Nat, k < 8 ∧ nI j = nI k ∧ zHas (nI i9) (zCt (zSN sh k)) = false) → False := by
    intro j i9 hj hi h
    rcases h with h | ⟨k, hk, e1, h⟩
    · rw [vOk_lt hj] at h; cases h
    · cases hne hj hk e1
      have : zCt (zSN sh j) ≤ 24 := (hvs.2.2.2.1 j hj).2
      rw [zHas_lt hi (by omega)] at h; cases h
  rcases h8 with ⟨e1, rfl⟩ | ⟨j, i9, hj, rfl, hi, rfl, rfl⟩
  · rcases h9 with ⟨-, rfl⟩ | ⟨j, i9, hj, rfl, hi, rfl, rfl⟩
    · exact ⟨_, rfl, rfl, n, tx, zJ_26 hJ⟩
    · exact (hno hj hi e1).elim
  · rcases h9 with ⟨e1, rfl⟩ | ⟨k, k9, hk, e1, hk9, e2, rfl⟩
    · exact (hno hj hi e1).elim
    · cases hne hj hk e1
      cases hne2 hj hi hk9 e2
      exact ⟨_, rfl, congrArg (fun z => some (Value.double z)) (hJ.2.1.2.2 j hj i9 hi).1, n, tx, zJ_26 hJ⟩
theorem zj_put {n : Nat} {tx : Nat → Nat} {sc sg sh : Nat → Int32} {el : Nat → Nat → UInt64} {nf : Nat → Nat → Int32} {lr : Nat → Nat → Option Nat} {g : Nat → Int32} {a : Nat → Nat → Int32} {d : Nat → Nat → UInt64} {v : Int32} {x : UInt64} {v8 w8 : Option Value} {x1 : XS} {u1 : MS} (hJ : zJ n tx (sc, sg, sh, el, nf, lr) (g, a, d)) (h8 : (fun v9 u9 => ((vOk v = false ∨ zRg x = false) ∧ v9 = some (.int (nI 0)) ∧ u9 = (sc, sg, sh, el, nf, lr)) ∨ ∃ j : Nat, j < 8 ∧ v = nI j ∧ zRg x = true ∧ v9 = some (.int (nI 1)) ∧ u9 = (sc, sg, va_up sh j (nI 0), va_up el j (va_up (el j) 0 x), nf, lr)) v8 x1) (h9 : (fun v9 u9 => ((vOk v = false ∨ zRg x = false) ∧ v9 = some (.int (nI 0)) ∧ u9 = (va_up g 26 (nI 0), a, d)) ∨ ∃ j : Nat, j < 8 ∧ v = nI j ∧ zRg x = true ∧ v9 = some (.int (nI 1)) ∧ u9 = (va_up g 26 (nI 0), va_up a 2 (va_up (a 2) j (nI 0)), va_up d 3 (va_up (d 3) (24 * j) x))) w8 u1) : ∃ r, v8 = some (.int r) ∧ w8 = some (.int r) ∧ ∃ n2 tx2, zJ n2 tx2 x1 u1 := by
  have hne : ∀ {j k : Nat}, j < 8 → k < 8 → nI j = nI k → j = k := fun hj hk h => (nI_eq (by omega) (by omega)).mp h
  rcases h8 with ⟨e1, rfl, rfl⟩ | ⟨j, hj, rfl, hx, rfl, rfl⟩
  · rcases h9 with ⟨-, rfl, rfl⟩ | ⟨j, hj, rfl, hx, rfl, rfl⟩
    · exact ⟨_, rfl, rfl, n, tx, zJ_26 hJ⟩
    · rcases e1 with e1 | e1
      · rw [vOk_lt hj] at e1; cases e1
      · rw [hx] at e1; cases e1
  · rcases h9 with ⟨e1, rfl, rfl⟩ | ⟨k, hk, e1, -, rfl, rfl⟩
    · rcases e1 with e1 | e1
      · rw [vOk_lt hj] at e1; cases e1
      · rw [hx] at e1; cases e1
    · cases hne hj hk e1
      refine ⟨_, rfl, rfl, n, tx, zJ_row (y := 0) hj rfl hJ (fun q hq => ?_) (fun i hi => va_up_ne _ _ (by omega))⟩
      have hq : q < 1 := hq
      cases (show q = 0 by omega)
      rw [Nat.add_zero, va_up_self, va_up_self]
      exact ⟨rfl, hx⟩
theorem zj_shape {n : Nat} {tx : Nat → Nat} {sc sg sh : Nat → Int32} {el : Nat → Nat → UInt64} {nf : Nat → Nat → Int32} {lr : Nat → Nat → Option Nat} {g : Nat → Int32} {a : Nat → Nat → Int32} {d : Nat → Nat → UInt64} {v x : Int32} {v8 w8 : Option Value} {x1 : XS} {u1 : MS} (hJ : zJ n tx (sc, sg, sh, el, nf, lr) (g, a, d)) (h8 : (fun v9 u9 => ((vOk v = false ∨ zEx x = false) ∧ v9 = some (.int (nI 0)) ∧ u9 = (sc, sg, sh, el, nf, lr)) ∨ ∃ j : Nat, j < 8 ∧ v = nI j ∧ zEx x = true ∧ v9 = some (.int (nI 1)) ∧ u9 = (sc, sg, va_up sh j x, va_up el j (zZ (el j)), nf, lr)) v8 x1) (h9 : (fun v9 u9 => ((vOk v = false ∨ zEx x = false) ∧ v9 = some (.int (nI 0)) ∧ u9 = (va_up g 26 (nI 0), a, d)) ∨ ∃ j9 : Nat, j9 < 8 ∧ v = nI j9 ∧ zEx x = true ∧ v9 = some (.int (nI 1)) ∧ u9 = (va_up g 26 (nI 0), va_up a 2 (va_up (a 2) j9 x), va_up d 3 (zFl (d 3) (24 * j9) 24))) w8 u1) : ∃ r, v8 = some (.int r) ∧ w8 = some (.int r) ∧ ∃ n2 tx2, zJ n2 tx2 x1 u1 := by
  have hne : ∀ {j k : Nat}, j < 8 → k < 8 → nI j = nI k → j = k := fun hj hk h => (nI_eq (by omega) (by omega)).mp h
  rcases h8 with ⟨e1, rfl, rfl⟩ | ⟨j, hj, rfl, hx, rfl, rfl⟩
  · rcases h9 with ⟨-, rfl, rfl⟩ | ⟨j, hj, rfl, hx, rfl, rfl⟩
    · exact ⟨_, rfl, rfl, n, tx, zJ_26 hJ⟩
    · rcases e1 with e1 | e1
      · rw [vOk_lt hj] at e1; cases e1
      · rw [hx] at e1; cases e1
  · rcases h9 with ⟨e1, rfl, rfl⟩ | ⟨k, hk, e1, -, rfl, rfl⟩
    · rcases e1 with e1 | e1
      · rw [vOk_lt hj] at e1; cases e1
      · rw [hx] at e1; cases e1
    · cases hne hj hk e1
      obtain ⟨y, rfl, hy⟩ := zEx_s hx
      refine ⟨_, rfl, rfl, n, tx, zJ_row hj hy hJ (fun q hq => ?_) (fun i hi => ?_)⟩
      · have := (zOk_num hy).2.2.1
        have hq24 : q < 24 := Nat.lt_of_lt_of_le hq this
        unfold zFl zZ
        rw [if_pos (by omega), if_pos hq24]
        exact ⟨rfl, by decide +kernel⟩
      · unfold zFl
        rw [if_neg (by omega)]
theorem zj_set {n : Nat} {tx : Nat → Nat} {sc sg sh : Nat → Int32} {el : Nat → Nat → UInt64} {nf : Nat → Nat → Int32} {lr : Nat → Nat → Option Nat} {g : Nat → Int32} {a : Nat → Nat → Int32} {d : Nat → Nat → UInt64} {v i : Int32} {x : UInt64} {v8 w8 : Option Value} {x1 : XS} {u1 : MS} (hJ : zJ n tx (sc, sg, sh, el, nf, lr) (g, a, d)) (h8 : (fun v9 u9 => ((vOk v = false ∨ (∃ j : Nat, j < 8 ∧ v = nI j ∧ zHas i (zCt (zSN sh j)) = false) ∨ zRg x = false) ∧ v9 = some (.int (nI 0)) ∧ u9 = (sc, sg, sh, el, nf, lr)) ∨ ∃ j i9 : Nat, j < 8 ∧ v = nI j ∧ i9 < zCt (zSN sh j) ∧ i = nI i9 ∧ zRg x = true ∧ v9 = some (.int (nI 1)) ∧ u9 = (sc, sg, sh, va_up el j (va_up (el j) i9 x), nf, lr)) v8 x1) (h9 : (fun v9 u9 => ((vOk v = false ∨ (∃ j : Nat, j < 8 ∧ v = nI j ∧ zHas i (zCt (zSN sh j)) = false) ∨ zRg x = false) ∧ v9 = some (.int (nI 0)) ∧ u9 = (va_up g 26 (nI 0), a, d)) ∨ ∃ j i9 : Nat, j < 8 ∧ v = nI j ∧ i9 < zCt (zSN sh j) ∧ i = nI i9 ∧ zRg x = true ∧ v9 = some (.int (nI 1)) ∧ u9 = (va_up g 26 (nI 0), a, va_up d 3 (va_up (d 3) (24 * j + i9) x))) w8 u1) : ∃ r, v8 = some (.int r) ∧ w8 = some (.int r) ∧ ∃ n2 tx2, zJ n2 tx2 x1 u1 := by
  have hne : ∀ {j k : Nat}, j < 8 → k < 8 → nI j = nI k → j = k := fun hj hk h => (nI_eq (by omega) (by omega)).mp h
  have hvs := zJ_vs hJ
  have hne2 : ∀ {j k l : Nat}, l < 8 → j < zCt (zSN sh l) → k < zCt (zSN sh l) → nI j = nI k → j = k := fun hl hj hk h => by have := (hvs.2.2.2.1 _ hl).2; exact (nI_eq (by show _ < 2 ^ 31; have : zCt (zSN sh _) ≤ 24 := this; omega) (by have : zCt (zSN sh _) ≤ 24 := this; omega)).mp h
  have hno : ∀ {j i9 : Nat}, j < 8 → i9 < zCt (zSN sh j) → zRg x = true → (vOk (nI j) = false ∨ (∃ k : Nat, k < 8 ∧ nI j = nI k ∧ zHas (nI i9) (zCt (zSN sh k)) = false) ∨ zRg x = false) → False := by
    intro j i9 hj hi hx h
    rcases h with h | ⟨k, hk, e1, h⟩ | h
    · rw [vOk_lt hj] at h; cases h
    · cases hne hj hk e1
      have : zCt (zSN sh j) ≤ 24 := (hvs.2.2.2.1 j hj).2
      rw [zHas_lt hi (by omega)] at h; cases h
    · rw [hx] at h; cases h
  rcases h8 with ⟨e1, rfl, rfl⟩ | ⟨j, i9, hj, rfl, hi, rfl, hx, rfl, rfl⟩
  · rcases h9 with ⟨-, rfl, rfl⟩ | ⟨j, i9, hj, rfl, hi, rfl, hx, rfl, rfl⟩
    · exact ⟨_, rfl, rfl, n, tx, zJ_26 hJ⟩
    · exact (hno hj hi hx e1).elim
  · rcases h9 with ⟨e1, rfl, rfl⟩ | ⟨k, k9, hk, e1, hk9, e2, -, rfl, rfl⟩
    · exact (hno hj hi hx e1).elim
    · cases hne hj hk e1
      cases hne2 hj hi hk9 e2
      have h24 : zCt (zSN sh j) ≤ 24 := (hvs.2.2.2.1 j hj).2
      have hsh : va_up sh j (nI (zSN sh j)) = sh := va_up_s ((hvs.1 j hj))
      have ha : va_up a 2 (va_up (a 2) j (nI (zSN sh j))) = a := va_up_s (va_up_s (hvs.2.1 j hj)).symm
      have := zJ_row (y26 := nI 0) (r := va_up (el j) i9 x) (f := va_up (d 3) (24 * j + i9) x) hj (hvs.2.2.2.2 j hj) hJ (fun q hq => ?_) (fun i hi => va_up_ne _ _ (by omega))
      · have this : zJ n tx (sc, sg, va_up sh j (nI (zSN sh j)), _, nf, lr) (_, va_up a 2 (va_up (a 2) j (nI (zSN sh j))), _) := this
        rw [hsh, ha] at this
        exact ⟨_, rfl, rfl, n, tx, this⟩
      · by_cases hq9 : q = i9
        · subst hq9
          rw [va_up_self, va_up_self]
          exact ⟨rfl, hx⟩
        · rw [va_up_ne _ _ hq9, va_up_ne _ _ (by omega)]
          exact hJ.2.1.2.2 j hj q hq
theorem zj_erase {n : Nat} {tx : Nat → Nat} {sc sg sh : Nat → Int32} {el : Nat → Nat → UInt64} {nf : Nat → Nat → Int32} {lr : Nat → Nat → Option Nat} {g : Nat → Int32} {a : Nat → Nat → Int32} {d : Nat → Nat → UInt64}  {v8 w8 : Option Value} {x1 : XS} {u1 : MS} (hJ : zJ n tx (sc, sg, sh, el, nf, lr) (g, a, d)) (h8 : (fun v9 u9 => v9 = some (.int (nI n)) ∧ u9 = (va_up sc 2 (nI 0), sg, sh, el, nf, lr)) v8 x1) (h9 : (fun v9 u9 => v9 = some (.int (nI n)) ∧ u9 = (va_up (va_up g 26 (nI 0)) 1 (nI 0), a, d)) w8 u1) : ∃ r, v8 = some (.int r) ∧ w8 = some (.int r) ∧ ∃ n2 tx2, zJ n2 tx2 x1 u1 := by
  obtain ⟨rfl, rfl⟩ := h8
  obtain ⟨rfl, rfl⟩ := h9
  refine ⟨_, rfl, rfl, 0, tx, ⟨⟨by decide, va_up_self sc 2 (nI 0), va_up_self (va_up g 26 (nI 0)) 1 (nI 0), fun j hj => absurd hj (Nat.not_lt_zero _)⟩, hJ.2.1, ?_, ?_⟩⟩
  · exact (va_up_ne (k := 2) (j := 0) sc (nI 0) (by decide)).trans (((zJ_26 (y := nI 0) hJ).2.2.1).trans (va_up_ne (k := 1) (j := 24) _ (nI 0) (by decide)).symm)
  · exact (va_up_ne (k := 2) (j := 1) sc (nI 0) (by decide)).trans (((zJ_26 (y := nI 0) hJ).2.2.2).trans (va_up_ne (k := 1) (j := 25) _ (nI 0) (by decide)).symm)
theorem zj_write {n : Nat} {tx : Nat → Nat} {sc sg sh : Nat → Int32} {el : Nat → Nat → UInt64} {nf : Nat → Nat → Int32} {lr : Nat → Nat → Option Nat} {g : Nat → Int32} {a : Nat → Nat → Int32} {d : Nat → Nat → UInt64} {x : Int64} {v8 w8 : Option Value} {x1 : XS} {u1 : MS} (hJ : zJ n tx (sc, sg, sh, el, nf, lr) (g, a, d)) (h8 : (fun v9 u9 => (zWr x n = none ∧ v9 = some (.int (-1)) ∧ u9 = (sc, sg, sh, el, nf, lr)) ∨ (∃ cnt : Nat, zWr x n = some cnt ∧ v9 = some (.int (nI cnt)) ∧ u9 = (va_up sc 2 (nI (n + cnt)), zAp sg x n cnt, sh, el, nf, lr))) v8 x1) (h9 : (fun v9 u9 => (zWr x n = none ∧ v9 = some (.int (-1)) ∧ u9 = (va_up g 26 (nI 0), a, d)) ∨ (∃ cnt : Nat, zWr x n = some cnt ∧ v9 = some (.int (nI cnt)) ∧ u9 = (va_up (va_up g 26 (nI 0)) 1 (nI (n + cnt)), va_up a 1 (zAp (a 1) x n cnt), d))) w8 u1) : ∃ r, v8 = some (.int r) ∧ w8 = some (.int r) ∧ ∃ n2 tx2, zJ n2 tx2 x1 u1 := by
  rcases h8 with ⟨e1, rfl, rfl⟩ | ⟨cnt, e1, rfl, rfl⟩
  · rcases h9 with ⟨-, rfl, rfl⟩ | ⟨cnt, e2, rfl, rfl⟩
    · exact ⟨_, rfl, rfl, n, tx, zJ_26 hJ⟩
    · rw [e1] at e2; cases e2
  · rcases h9 with ⟨e2, rfl, rfl⟩ | ⟨c2, e2, rfl, rfl⟩
    · rw [e1] at e2; cases e2
    · cases Option.some.inj (e1.symm.trans e2)
      have hw := zWr_s e1
      refine ⟨_, rfl, rfl, n + cnt, fun i => if n ≤ i ∧ i < n + cnt then zBy x (i - n) else tx i, ⟨⟨hw.1, va_up_self sc 2 (nI (n + cnt)), va_up_self (va_up g 26 (nI 0)) 1 (nI (n + cnt)), fun j hj => ?_⟩, ⟨hJ.2.1.1, fun j hj => ?_, hJ.2.1.2.2⟩, ?_, ?_⟩⟩
      · show zAp sg x n cnt j = _ ∧ va_up a 1 (zAp (a 1) x n cnt) 1 j = _ ∧ 1 ≤ (if n ≤ j ∧ j < n + cnt then zBy x (j - n) else tx j) ∧ (if n ≤ j ∧ j < n + cnt then zBy x (j - n) else tx j) ≤ 127
        rw [va_up_self]
        unfold zAp
        by_cases hq : n ≤ j ∧ j < n + cnt
        · simp only [if_pos hq]
          exact ⟨trivial, trivial, hw.2 _ (by omega)⟩
        · simp only [if_neg hq]
          exact hJ.1.2.2.2 j (by omega)
      · exact (congrFun (va_up_ne (k := 1) (j := 2) a (zAp (a 1) x n cnt) (by decide)) j).trans (hJ.2.1.2.1 j hj)
      · exact (va_up_ne (k := 2) (j := 0) sc (nI (n + cnt)) (by decide)).trans (((zJ_26 (y := nI 0) hJ).2.2.1).trans (va_up_ne (k := 1) (j := 24) _ (nI (n + cnt)) (by decide)).symm)
      · exact (va_up_ne (k := 2) (j := 1) sc (nI (n + cnt)) (by decide)).trans (((zJ_26 (y := nI 0) hJ).2.2.2).trans (va_up_ne (k := 1) (j := 25) _ (nI (n + cnt)) (by decide)).symm)
