/-! one evaluation: it reads no more of a variable than its elements -/
theorem zSf_so {x num : Nat} {sv : Nat → Nat} {sl sr so so2 : Nat} {cl : Bool} {v0 v1 : Nat} (h4 : 4 ≤ x) (h10 : x ≤ 10) : zSf x num sv sl sr so cl v0 v1 = zSf x num sv sl sr so2 cl v0 v1 := by
  unfold zSf
  rcases (show x = 4 ∨ x = 5 ∨ x = 6 ∨ x = 7 ∨ x = 8 ∨ x = 9 ∨ x = 10 by omega) with rfl | rfl | rfl | rfl | rfl | rfl | rfl <;> rfl
theorem zTs_br {sv : Nat → Nat} {n : Nat} {l r : zTr} (h : (zTs sv (.branch n l r)).1 = 0) : (zTs sv r).1 = 0 ∧ (n / 200 < 4 → zTs sv (.branch n l r) = zTs sv r) ∧ (4 ≤ n / 200 → n / 200 < 8 → zTs sv (.branch n l r) = zSf (n / 200) 0 sv 0 (zTs sv r).2 0 false 0 0) ∧ (8 ≤ n / 200 → (zTs sv l).1 = 0 ∧ zTs sv (.branch n l r) = zSf (n / 200) 0 sv (zTs sv l).2 (zTs sv r).2 0 (zCv l).isSome (((zCv l).getD []).getD 0 0) (((zCv l).getD []).getD 1 0)) := by
  rw [zTs] at h ⊢
  by_cases h1 : (zTs sv r).1 ≠ 0
  · rw [if_pos h1] at h; exact absurd h h1
  rw [if_neg h1] at h ⊢
  refine ⟨by omega, fun h2 => by rw [if_pos h2], fun h2 h3 => by rw [if_neg (by omega), if_pos h3], fun h2 => ?_⟩
  rw [if_neg (by omega), if_neg (by omega)] at h ⊢
  by_cases h3 : (zTs sv l).1 ≠ 0
  · rw [if_pos h3] at h; exact absurd h h3
  rw [if_neg h3]
  exact ⟨by omega, rfl⟩
theorem zTs_ok {sv : Nat → Nat} (hsv : ∀ j, j < 8 → zOk (sv j) = true) : ∀ t : zTr, zWf t → (zTs sv t).1 = 0 → zOk (zTs sv t).2 = true := by
  intro t
  induction t with
  | leaf a =>
    intro hw h
    rw [zWf] at hw
    rw [zTs] at h ⊢
    refine zSf_ok (fun h1 => ?_) (fun h1 => ?_) (fun h1 => ?_) ?_ h
    · rcases hw with ⟨_, v, h2, h3⟩ | ⟨h2, _⟩ | ⟨h2, _⟩
      · rw [h2]; exact hsv v h3
      · omega
      · omega
    · rcases hw with ⟨h2, _⟩ | ⟨h2, _⟩ | ⟨h2, _⟩ <;> omega
    · rcases hw with ⟨h2, _⟩ | ⟨h2, _⟩ | ⟨h2, _⟩ <;> omega
    · rcases hw with ⟨_, v, h2, h3⟩ | ⟨_, v, h2, h3⟩ | ⟨h2, h3, h4, _⟩
      · rw [h2]; rfl
      · rw [h2]; rfl
      · exact zOk_cst h3 h4
  | branch n l r ihl ihr =>
    intro hw h
    rw [zWf] at hw
    obtain ⟨h1, h2, h3, h4⟩ := zTs_br h
    have hr := ihr hw.2.2.2.2.1 h1
    by_cases h5 : n / 200 < 4
    · rw [h2 h5]; exact hr
    by_cases h6 : n / 200 < 8
    · have h7 := h3 (by omega) h6
      rw [h7] at h ⊢
      exact zSf_ok (fun q => by omega) (fun q => by omega) (fun _ => hr) rfl h
    · obtain ⟨h7, h8⟩ := h4 (by omega)
      rw [h8] at h ⊢
      exact zSf_ok (fun q => by omega) (fun _ => ihl (hw.2.2.2.2.2 (by omega)) h7) (fun _ => hr) rfl h
theorem zTx_cg {sv : Nat → Nat} {xv yv : Nat → Nat → UInt64} (hsv : ∀ j, j < 8 → zOk (sv j) = true) (hxy : ∀ j, j < 8 → ∀ q, q < zCt (sv j) → xv j q = yv j q) : ∀ t : zTr, zWf t → (zTs sv t).1 = 0 → (∀ q, q < zCt (zTs sv t).2 → zTx sv xv t q = zTx sv yv t q) ∧ (zTg sv xv t → zTg sv yv t) := by
  intro t
  induction t with
  | leaf a =>
    intro hw h
    rw [zWf] at hw
    refine ⟨fun q hq => ?_, fun _ => by rw [zTg]; trivial⟩
    rw [zTx, zTx]
    rcases hw with ⟨h1, v, h2, h3⟩ | ⟨h1, _⟩ | ⟨h1, _⟩
    · rw [zTs, h1, h2] at hq
      rw [h1, h2]
      exact hxy v h3 q hq
    · rw [h1]; rfl
    · rw [h1]; rfl
  | branch n l r ihl ihr =>
    intro hw h
    rw [zWf] at hw
    obtain ⟨h1, h2, h3, h4⟩ := zTs_br h
    have hwr := hw.2.2.2.2.1
    have hr := ihr hwr h1
    have hor := zTs_ok hsv r hwr h1
    have hx9 := hw.1
    by_cases h5 : n / 200 < 4
    · refine ⟨fun q hq => ?_, fun g => ?_⟩
      · rw [zTx, if_pos h5, zTx, if_pos h5]
        exact hr.1 q (by rw [← h2 h5]; exact hq)
      · rw [zTg] at g ⊢
        exact ⟨hr.2 g.1, fun q => by omega, ⟨fun q => by omega, fun q => by omega⟩⟩
    by_cases h6 : n / 200 < 8
    · have h7 := h3 (by omega) h6
      refine ⟨fun q hq => ?_, fun g => ?_⟩
      · rw [zTx, if_neg h5, zTx, if_neg h5]
        rw [zXo_u (sl2 := 0) (gl := fun _ => 0) (wn := fun _ => 0) (own2 := fun _ => 0) (by omega) h6, zXo_u (sl := (zTs sv l).2) (sl2 := 0) (gl := fun _ => 0) (wn := fun _ => 0) (own2 := fun _ => 0) (by omega) h6]
        refine zXo_cg (so := (zTs sv (.branch n l r)).2) (num := 0) (sv := sv) (cl := false) (v0 := 0) (v1 := 0) (by omega) (by omega) (fun q => by omega) (fun _ => hor) ?_ (fun q => by omega) (fun q => by omega) (fun _ => hr.1) (fun q => by omega) q hq
        rw [zSf_so (so2 := 0) (by omega) (by omega), ← h7]
        exact Prod.ext h rfl
      · rw [zTg] at g ⊢
        refine ⟨hr.2 g.1, fun q => by omega, zRo_u (sl := (zTs sv l).2) (so := (zTs sv (.branch n l r)).2) (fl := zTx sv xv l) (by omega) (zRo_cg (fun q => by omega) (fun _ => hr.1) (fun q => by omega) (fun q => by omega) (fun _ => hor) g.2.2)⟩
    · obtain ⟨h7, h8⟩ := h4 (by omega)
      have hwl := hw.2.2.2.2.2 (by omega)
      have hl := ihl hwl h7
      have hol := zTs_ok hsv l hwl h7
      have hsf : zSf (n / 200) 0 sv (zTs sv l).2 (zTs sv r).2 (zTs sv (.branch n l r)).2 (zCv l).isSome (((zCv l).getD []).getD 0 0) (((zCv l).getD []).getD 1 0) = (0, (zTs sv (.branch n l r)).2) := by
        rw [zSf_so (so2 := 0) (by omega) (by omega), ← h8]
        exact Prod.ext h rfl
      refine ⟨fun q hq => ?_, fun g => ?_⟩
      · rw [zTx, if_neg h5, zTx, if_neg h5]
        exact zXo_cg (so := (zTs sv (.branch n l r)).2) (by omega) (by omega) (fun _ => hol) (fun _ => hor) hsf (fun q => by omega) (fun _ => hl.1) (fun _ => hr.1) (fun q => by omega) q hq
      · rw [zTg] at g ⊢
        refine ⟨hr.2 g.1, fun q => hl.2 (g.2.1 q), zRo_cg (fun _ => hl.1) (fun _ => hr.1) (fun q => ?_) (fun _ => hol) (fun _ => hor) g.2.2⟩
        rw [q] at hsf
        exact hsf
/-! the class and the reference side by side -/
def zJ (n : Nat) (tx : Nat → Nat) (x : XS) (u : MS) : Prop :=
  (n ≤ 40 ∧ x.1 2 = nI n ∧ u.1 1 = nI n ∧ ∀ j, j < n → x.2.1 j = nI (tx j) ∧ u.2.1 1 j = nI (tx j) ∧ 1 ≤ tx j ∧ tx j ≤ 127) ∧
  (zSo x.2.2.1 ∧ (∀ j, j < 8 → u.2.1 2 j = x.2.2.1 j) ∧ ∀ j, j < 8 → ∀ q, q < zCt (zSN x.2.2.1 j) → u.2.2 3 (24 * j + q) = x.2.2.2.1 j q ∧ zRg (x.2.2.2.1 j q) = true) ∧ x.1 0 = u.1 24 ∧ x.1 1 = u.1 25
section ZJ
variable {n : Nat} {tx : Nat → Nat} {sc sg sh : Nat → Int32} {el : Nat → Nat → UInt64} {nf : Nat → Nat → Int32} {lr : Nat → Nat → Option Nat} {g : Nat → Int32} {a : Nat → Nat → Int32} {d : Nat → Nat → UInt64}
theorem zJ_26 {x : XS} {y : Int32} (h : zJ n tx x (g, a, d)) : zJ n tx x (va_up g 26 y, a, d) := ⟨⟨h.1.1, h.1.2.1, (va_up_ne (k := 26) (j := 1) g y (by decide)).trans h.1.2.2.1, h.1.2.2.2⟩, h.2.1, h.2.2.1.trans (va_up_ne (k := 26) (j := 24) g y (by decide)).symm, h.2.2.2.trans (va_up_ne (k := 26) (j := 25) g y (by decide)).symm⟩
theorem zJ_vs {x : XS} {u : MS} (h : zJ n tx x u) : (∀ j, j < 8 → x.2.2.1 j = nI (zSN x.2.2.1 j)) ∧ (∀ j, j < 8 → u.2.1 2 j = nI (zSN x.2.2.1 j)) ∧ (∀ j, j < 8 → zSN x.2.2.1 j < 2 ^ 20) ∧ (∀ j, j < 8 → 1 ≤ zCt (zSN x.2.2.1 j) ∧ zCt (zSN x.2.2.1 j) ≤ 24) ∧ ∀ j, j < 8 → zOk (zSN x.2.2.1 j) = true := by
  have h1 : ∀ j, j < 8 → x.2.2.1 j = nI (zSN x.2.2.1 j) := fun j hj => (h.2.1.1 j (by omega)).1
  have h2 : ∀ j, j < 8 → zOk (zSN x.2.2.1 j) = true := fun j hj => (h.2.1.1 j (by omega)).2
  exact ⟨h1, fun j hj => (h.2.1.2.1 j hj).trans (h1 j hj), fun j hj => by have := (zOk_num (h2 j hj)).1; omega, fun j hj => ⟨(zOk_num (h2 j hj)).2.1, (zOk_num (h2 j hj)).2.2.1⟩, h2⟩
theorem vOk_lt {j : Nat} (h : j < 8) : vOk (nI j) = true := by
  unfold vOk
  exact decide_eq_true ⟨nI_pos' (by omega), nI_lt h (by decide)⟩
theorem zHas_lt {i n : Nat} (h : i < n) (hn : n < 2 ^ 31) : zHas (nI i) n = true := by
  unfold zHas
  exact decide_eq_true ⟨nI_pos' (by omega), nI_lt h hn⟩
theorem zEx_s {x : Int32} (h : zEx x = true) : ∃ y : Nat, x = nI y ∧ zOk y = true := by
  unfold zEx at h
  split at h
  · cases h
  · rename_i q
    obtain ⟨y, hy, rfl⟩ := nI_of (x := x) (fun z => q (Or.inl z))
    rw [nI_clamp hy] at h
    exact ⟨y, rfl, h⟩
theorem zWr_s {x : Int64} {n c : Nat} (h : zWr x n = some c) : n + c ≤ 40 ∧ ∀ i, i < c → 1 ≤ zBy x i ∧ zBy x i ≤ 127 := by
  unfold zWr at h
  split at h
  · cases h
  · rename_i k hk
    split at h
    · cases h
      exact ⟨by assumption, fun i hi => (zCn_ok 8 0 c hk).2.2 i (Nat.zero_le _) hi⟩
    · cases h
/-- a variable's row is laid anew -/
theorem zJ_row {j y : Nat} {r : Nat → UInt64} {f : Nat → UInt64} {y26 : Int32} (hj : j < 8) (hy : zOk y = true) (h : zJ n tx (sc, sg, sh, el, nf, lr) (g, a, d)) (h1 : ∀ q, q < zCt y → f (24 * j + q) = r q ∧ zRg (r q) = true) (h2 : ∀ i, (i < 24 * j ∨ 24 * j + 24 ≤ i) → f i = d 3 i) : zJ n tx (sc, sg, va_up sh j (nI y), va_up el j r, nf, lr) (va_up g 26 y26, va_up a 2 (va_up (a 2) j (nI y)), va_up d 3 f) := by
  have h26 := zJ_26 (y := y26) h
  have hvs := zJ_vs h
  refine ⟨⟨h.1.1, h.1.2.1, h26.1.2.2.1, fun i hi => ?_⟩, ⟨zSo_up h.2.1.1 hy, fun i hi => ?_, fun i hi q hq => ?_⟩, h26.2.2⟩
  · have := h.1.2.2.2 i hi
    exact ⟨this.1, (congrFun (va_up_ne (k := 2) (j := 1) a (va_up (a 2) j (nI y)) (by decide)) i).trans this.2.1, this.2.2⟩
  · show va_up a 2 (va_up (a 2) j (nI y)) 2 i = va_up sh j (nI y) i
    rw [va_up_self]
    unfold va_up
    by_cases hij : i = j
    · rw [if_pos hij, if_pos hij]
    · rw [if_neg hij, if_neg hij]; exact h.2.1.2.1 i hi
  · show va_up d 3 f 3 (24 * i + q) = va_up el j r i q ∧ zRg (va_up el j r i q) = true
    have hq : q < zCt (zSN (va_up sh j (nI y)) i) := hq
    rw [va_up_self]
    by_cases hij : i = j
    · subst hij
      rw [va_up_self]
      have e1 : zSN (va_up sh i (nI y)) i = y := by unfold zSN; rw [va_up_self, nI_clamp (by have := (zOk_num hy).1; omega)]
      rw [e1] at hq
      exact h1 q hq
    · rw [va_up_ne _ _ hij]
      have e1 : zSN (va_up sh j (nI y)) i = zSN sh i := by unfold zSN; rw [va_up_ne _ _ hij]
      rw [e1] at hq
      have h24 := (hvs.2.2.2.1 i hi).2
      have hq24 : q < 24 := Nat.lt_of_lt_of_le hq h24
      rw [h2 _ (by omega)]
      exact h.2.1.2.2 i hi q hq
end ZJ
