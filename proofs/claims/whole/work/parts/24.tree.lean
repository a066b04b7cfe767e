/-! the reading of a text, as a tree: a leaf holds its kind (1 name, 2 constant, 3 count) and its numbers; a branch holds 200 times its kind and its sign (kind 0: a part alone, 1: parentheses, 4 .. 7 fronts, 8 .. 10 signs) -/
abbrev zTr : Type := Lean.RArray (Nat × List Nat)
def zD0 : zTr := .leaf (0, [])
def zDr (c : Nat → Nat) : Nat → Nat → Nat
  | 0, _ => 0
  | k + 1, q => if zDg (c q) = true then 1 + zDr c k (q + 1) else 0
def zNm (c : Nat → Nat) (q : Nat) : Nat → Nat
  | 0 => 0
  | d + 1 => zNm c q d * 10 + (c (q + d) - 48)
/-- behind a number of a constant -/
def zCr (c : Nat → Nat) : Nat → Nat → Option (Nat × List Nat)
  | 0, p => if c p = 32 then none else some (p, [])
  | f + 1, p => if c p = 32 then (if zDr c 4 (p + 1) = 0 then none else match zCr c f (p + 1 + zDr c 4 (p + 1)) with
      | none => none
      | some r => some (r.1, zNm c (p + 1) (zDr c 4 (p + 1)) :: r.2)) else some (p, [])
def zC (c : Nat → Nat) (q : Nat) : Option (Nat × List Nat) := if zDr c 4 q = 0 then none else match zCr c 23 (q + zDr c 4 q) with
  | none => none
  | some r => some (r.1, zNm c q (zDr c 4 q) :: r.2)
def zLf (c : Nat → Nat) (q : Nat) : Option (Nat × zTr) :=
  if 97 ≤ c q ∧ c q ≤ 104 then some (q + 1, .leaf (1, [c q - 97]))
  else if c q = 105 then (if zDr c 4 (q + 1) = 0 then none else some (q + 1 + zDr c 4 (q + 1), .leaf (3, [zNm c (q + 1) (zDr c 4 (q + 1))])))
  else match zC c q with
    | none => none
    | some r => some (r.1, .leaf (2, r.2))
def zPt (c : Nat → Nat) (g : Nat → Option (Nat × zTr)) (q : Nat) : Option (Nat × zTr) :=
  if c q = 40 then match g (q + 1) with
    | none => none
    | some r => if c r.1 = 41 then some (r.1 + 1, .branch 200 zD0 r.2) else none
  else zLf c q
def zE (c : Nat → Nat) : Nat → Nat → Option (Nat × zTr)
  | 0, _ => none
  | f + 1, q =>
    if zFk (c q) ≠ 0 then
      (if zFk (c q) = 6 ∨ zFk (c q) = 7 then
        (if zRd (c (q + 1)) = true then match zE c f (q + 2) with
          | none => none
          | some r => some (r.1, .branch (zFk (c q) * 200 + c (q + 1)) zD0 r.2)
        else none)
      else match zE c f (q + 1) with
        | none => none
        | some r => some (r.1, .branch (zFk (c q) * 200) zD0 r.2))
    else match zPt c (zE c f) q with
      | none => none
      | some w => if zSk (c w.1) = 0 then some (w.1, .branch 0 zD0 w.2) else match zE c f (w.1 + 1) with
        | none => none
        | some r => some (r.1, .branch (zSk (c w.1) * 200 + c w.1) w.2 r.2)
/-- how many nodes a tree takes -/
def zNN : zTr → Nat
  | .leaf _ => 1
  | .branch n l r => if n / 200 = 1 then zNN r else if n / 200 < 8 then 1 + zNN r else 1 + zNN l + zNN r
/-- the nodes from b on are the tree, with the root r -/
def zRp (kd sgn num l9 r9 : Nat → Nat) (s : Nat → Nat) (w : Nat → Nat → Nat) : zTr → Nat → Nat → Prop
  | .leaf a, b, r => r = b ∧ kd b = a.1 ∧ ((a.1 = 1 ∧ a.2 = [num b] ∧ num b < 8) ∨ (a.1 = 3 ∧ a.2 = [num b]) ∨ (a.1 = 2 ∧ 1 ≤ a.2.length ∧ a.2.length ≤ 24 ∧ s (8 + b) = (if a.2.length = 1 then 0 else a.2.length) ∧ ∀ i, i < a.2.length → w b i = a.2.getD i 0))
  | .branch n l t, b, r => if n / 200 = 1 then zRp kd sgn num l9 r9 s w t b r else kd b = n / 200 ∧ (if n / 200 = 0 then zRp kd sgn num l9 r9 s w t (b + 1) r else r = b ∧ sgn b = n % 200 ∧ zRp kd sgn num l9 r9 s w t (b + 1 + (if n / 200 < 8 then 0 else zNN l)) (r9 b) ∧ (8 ≤ n / 200 → zRp kd sgn num l9 r9 s w l (b + 1) (l9 b)))
theorem zNN_pos (t : zTr) : 1 ≤ zNN t := by
  induction t with
  | leaf a => exact Nat.le_refl _
  | branch n l r ihl ihr =>
    rw [zNN]
    split
    · exact ihr
    · split <;> omega
theorem zRp_cg {kd sgn num l9 r9 : Nat → Nat} {s : Nat → Nat} {w : Nat → Nat → Nat} {kd2 sgn2 num2 l2 r2 : Nat → Nat} {s2 : Nat → Nat} {w2 : Nat → Nat → Nat} : ∀ (t : zTr) (b r : Nat), (∀ k, b ≤ k → k < b + zNN t → kd2 k = kd k ∧ sgn2 k = sgn k ∧ num2 k = num k ∧ l2 k = l9 k ∧ r2 k = r9 k ∧ s2 (8 + k) = s (8 + k) ∧ w2 k = w k) → zRp kd sgn num l9 r9 s w t b r → zRp kd2 sgn2 num2 l2 r2 s2 w2 t b r := by
  intro t
  induction t with
  | leaf a =>
    intro b r hag h
    obtain ⟨g1, g2, g3, g4, g5, g6, g7⟩ := hag b (Nat.le_refl _) (Nat.lt_succ_self _)
    rw [zRp] at h ⊢
    rw [g1, g3, g6, g7]
    exact h
  | branch n l t ihl iht =>
    intro b r hag h
    rw [zRp] at h ⊢
    rw [zNN] at hag
    by_cases h1 : n / 200 = 1
    · rw [if_pos h1] at h hag ⊢
      exact iht b r hag h
    · rw [if_neg h1] at h hag ⊢
      have hb : b < b + (if n / 200 < 8 then 1 + zNN t else 1 + zNN l + zNN t) := by split <;> omega
      obtain ⟨g1, g2, g3, g4, g5, g6, g7⟩ := hag b (Nat.le_refl _) hb
      refine ⟨by rw [g1]; exact h.1, ?_⟩
      by_cases h2 : n / 200 = 0
      · have h := h.2
        rw [if_pos h2] at h ⊢
        exact iht (b + 1) r (fun k k1 k2 => hag k (by omega) (by rw [if_pos (by omega)]; omega)) h
      · have h := h.2
        rw [if_neg h2] at h ⊢
        obtain ⟨e1, e2, e3, e4⟩ := h
        refine ⟨e1, by rw [g2]; exact e2, ?_, fun h8 => ?_⟩
        · rw [g5]
          refine iht _ _ (fun k k1 k2 => hag k (by split at k1 <;> omega) ?_) e3
          by_cases h8 : n / 200 < 8
          · rw [if_pos h8]; rw [if_pos h8] at k2; omega
          · rw [if_neg h8]; rw [if_neg h8] at k2; omega
        · rw [g4]
          exact ihl _ _ (fun k k1 k2 => hag k (by omega) (by rw [if_neg (by omega)]; omega)) (e4 h8)
/-- a root is among the nodes, and not empty -/
theorem zRp_root {kd sgn num l9 r9 : Nat → Nat} {s : Nat → Nat} {w : Nat → Nat → Nat} : ∀ (t : zTr) (b r : Nat), zRp kd sgn num l9 r9 s w t b r → b ≤ r ∧ r < b + zNN t ∧ kd r ≠ 0 := by
  intro t
  induction t with
  | leaf a =>
    intro b r h
    rw [zRp] at h
    obtain ⟨rfl, h2, h3⟩ := h
    refine ⟨Nat.le_refl _, Nat.lt_succ_self _, ?_⟩
    rw [h2]
    rcases h3 with h3 | h3 | h3 <;> omega
  | branch n l t ihl iht =>
    intro b r h
    rw [zRp] at h
    rw [zNN]
    by_cases h1 : n / 200 = 1
    · rw [if_pos h1] at h ⊢
      exact iht b r h
    · rw [if_neg h1] at h ⊢
      obtain ⟨g1, h⟩ := h
      by_cases h2 : n / 200 = 0
      · rw [if_pos h2] at h
        rw [if_pos (by omega)]
        obtain ⟨a1, a2, a3⟩ := iht _ _ h
        exact ⟨by omega, by omega, a3⟩
      · rw [if_neg h2] at h
        obtain ⟨rfl, -⟩ := h
        exact ⟨Nat.le_refl _, by split <;> omega, by rw [g1]; exact h2⟩
/-! digits -/
theorem zDr_le (c : Nat → Nat) : ∀ k q, zDr c k q ≤ k := by
  intro k
  induction k with
  | zero => exact fun _ => Nat.le_refl _
  | succ k ih =>
    intro q
    rw [zDr]
    split
    · have := ih (q + 1); omega
    · omega
theorem zDr_dg (c : Nat → Nat) : ∀ k q i, i < zDr c k q → zDg (c (q + i)) = true := by
  intro k
  induction k with
  | zero => exact fun _ i h => absurd h (Nat.not_lt_zero _)
  | succ k ih =>
    intro q i h
    rw [zDr] at h
    split at h
    · cases i with
      | zero => assumption
      | succ i =>
        have := ih (q + 1) i (by omega)
        rw [show q + 1 + i = q + (i + 1) by omega] at this
        exact this
    · exact absurd h (Nat.not_lt_zero _)
theorem zDr_end (c : Nat → Nat) : ∀ k q, zDr c k q < k → zDg (c (q + zDr c k q)) = false := by
  intro k
  induction k with
  | zero => exact fun _ h => absurd h (Nat.not_lt_zero _)
  | succ k ih =>
    intro q h
    rw [zDr] at h ⊢
    by_cases hd : zDg (c q) = true
    · rw [if_pos hd] at h ⊢
      have := ih (q + 1) (by omega)
      rw [show q + 1 + zDr c k (q + 1) = q + (1 + zDr c k (q + 1)) by omega] at this
      exact this
    · rw [if_neg hd]
      rw [Nat.add_zero]
      exact Bool.eq_false_iff.mpr hd
theorem zDg_iff {ch : Nat} : zDg ch = true ↔ 48 ≤ ch ∧ ch ≤ 57 := by unfold zDg; exact decide_eq_true_iff
theorem zNm_lt {c : Nat → Nat} {q : Nat} : ∀ d, (∀ i, i < d → zDg (c (q + i)) = true) → zNm c q d < 10 ^ d := by
  intro d
  induction d with
  | zero => exact fun _ => (by show 0 < 1; decide)
  | succ d ih =>
    intro h
    have h1 := ih (fun i hi => h i (by omega))
    have h2 := zDg_iff.mp (h d (Nat.lt_succ_self _))
    rw [zNm, Nat.pow_succ]
    omega
theorem zNm_4 {c : Nat → Nat} {q : Nat} : zNm c q (zDr c 4 q) < 10000 := by
  have h1 := zNm_lt (c := c) (q := q) (zDr c 4 q) (fun i hi => zDr_dg c 4 q i hi)
  have h2 := zDr_le c 4 q
  calc zNm c q (zDr c 4 q) < 10 ^ (zDr c 4 q) := h1
    _ ≤ 10 ^ 4 := Nat.pow_le_pow_right (by decide) h2
/-- digits stand within the text -/
theorem zDr_in {tx : Nat → Nat} {n q k : Nat} (hq : q ≤ n) : q + zDr (zCh tx n) k q ≤ n := by
  by_cases h : zDr (zCh tx n) k q = 0
  · omega
  · have h1 := zDr_dg (zCh tx n) k q (zDr (zCh tx n) k q - 1) (by omega)
    have h2 := zDg_iff.mp h1
    have h3 := zCh_pos (tx := tx) (n := n) (q := q + (zDr (zCh tx n) k q - 1)) (by omega)
    omega
