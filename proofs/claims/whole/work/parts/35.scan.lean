/-! the cutting finds the same tree -/
def zTl : zTr → Nat
  | .leaf _ => 1
  | .branch n l r => if n / 200 = 0 then zTl r else if n / 200 = 1 then zTl r + 2 else if n / 200 < 8 then zTl r + 1 else zTl l + 1 + zTl r
def zNl : zTr → Nat
  | .leaf a => if a.1 = 1 then 0 else a.2.length
  | .branch n l r => if n / 200 < 8 then zNl r else zNl l + zNl r
/-- the symbols of a tree, from t on, with its numbers from u on -/
def zTo (a : Nat → Nat → Int32) : zTr → Nat → Nat → Prop
  | .leaf x, t, u => a 4 t = nI x.1 ∧ (x.1 = 1 → a 5 t = nI (x.2.getD 0 0)) ∧ (x.1 ≠ 1 → a 5 t = nI u ∧ ∀ i, i < x.2.length → a 7 (u + i) = nI (x.2.getD i 0)) ∧ (x.1 = 2 → a 6 t = nI x.2.length)
  | .branch n l r, t, u => if n / 200 = 0 then zTo a r t u else if n / 200 = 1 then a 4 t = nI 4 ∧ zTo a r (t + 1) u ∧ a 4 (t + 1 + zTl r) = nI 5 else if n / 200 < 8 then a 4 t = nI (if n / 200 = 6 then 8 else if n / 200 = 7 then 9 else 7) ∧ a 5 t = nI (if n / 200 = 4 then 45 else if n / 200 = 5 then 126 else n % 200) ∧ zTo a r (t + 1) u else zTo a l t u ∧ a 4 (t + zTl l) = nI 6 ∧ a 5 (t + zTl l) = nI (n % 200) ∧ zTo a r (t + zTl l + 1) (u + zNl l)
/-- the same symbols below s and numbers below u -/
def zBe (s u : Nat) (a b : Nat → Nat → Int32) : Prop := (∀ j, j < s → b 4 j = a 4 j ∧ b 5 j = a 5 j ∧ b 6 j = a 6 j) ∧ ∀ j, j < u → b 7 j = a 7 j
theorem zBe.rf (s u : Nat) (a : Nat → Nat → Int32) : zBe s u a a := ⟨fun _ _ => ⟨rfl, rfl, rfl⟩, fun _ _ => rfl⟩
theorem zBe.tr {s u s2 u2 : Nat} {a b c : Nat → Nat → Int32} (h : zBe s u a b) (hs : s ≤ s2) (hu : u ≤ u2) (k : zBe s2 u2 b c) : zBe s u a c :=
  ⟨fun j hj => ⟨((k.1 j (by omega)).1).trans (h.1 j hj).1, ((k.1 j (by omega)).2.1).trans (h.1 j hj).2.1, ((k.1 j (by omega)).2.2).trans (h.1 j hj).2.2⟩, fun j hj => (k.2 j (by omega)).trans (h.2 j hj)⟩
theorem zKp_at {a : Nat → Nat → Int32} {i : Nat} {x y z : Int32} : zKp a i x y z 4 i = x ∧ zKp a i x y z 5 i = y ∧ zKp a i x y z 6 i = z ∧ zKp a i x y z 7 = a 7 := by
  unfold zKp
  refine ⟨?_, ?_, ?_, ?_⟩
  · rw [va_up_ne _ _ (by decide), va_up_ne _ _ (by decide), va_up_self, va_up_self]
  · rw [va_up_ne _ _ (by decide), va_up_self, va_up_self]
  · rw [va_up_self, va_up_self]
  · rw [va_up_ne _ _ (by decide), va_up_ne _ _ (by decide), va_up_ne _ _ (by decide)]
theorem zKp_be {a : Nat → Nat → Int32} {i u : Nat} {x y z : Int32} : zBe i u a (zKp a i x y z) := by
  refine ⟨fun j hj => ?_, fun j _ => by rw [zKp_at.2.2.2]⟩
  unfold zKp
  refine ⟨?_, ?_, ?_⟩
  · rw [va_up_ne _ _ (by decide), va_up_ne _ _ (by decide), va_up_self, va_up_ne _ _ (by omega)]
  · rw [va_up_ne _ _ (by decide), va_up_self, va_up_ne _ _ (by omega)]
  · rw [va_up_self, va_up_ne _ _ (by omega)]
theorem zTo_cg {a b : Nat → Nat → Int32} : ∀ (x : zTr) (t u : Nat), (∀ j, t ≤ j → j < t + zTl x → b 4 j = a 4 j ∧ b 5 j = a 5 j ∧ b 6 j = a 6 j) → (∀ j, u ≤ j → j < u + zNl x → b 7 j = a 7 j) → zTo a x t u → zTo b x t u := by
  intro x
  induction x with
  | leaf y =>
    intro t u h1 h2 h
    rw [zTo] at h ⊢
    rw [zTl] at h1
    rw [zNl] at h2
    obtain ⟨g1, g2, g3⟩ := h1 t (Nat.le_refl _) (by omega)
    rw [g1, g2, g3]
    refine ⟨h.1, h.2.1, fun q => ?_, h.2.2.2⟩
    rw [if_neg q] at h2
    exact ⟨(h.2.2.1 q).1, fun i hi => by rw [h2 _ (by omega) (by omega)]; exact (h.2.2.1 q).2 i hi⟩
  | branch n l r ihl ihr =>
    intro t u h1 h2 h
    rw [zTo] at h ⊢
    rw [zTl] at h1
    rw [zNl] at h2
    by_cases c0 : n / 200 = 0
    · rw [if_pos c0] at h h1 ⊢
      rw [if_pos (by omega)] at h2
      exact ihr t u h1 h2 h
    rw [if_neg c0] at h h1 ⊢
    by_cases c1 : n / 200 = 1
    · rw [if_pos c1] at h h1 ⊢
      rw [if_pos (by omega)] at h2
      rw [(h1 t (by omega) (by omega)).1, (h1 (t + 1 + zTl r) (by omega) (by omega)).1]
      exact ⟨h.1, ihr _ _ (fun j j1 j2 => h1 j (by omega) (by omega)) h2 h.2.1, h.2.2⟩
    rw [if_neg c1] at h h1 ⊢
    by_cases c8 : n / 200 < 8
    · rw [if_pos c8] at h h1 h2 ⊢
      rw [(h1 t (by omega) (by omega)).1, (h1 t (by omega) (by omega)).2.1]
      exact ⟨h.1, h.2.1, ihr _ _ (fun j j1 j2 => h1 j (by omega) (by omega)) h2 h.2.2⟩
    · rw [if_neg c8] at h h1 h2 ⊢
      rw [(h1 (t + zTl l) (by omega) (by omega)).1, (h1 (t + zTl l) (by omega) (by omega)).2.1]
      exact ⟨ihl _ _ (fun j j1 j2 => h1 j (by omega) (by omega)) (fun j j1 j2 => h2 j (by omega) (by omega)) h.1, h.2.1, h.2.2.1, ihr _ _ (fun j j1 j2 => h1 j (by omega) (by omega)) (fun j j1 j2 => h2 j (by omega) (by omega)) h.2.2.2⟩
theorem zSgn_k {c : Nat} : zSgn c = true ↔ zSk c ≠ 0 := by
  unfold zSgn zSk
  rw [decide_eq_true_iff]
  constructor
  · rintro (h | h | h | h | h | h | h | h | h | h) <;> subst h <;> decide
  · intro h
    (repeat' split at h) <;> omega
theorem zSgn_f {c : Nat} : zSgn c = false ↔ zSk c = 0 := by
  constructor
  · intro h
    exact Decidable.not_not.mp (fun q => by rw [zSgn_k.mpr q] at h; cases h)
  · intro h
    exact Bool.eq_false_iff.mpr (fun q => zSgn_k.mp q h)
theorem zSgn_dg {c : Nat} (h : zDg c = true) : zSgn c = false ∧ c ≠ 41 := by
  have := zDg_iff.mp h
  refine ⟨?_, by omega⟩
  unfold zSgn
  rw [decide_eq_false_iff_not]
  omega
theorem zFk_v {c : Nat} : (zFk c = 4 ↔ c = 45) ∧ (zFk c = 5 ↔ c = 126) ∧ (zFk c = 6 ↔ c = 47) ∧ (zFk c = 7 ↔ c = 92) := by
  unfold zFk
  refine ⟨?_, ?_, ?_, ?_⟩ <;> constructor <;> intro h
  all_goals first | (subst h; decide) | ((repeat' split at h) <;> omega)
/-- both read a constant alike -/
theorem zMd_C {c : Nat → Nat} {n : Nat} (h0 : ∀ i, n ≤ i → c i = 0) : ∀ f g e, n < e + 2 * f → n < e + 2 * g →
    (zMd c f e = none → zCr c g e = none ∨ ∃ q2 vs, zCr c g e = some (q2, vs) ∧ zDg (c q2) = true ∧ e < q2) ∧
    (∀ q2 vs, zMd c f e = some (q2, vs) → e ≤ q2 ∧ ((c q2 = 32 ∧ zCr c g e = none) ∨ (c q2 ≠ 32 ∧ zCr c g e = some (q2, vs)))) := by
  intro f
  induction f with
  | zero =>
    intro g e h1 h2
    have hc : c e = 0 := h0 e (by omega)
    refine ⟨(fun h => by cases h), fun q2 vs h => ?_⟩
    cases h
    exact ⟨Nat.le_refl _, Or.inr ⟨by omega, zCr_e (by omega)⟩⟩
  | succ f ih =>
    intro g e h1 h2
    by_cases hc : c e = 32
    · have he : e < n := Nat.lt_of_not_le (fun q => by have := h0 e q; omega)
      obtain ⟨g, rfl⟩ : ∃ g2, g = g2 + 1 := ⟨g - 1, by omega⟩
      by_cases hd : zDg (c (e + 1)) = true
      · have hp4 : zDr c 4 (e + 1) ≠ 0 := zDr_pos (k := 3) hd
        have hp5 : zDr c 5 (e + 1) ≠ 0 := zDr_pos (k := 4) hd
        rw [zMd, if_pos ⟨hc, hd⟩, zCr, if_pos hc, if_neg hp4]
        by_cases h5 : zDr c 5 (e + 1) = 5
        · rw [if_pos h5]
          refine ⟨fun _ => ?_, fun q2 vs h => by cases h⟩
          have hz := zDr_5 h5
          rw [hz.1]
          have hx : c (e + 1 + 4) ≠ 32 := by have := zDg_iff.mp hz.2; omega
          rw [zCr_e hx]
          exact Or.inr ⟨_, _, rfl, hz.2, by omega⟩
        · rw [if_neg h5, zDr_45 h5]
          have key := ih g (e + 1 + zDr c 5 (e + 1)) (by omega) (by omega)
          rcases hm : zMd c f (e + 1 + zDr c 5 (e + 1)) with _ | ⟨q2, vs⟩
          · refine ⟨fun _ => ?_, fun q2 vs h => by cases h⟩
            rcases key.1 hm with k | ⟨q3, v3, k1, k2, k3⟩
            · rw [k]; exact Or.inl rfl
            · rw [k1]; exact Or.inr ⟨_, _, rfl, k2, by omega⟩
          · refine ⟨(fun h => by cases h), fun q3 v3 h => ?_⟩
            cases h
            obtain ⟨k0, k⟩ := key.2 q2 vs hm
            refine ⟨by show e ≤ q2; omega, ?_⟩
            rcases k with ⟨k1, k2⟩ | ⟨k1, k2⟩
            · rw [k2]; exact Or.inl ⟨k1, rfl⟩
            · rw [k2]; exact Or.inr ⟨k1, rfl⟩
      · rw [zMd_e (fun q => hd q.2)]
        refine ⟨(fun h => by cases h), fun q2 vs h => ?_⟩
        cases h
        refine ⟨Nat.le_refl _, Or.inl ⟨hc, ?_⟩⟩
        rw [zCr, if_pos hc, if_pos (zDr_x (Bool.eq_false_iff.mpr hd))]
    · rw [zMd_e (fun q => hc q.1), zCr_e hc]
      refine ⟨(fun h => by cases h), fun q2 vs h => ?_⟩
      cases h
      exact ⟨Nat.le_refl _, Or.inr ⟨hc, rfl⟩⟩
theorem zMc_C {c : Nat → Nat} {n : Nat} (h0 : ∀ i, n ≤ i → c i = 0) (hn : n ≤ 40) {i : Nat} (hd : zDg (c i) = true) :
    (zMc c i = none → zC c i = none ∨ ∃ q2 vs, zC c i = some (q2, vs) ∧ zDg (c q2) = true ∧ i < q2) ∧
    (∀ q2 vs, zMc c i = some (q2, vs) → i < q2 ∧ ((c q2 = 32 ∧ zC c i = none) ∨ (c q2 ≠ 32 ∧ zC c i = some (q2, vs)))) := by
  have hp4 : zDr c 4 i ≠ 0 := zDr_pos (k := 3) hd
  have hp5 : zDr c 5 i ≠ 0 := zDr_pos (k := 4) hd
  rw [zC_0 hp4]
  unfold zMc
  by_cases h5 : zDr c 5 i = 5
  · rw [if_pos h5]
    refine ⟨fun _ => ?_, fun q2 vs h => by cases h⟩
    have hz := zDr_5 h5
    rw [hz.1]
    have hx : c (i + 4) ≠ 32 := by have := zDg_iff.mp hz.2; omega
    rw [zCr_e hx]
    exact Or.inr ⟨_, _, rfl, hz.2, by omega⟩
  · rw [if_neg h5, zDr_45 h5]
    have key := zMd_C h0 24 23 (i + zDr c 5 i) (by omega) (by omega)
    rcases hm : zMd c 24 (i + zDr c 5 i) with _ | ⟨q2, vs⟩
    · refine ⟨fun _ => ?_, fun q2 vs h => by cases h⟩
      rcases key.1 hm with k | ⟨q3, v3, k1, k2, k3⟩
      · rw [k]; exact Or.inl rfl
      · rw [k1]; exact Or.inr ⟨_, _, rfl, k2, by omega⟩
    · refine ⟨(fun h => by cases h), fun q3 v3 h => ?_⟩
      cases h
      obtain ⟨k0, k⟩ := key.2 q2 vs hm
      refine ⟨by show i < q2; omega, ?_⟩
      rcases k with ⟨k1, k2⟩ | ⟨k1, k2⟩
      · rw [k2]; exact Or.inl ⟨k1, rfl⟩
      · rw [k2]; exact Or.inr ⟨k1, rfl⟩
theorem zMd_in {c : Nat → Nat} {n : Nat} (h0 : ∀ i, n ≤ i → c i = 0) : ∀ f e q2 vs, e ≤ n → zMd c f e = some (q2, vs) → q2 ≤ n := by
  intro f
  induction f with
  | zero => intro e q2 vs he h; cases h; exact he
  | succ f ih =>
    intro e q2 vs he h
    rw [zMd] at h
    split at h
    · rename_i hc
      split at h
      · cases h
      · rcases hm : zMd c f (e + 1 + zDr c 5 (e + 1)) with _ | ⟨q3, v3⟩
        · rw [hm] at h; cases h
        · rw [hm] at h
          cases h
          refine ih _ _ _ ?_ hm
          have hp : zDr c 5 (e + 1) ≠ 0 := zDr_pos (k := 4) hc.2
          have hd := zDg_iff.mp (zDr_dg c 5 (e + 1) (zDr c 5 (e + 1) - 1) (by omega))
          have hlt : e + 1 + (zDr c 5 (e + 1) - 1) < n := Nat.lt_of_not_le (fun p => by have := h0 _ p; omega)
          omega
    · cases h
      exact he
theorem zMc_in {c : Nat → Nat} {n : Nat} (h0 : ∀ i, n ≤ i → c i = 0) {i e9 : Nat} {vs : List Nat} (hi : i ≤ n) (h : zMc c i = some (e9, vs)) : e9 ≤ n := by
  unfold zMc at h
  split at h
  · cases h
  · rcases hm : zMd c 24 (i + zDr c 5 i) with _ | ⟨q3, v3⟩
    · rw [hm] at h; cases h
    · rw [hm] at h
      cases h
      refine zMd_in h0 _ _ _ _ ?_ hm
      by_cases hp : zDr c 5 i = 0
      · omega
      · have hd := zDg_iff.mp (zDr_dg c 5 i (zDr c 5 i - 1) (by omega))
        have hlt : i + (zDr c 5 i - 1) < n := Nat.lt_of_not_le (fun p => by have := h0 _ p; omega)
        omega
section SC
variable {c : Nat → Nat} {n : Nat}
/-- no symbol can stand here -/
def zDd (c : Nat → Nat) (n q : Nat) : Prop := q < n ∧ c q ≠ 41 ∧ zSgn (c q) = false
/-- what the cutting makes of a piece that reads as the tree t up to q2 -/
def zQo (c : Nat → Nat) (n k q op sy nu : Nat) (a : Nat → Nat → Int32) (q2 : Nat) (t : zTr) : Prop :=
  (zQ c n (41 - k) q true op sy nu a = none ∧ zDd c n q2) ∨ ∃ k2 a2, k2 ≤ q2 ∧ zQ c n (41 - k) q true op sy nu a = zQ c n (41 - k2) q2 false op (sy + zTl t) (nu + zNl t) a2 ∧ zBe sy nu a a2 ∧ zTo a2 t sy nu
theorem zQ_pos (h0 : ∀ i, n ≤ i → c i = 0) {q : Nat} (h : c q ≠ 0) : q < n := Nat.lt_of_not_le (fun p => h (h0 q p))
theorem zQP (hn : n ≤ 40) (h0 : ∀ i, n ≤ i → c i = 0) {f : Nat} (ih : ∀ q k op sy nu a, 41 ≤ f + q → k ≤ q → q ≤ n → (zE c f q = none → zQ c n (41 - k) q true op sy nu a = none) ∧ ∀ q2 t, zE c f q = some (q2, t) → q < q2 ∧ q2 ≤ n ∧ zSgn (c q2) = false ∧ zQo c n k q op sy nu a q2 t)
    {q k op sy nu : Nat} {a : Nat → Nat → Int32} (hf : 41 ≤ f + 1 + q) (hk : k ≤ q) (hq : q ≤ n) (hfk : zFk (c q) = 0) :
    (zPt c (zE c f) q = none → zQ c n (41 - k) q true op sy nu a = none) ∧ ∀ q1 t, zPt c (zE c f) q = some (q1, t) → q < q1 ∧ q1 ≤ n ∧ zQo c n k q op sy nu a q1 t := by
  have hv := zFk_v (c := c q)
  have nf : c q ≠ 45 ∧ c q ≠ 126 ∧ c q ≠ 47 ∧ c q ≠ 92 := ⟨fun h => by have := hv.1.mpr h; omega, fun h => by have := hv.2.1.mpr h; omega, fun h => by have := hv.2.2.1.mpr h; omega, fun h => by have := hv.2.2.2.mpr h; omega⟩
  by_cases h40 : c q = 40
  · have hqn := zQ_pos h0 (q := q) (by omega)
    have hs := zQ_op (c := c) (n := n) (k := k) (i := q) (op := op) (sy := sy) (nu := nu) (a := a) (by omega) hqn h40
    have key := ih (q + 1) (k + 1) (op + 1) (sy + 1) nu (zKp a sy (nI 4) (nI 0) (nI 0)) (by omega) (by omega) (by omega)
    unfold zPt
    rw [if_pos h40, hs]
    rcases he : zE c f (q + 1) with _ | ⟨q3, t3⟩
    · exact ⟨fun _ => key.1 he, fun q1 t h => by cases h⟩
    · obtain ⟨g1, g2, g3, g4⟩ := key.2 q3 t3 he
      by_cases h41 : c q3 = 41
      · simp only [if_pos h41]
        refine ⟨(fun h => by cases h), fun q1 t h => ?_⟩
        cases h
        have hq3 := zQ_pos h0 (q := q3) (by omega)
        refine ⟨by omega, by omega, ?_⟩
        rcases g4 with ⟨-, g4⟩ | ⟨k2, a2, m1, m2, m3, m4⟩
        · exact absurd h41 g4.2.1
        · refine Or.inr ⟨k2 + 1, zKp a2 (sy + 1 + zTl t3) (nI 5) (nI 0) (nI 0), by omega, ?_, ?_, ?_⟩
          · rw [hs, m2, zQ_cl (by omega) hq3 h41 (by omega)]
            rw [show zTl (.branch 200 zD0 t3) = zTl t3 + 2 from rfl, show zNl (.branch 200 zD0 t3) = zNl t3 from rfl, show sy + (zTl t3 + 2) = sy + 1 + zTl t3 + 1 by omega]
            rfl
          · exact zKp_be.tr (Nat.le_succ _) (Nat.le_refl _) (m3.tr (s2 := sy + 1 + zTl t3) (u2 := nu) (by omega) (Nat.le_refl _) zKp_be)
          · have e1 : a2 4 sy = nI 4 := (m3.1 sy (by omega)).1.trans zKp_at.1
            have hb := zKp_be (a := a2) (i := sy + 1 + zTl t3) (u := nu + zNl t3) (x := nI 5) (y := nI 0) (z := nI 0)
            rw [zTo, if_neg (by decide), if_pos (by decide)]
            refine ⟨(hb.1 sy (by omega)).1.trans e1, zTo_cg t3 _ _ (fun j j1 j2 => hb.1 j j2) (fun j j1 j2 => hb.2 j j2) m4, zKp_at.1⟩
      · simp only [if_neg h41]
        refine ⟨fun _ => ?_, fun q1 t h => by cases h⟩
        rcases g4 with ⟨g4, -⟩ | ⟨k2, a2, m1, m2, m3, m4⟩
        · exact g4
        · rw [m2]
          by_cases hq3 : q3 < n
          · exact zQ_no (by omega) hq3 (fun q => h41 q.1) g3
          · rw [zQ_e (by omega), if_neg (by omega)]
  · unfold zPt
    rw [if_neg h40]
    unfold zLf
    by_cases hnm : 97 ≤ c q ∧ c q ≤ 104
    · have hqn := zQ_pos h0 (q := q) (by omega)
      rw [if_pos hnm]
      refine ⟨(fun h => by cases h), fun q1 t h => ?_⟩
      cases h
      refine ⟨by omega, by omega, Or.inr ⟨k + 1, _, by omega, zQ_nm (by omega) hqn hnm, zKp_be, ?_⟩⟩
      rw [zTo]
      exact ⟨zKp_at.1, fun _ => zKp_at.2.1, fun h => absurd rfl h, fun h => by cases h⟩
    · rw [if_neg hnm]
      by_cases h105 : c q = 105
      · have hqn := zQ_pos h0 (q := q) (by omega)
        rw [if_pos h105]
        by_cases hz0 : zDr c 5 (q + 1) = 0
        · have : zDr c 4 (q + 1) = 0 := by rw [zDr_45 (by omega)]; exact hz0
          rw [if_pos this]
          exact ⟨fun _ => zQ_cx (by omega) hqn h105 (Or.inl hz0), fun q1 t h => by cases h⟩
        · by_cases hz5 : zDr c 5 (q + 1) = 5
          · have hz := zDr_5 hz5
            rw [hz.1, if_neg (by decide)]
            refine ⟨(fun h => by cases h), fun q1 t h => ?_⟩
            cases h
            have hd := zDg_iff.mp hz.2
            have hlt := zQ_pos h0 (q := q + 1 + 4) (by omega)
            exact ⟨by omega, by omega, Or.inl ⟨zQ_cx (by omega) hqn h105 (Or.inr hz5), hlt, (zSgn_dg hz.2).2, (zSgn_dg hz.2).1⟩⟩
          · rw [zDr_45 hz5, if_neg hz0]
            refine ⟨(fun h => by cases h), fun q1 t h => ?_⟩
            cases h
            have hlast := zDr_dg c 5 (q + 1) (zDr c 5 (q + 1) - 1) (by omega)
            have hd := zDg_iff.mp hlast
            have hlt := zQ_pos h0 (q := q + 1 + (zDr c 5 (q + 1) - 1)) (by omega)
            refine ⟨by omega, by omega, Or.inr ⟨k + 1, _, by omega, zQ_ct (by omega) hqn h105 hz0 hz5, ?_, ?_⟩⟩
            · have e7 : zBe sy nu a (va_up a 7 (va_up (a 7) nu (nI (zNm c (q + 1) (zDr c 5 (q + 1)))))) := ⟨fun j _ => ⟨by rw [va_up_ne _ _ (by decide)], by rw [va_up_ne _ _ (by decide)], by rw [va_up_ne _ _ (by decide)]⟩, fun j hj => by rw [va_up_self, va_up_ne _ _ (by omega)]⟩
              exact e7.tr (Nat.le_refl _) (Nat.le_refl _) zKp_be
            · rw [zTo]
              refine ⟨zKp_at.1, (fun h => by cases h), fun _ => ⟨zKp_at.2.1, fun i hi => ?_⟩, fun h => by cases h⟩
              have hi : i < 1 := hi
              have hi0 : i = 0 := by omega
              subst hi0
              rw [zKp_at.2.2.2, va_up_self]
              exact va_up_self (a 7) nu _
      · rw [if_neg h105]
        by_cases hdg : zDg (c q) = true
        · have hd := zDg_iff.mp hdg
          have hqn := zQ_pos h0 (q := q) (by omega)
          have key := zMc_C h0 hn hdg
          rcases hm : zMc c q with _ | ⟨e9, vs⟩
          · have hz := zQ_cy (c := c) (n := n) (k := k) (i := q) (op := op) (sy := sy) (nu := nu) (a := a) (by omega) hqn hdg hm
            rcases key.1 hm with k1 | ⟨q2, v2, k1, k2, k3⟩
            · rw [k1]
              exact ⟨fun _ => hz, fun q1 t h => by cases h⟩
            · rw [k1]
              refine ⟨(fun h => by cases h), fun q1 t h => ?_⟩
              cases h
              have hd2 := zDg_iff.mp k2
              have hlt := zQ_pos h0 (q := q2) (by omega)
              exact ⟨k3, by omega, Or.inl ⟨hz, hlt, (zSgn_dg k2).2, (zSgn_dg k2).1⟩⟩
          · have hz := zQ_cs (c := c) (n := n) (k := k) (i := q) (op := op) (sy := sy) (nu := nu) (a := a) (by omega) hqn hdg hm
            obtain ⟨k0, kk⟩ := key.2 e9 vs hm
            rcases kk with ⟨k1, k2⟩ | ⟨k1, k2⟩
            · rw [k2]
              refine ⟨fun _ => ?_, fun q1 t h => by cases h⟩
              have he := zQ_pos h0 (q := e9) (by omega)
              rw [hz]
              exact zQ_no (by omega) he (by omega) (by rw [k1]; rfl)
            · rw [k2]
              refine ⟨(fun h => by cases h), fun q1 t h => ?_⟩
              cases h
              have hen : e9 ≤ n := zMc_in h0 (by omega) hm
              refine ⟨k0, hen, Or.inr ⟨k + 1, _, by omega, hz, ?_, ?_⟩⟩
              · have e7 : zBe sy nu a (va_up a 7 (zNr (a 7) nu vs)) := ⟨fun j _ => ⟨by rw [va_up_ne _ _ (by decide)], by rw [va_up_ne _ _ (by decide)], by rw [va_up_ne _ _ (by decide)]⟩, fun j hj => by rw [va_up_self]; unfold zNr; rw [if_neg (by omega)]⟩
                exact e7.tr (Nat.le_refl _) (Nat.le_refl _) zKp_be
              · rw [zTo]
                refine ⟨zKp_at.1, (fun h => by cases h), fun _ => ⟨zKp_at.2.1, fun i hi => ?_⟩, fun _ => zKp_at.2.2.1⟩
                have hi : i < vs.length := hi
                rw [zKp_at.2.2.2, va_up_self]
                unfold zNr
                rw [if_pos (by omega), Nat.add_sub_cancel_left]
        · have hdf := Bool.eq_false_iff.mpr hdg
          have hzc : zC c q = none := by unfold zC; rw [if_pos (zDr_x hdf)]
          rw [hzc]
          refine ⟨fun _ => ?_, fun q1 t h => by cases h⟩
          by_cases hqn : q < n
          · exact zQ_un (by omega) hqn (by omega) (fun p => by omega) h40 hnm h105 hdf
          · rw [zQ_e (by omega), if_neg (fun p => by cases p.1)]
theorem zQE (hn : n ≤ 40) (h0 : ∀ i, n ≤ i → c i = 0) : ∀ f q k op sy nu a, 41 ≤ f + q → k ≤ q → q ≤ n → (zE c f q = none → zQ c n (41 - k) q true op sy nu a = none) ∧ ∀ q2 t, zE c f q = some (q2, t) → q < q2 ∧ q2 ≤ n ∧ zSgn (c q2) = false ∧ zQo c n k q op sy nu a q2 t := by
  intro f
  induction f with
  | zero => intro q k op sy nu a h1 h2 h3; omega
  | succ f ih =>
    intro q k op sy nu a h1 h2 h3
    have hv := zFk_v (c := c q)
    by_cases hfk : zFk (c q) = 0
    · obtain ⟨p1, p2⟩ := zQP hn h0 (f := f) (fun q k op sy nu a g1 g2 g3 => ih q k op sy nu a g1 g2 g3) (q := q) (k := k) (op := op) (sy := sy) (nu := nu) (a := a) h1 h2 h3 hfk
      rcases hp : zPt c (zE c f) q with _ | ⟨q1, t1⟩
      · rw [zE_p0 hfk hp]
        exact ⟨fun _ => p1 hp, fun q2 t h => by cases h⟩
      · obtain ⟨g1, g2, g3⟩ := p2 q1 t1 hp
        by_cases hs : zSk (c q1) = 0
        · rw [zE_p1 hfk hp hs]
          refine ⟨(fun h => by cases h), fun q2 t h => ?_⟩
          cases h
          exact ⟨g1, g2, zSgn_f.mpr hs, g3⟩
        · have hsg := zSgn_k.mpr hs
          rcases g3 with ⟨-, -, -, g3⟩ | ⟨k2, a2, m1, m2, m3, m4⟩
          · rw [g3] at hsg; cases hsg
          · have hq1 : q1 < n := zQ_pos h0 (zSk_0 hs)
            have hne : ¬ (c q1 = 41 ∧ 0 < op) := fun p => by rw [p.1] at hsg; cases hsg
            have key := ih (q1 + 1) (k2 + 1) op (sy + zTl t1 + 1) (nu + zNl t1) (zKp a2 (sy + zTl t1) (nI 6) (nI (c q1)) (nI 0)) (by omega) (by omega) (by omega)
            have hz : zQ c n (41 - k) q true op sy nu a = zQ c n (41 - (k2 + 1)) (q1 + 1) true op (sy + zTl t1 + 1) (nu + zNl t1) (zKp a2 (sy + zTl t1) (nI 6) (nI (c q1)) (nI 0)) := by rw [m2, zQ_sg (by omega) hq1 hne hsg]
            rw [zE_p2 hfk hp hs, hz]
            rcases he : zE c f (q1 + 1) with _ | ⟨q2, t2⟩
            · exact ⟨fun _ => key.1 he, fun q3 t h => by cases h⟩
            · obtain ⟨w1, w2, w3, w4⟩ := key.2 q2 t2 he
              refine ⟨(fun h => by cases h), fun q3 t h => ?_⟩
              cases h
              refine ⟨by show q < q2; omega, w2, w3, ?_⟩
              have a1 := zSk_ge hs
              have a3 := zSk_c hs
              have e1 : (zSk (c q1) * 200 + c q1) / 200 = zSk (c q1) := by omega
              have e2 : (zSk (c q1) * 200 + c q1) % 200 = c q1 := by omega
              have l1 : zTl (.branch (zSk (c q1) * 200 + c q1) t1 t2) = zTl t1 + 1 + zTl t2 := by rw [zTl, e1, if_neg (by omega), if_neg (by omega), if_neg (by omega)]
              have l2 : zNl (.branch (zSk (c q1) * 200 + c q1) t1 t2) = zNl t1 + zNl t2 := by rw [zNl, e1, if_neg (by omega)]
              unfold zQo
              rw [hz, l1, l2]
              rcases w4 with ⟨w4, w5⟩ | ⟨k3, a3, w4, w5, w6, w7⟩
              · exact Or.inl ⟨w4, w5⟩
              · refine Or.inr ⟨k3, a3, w4, ?_, ?_, ?_⟩
                · rw [w5, show sy + zTl t1 + 1 + zTl t2 = sy + (zTl t1 + 1 + zTl t2) by omega, show nu + zNl t1 + zNl t2 = nu + (zNl t1 + zNl t2) by omega]
                · exact m3.tr (s2 := sy + zTl t1) (u2 := nu + zNl t1) (by omega) (by omega) (zKp_be.tr (Nat.le_succ _) (Nat.le_refl _) w6)
                · have hb : zBe (sy + zTl t1) (nu + zNl t1) a2 a3 := zKp_be.tr (Nat.le_succ _) (Nat.le_refl _) w6
                  rw [zTo, e1, e2, if_neg (by omega), if_neg (by omega), if_neg (by omega)]
                  refine ⟨zTo_cg t1 _ _ (fun j j1 j2 => hb.1 j j2) (fun j j1 j2 => hb.2 j j2) m4, ?_, ?_, w7⟩
                  · exact (w6.1 (sy + zTl t1) (Nat.lt_succ_self _)).1.trans zKp_at.1
                  · exact (w6.1 (sy + zTl t1) (Nat.lt_succ_self _)).2.1.trans zKp_at.2.1
    · have hqn : q < n := zQ_pos h0 (zFk_0 hfk)
      have hfc := zFk_c hfk
      by_cases h67 : zFk (c q) = 6 ∨ zFk (c q) = 7
      · have hc : c q = 47 ∨ c q = 92 := by
          rcases h67 with h | h
          · exact Or.inl (hv.2.2.1.mp h)
          · exact Or.inr (hv.2.2.2.mp h)
        by_cases hrd : zRd (c (q + 1)) = true
        · have hq1 : q + 1 < n := zQ_pos h0 (fun p => by rw [p] at hrd; cases hrd)
          have hz := zQ_rd (c := c) (n := n) (k := k) (i := q) (op := op) (sy := sy) (nu := nu) (a := a) (by omega) hqn hc hrd
          have key := ih (q + 1 + 1) (k + 1) op (sy + 1) nu (zKp a sy (nI (if c q = 47 then 8 else 9)) (nI (c (q + 1))) (nI 0)) (by omega) (by omega) (by omega)
          rw [zE_f2 h67 hrd, hz]
          rcases he : zE c f (q + 1 + 1) with _ | ⟨q2, t2⟩
          · exact ⟨fun _ => key.1 he, fun q3 t h => by cases h⟩
          · obtain ⟨w1, w2, w3, w4⟩ := key.2 q2 t2 he
            refine ⟨(fun h => by cases h), fun q3 t h => ?_⟩
            cases h
            refine ⟨by show q < q2; omega, w2, w3, ?_⟩
            have a3 := zRd_c hrd
            have e1 : (zFk (c q) * 200 + c (q + 1)) / 200 = zFk (c q) := by omega
            have e2 : (zFk (c q) * 200 + c (q + 1)) % 200 = c (q + 1) := by omega
            have l1 : zTl (.branch (zFk (c q) * 200 + c (q + 1)) zD0 t2) = zTl t2 + 1 := by rw [zTl, e1, if_neg (by omega), if_neg (by omega), if_pos (by omega)]
            have l2 : zNl (.branch (zFk (c q) * 200 + c (q + 1)) zD0 t2) = zNl t2 := by rw [zNl, e1, if_pos (by omega)]
            unfold zQo
            rw [hz, l1, l2]
            rcases w4 with ⟨w4, w5⟩ | ⟨k3, a3, w4, w5, w6, w7⟩
            · exact Or.inl ⟨w4, w5⟩
            · refine Or.inr ⟨k3, a3, w4, ?_, zKp_be.tr (Nat.le_succ _) (Nat.le_refl _) w6, ?_⟩
              · rw [w5, show sy + 1 + zTl t2 = sy + (zTl t2 + 1) by omega]
              · rw [zTo, e1, e2, if_neg (by omega), if_neg (by omega), if_pos (by omega)]
                refine ⟨?_, ?_, w7⟩
                · rw [(w6.1 sy (Nat.lt_succ_self _)).1, zKp_at.1]
                  rcases h67 with h | h
                  · rw [h, hv.2.2.1.mp h]; rfl
                  · rw [h, hv.2.2.2.mp h]; rfl
                · rw [(w6.1 sy (Nat.lt_succ_self _)).2.1, zKp_at.2.1, if_neg (by omega), if_neg (by omega)]
        · rw [zE_f3 h67 (Bool.eq_false_iff.mpr hrd)]
          refine ⟨fun _ => zQ_un (by omega) hqn (by omega) (fun p => hrd p.2) (by omega) (by omega) (by omega) ?_, fun q2 t h => by cases h⟩
          exact Bool.eq_false_iff.mpr (fun p => by have := zDg_iff.mp p; omega)
      · have hc : c q = 45 ∨ c q = 126 := by
          rcases hfc with h | h | h | h
          · exact Or.inl (hv.1.mp h)
          · exact Or.inr (hv.2.1.mp h)
          · exact absurd (Or.inl h) h67
          · exact absurd (Or.inr h) h67
        have hz := zQ_fr (c := c) (n := n) (k := k) (i := q) (op := op) (sy := sy) (nu := nu) (a := a) (by omega) hqn hc
        have key := ih (q + 1) (k + 1) op (sy + 1) nu (zKp a sy (nI 7) (nI (c q)) (nI 0)) (by omega) (by omega) (by omega)
        rw [zE_f1 hfk h67, hz]
        rcases he : zE c f (q + 1) with _ | ⟨q2, t2⟩
        · exact ⟨fun _ => key.1 he, fun q3 t h => by cases h⟩
        · obtain ⟨w1, w2, w3, w4⟩ := key.2 q2 t2 he
          refine ⟨(fun h => by cases h), fun q3 t h => ?_⟩
          cases h
          refine ⟨by show q < q2; omega, w2, w3, ?_⟩
          have e1 : (zFk (c q) * 200) / 200 = zFk (c q) := by omega
          have e2 : (zFk (c q) * 200) % 200 = 0 := by omega
          have l1 : zTl (.branch (zFk (c q) * 200) zD0 t2) = zTl t2 + 1 := by rw [zTl, e1, if_neg (by omega), if_neg (by omega), if_pos (by omega)]
          have l2 : zNl (.branch (zFk (c q) * 200) zD0 t2) = zNl t2 := by rw [zNl, e1, if_pos (by omega)]
          unfold zQo
          rw [hz, l1, l2]
          rcases w4 with ⟨w4, w5⟩ | ⟨k3, a3, w4, w5, w6, w7⟩
          · exact Or.inl ⟨w4, w5⟩
          · refine Or.inr ⟨k3, a3, w4, ?_, zKp_be.tr (Nat.le_succ _) (Nat.le_refl _) w6, ?_⟩
            · rw [w5, show sy + 1 + zTl t2 = sy + (zTl t2 + 1) by omega]
            · rw [zTo, e1, e2, if_neg (by omega), if_neg (by omega), if_pos (by omega)]
              refine ⟨?_, ?_, w7⟩
              · rw [(w6.1 sy (Nat.lt_succ_self _)).1, zKp_at.1, if_neg (by omega), if_neg (by omega)]
              · rw [(w6.1 sy (Nat.lt_succ_self _)).2.1, zKp_at.2.1]
                rcases hc with h | h
                · rw [hv.1.mpr h, h]; rfl
                · rw [hv.2.1.mpr h, h]; rfl
/-- the whole text -/
theorem zQ_tree (hn : n ≤ 40) (h0 : ∀ i, n ≤ i → c i = 0) (a : Nat → Nat → Int32) : (zTree c n = none → zQ c n 41 0 true 0 0 0 a = none) ∧ ∀ t, zTree c n = some t → ∃ a2, zQ c n 41 0 true 0 0 0 a = some (zTl t, zNl t, a2) ∧ zTo a2 t 0 0 := by
  obtain ⟨k1, k2⟩ := zQE hn h0 41 0 0 0 0 0 a (by decide) (Nat.le_refl _) (Nat.zero_le _)
  unfold zTree
  rcases he : zE c 41 0 with _ | ⟨q2, t2⟩
  · exact ⟨fun _ => k1 he, fun t h => by cases h⟩
  · obtain ⟨g1, g2, g3, g4⟩ := k2 q2 t2 he
    by_cases hq : q2 = n
    · simp only [if_pos hq]
      refine ⟨(fun h => by cases h), fun t h => ?_⟩
      cases h
      rcases g4 with ⟨-, g4, -⟩ | ⟨k3, a3, w4, w5, w6, w7⟩
      · omega
      · refine ⟨a3, ?_, w7⟩
        rw [show (41 : Nat) = 41 - 0 from rfl, w5, zQ_e (by omega), if_pos ⟨rfl, rfl⟩, Nat.zero_add, Nat.zero_add]
    · simp only [if_neg hq]
      refine ⟨fun _ => ?_, fun t h => by cases h⟩
      rcases g4 with ⟨g4, -⟩ | ⟨k3, a3, w4, w5, w6, w7⟩
      · exact g4
      · rw [show (41 : Nat) = 41 - 0 from rfl, w5]
        exact zQ_no (by omega) (by omega) (by omega) g3
end SC
