/-! nodes as they stand in the world -/
def zKd (nf : Nat → Nat → Int32) (k : Nat) : Nat := (nf 0 k).toNatClampNeg
def zSn (nf : Nat → Nat → Int32) (k : Nat) : Nat := (nf 1 k).toNatClampNeg
def zNu (nf : Nat → Nat → Int32) (k : Nat) : Nat := (nf 2 k).toNatClampNeg
def zLl (lr : Nat → Nat → Option Nat) (k : Nat) : Nat := (lr 0 k).getD 0
def zRl (lr : Nat → Nat → Option Nat) (k : Nat) : Nat := (lr 1 k).getD 0
def zSN (sh : Nat → Int32) (j : Nat) : Nat := (sh j).toNatClampNeg
def zWv (el : Nat → Nat → UInt64) (k i : Nat) : Nat := (FP.d2i (el (8 + k) i)).toNatClampNeg % 2 ^ 15
abbrev zXS : Type := (Nat → Int32) × (Nat → Nat → UInt64) × (Nat → Nat → Int32) × (Nat → Nat → Option Nat)
def zAg (k : Nat) (S T : zXS) : Prop := (∀ i, T.2.2.1 i k = S.2.2.1 i k) ∧ (∀ i, T.2.2.2 i k = S.2.2.2 i k) ∧ T.1 (8 + k) = S.1 (8 + k) ∧ T.2.1 (8 + k) = S.2.1 (8 + k)
/-- the variables are the same -/
def zFv (S T : zXS) : Prop := ∀ j, j < 8 → T.1 j = S.1 j ∧ T.2.1 j = S.2.1 j
def zFr (b : Nat) (S T : zXS) : Prop := (∀ k, k < b → zAg k S T) ∧ zFv S T
def zO (b : Nat) (S T : zXS) : Prop := (∀ k, k ≠ b → zAg k S T) ∧ zFv S T
def zNg (b k : Nat) (S : zXS) : Prop := zNok S.2.2.1 S.2.2.2 (zKd S.2.2.1) (zSn S.2.2.1) (zNu S.2.2.1) (zLl S.2.2.2) (zRl S.2.2.2) b k ∧ (zKd S.2.2.1 k = 2 → ∀ i, i < zCt (zSN S.1 (8 + k)) → S.2.1 (8 + k) i = FP.i2d (nI (zWv S.2.1 k i)))
def zGd (a b : Nat) (S : zXS) : Prop := ∀ k, a ≤ k → k < b → zNg b k S
def zSo (sh : Nat → Int32) : Prop := ∀ j, j < 49 → sh j = nI (zSN sh j) ∧ zOk (zSN sh j) = true
def zRq (S : zXS) (t : zTr) (b r : Nat) : Prop := zRp (zKd S.2.2.1) (zSn S.2.2.1) (zNu S.2.2.1) (zLl S.2.2.2) (zRl S.2.2.2) (zSN S.1) (zWv S.2.1) t b r
theorem zAg.rf (k : Nat) (S : zXS) : zAg k S S := ⟨fun _ => rfl, fun _ => rfl, rfl, rfl⟩
theorem zAg.tr {k : Nat} {S T U : zXS} (h : zAg k S T) (g : zAg k T U) : zAg k S U := ⟨fun i => (g.1 i).trans (h.1 i), fun i => (g.2.1 i).trans (h.2.1 i), g.2.2.1.trans h.2.2.1, g.2.2.2.trans h.2.2.2⟩
theorem zFv.rf (S : zXS) : zFv S S := fun _ _ => ⟨rfl, rfl⟩
theorem zFv.tr {S T U : zXS} (h : zFv S T) (g : zFv T U) : zFv S U := fun j hj => ⟨(g j hj).1.trans (h j hj).1, (g j hj).2.trans (h j hj).2⟩
theorem zO.rf (b : Nat) (S : zXS) : zO b S S := ⟨fun k _ => zAg.rf k S, zFv.rf S⟩
theorem zO.tr {b : Nat} {S T U : zXS} (h : zO b S T) (g : zO b T U) : zO b S U := ⟨fun k hk => (h.1 k hk).tr (g.1 k hk), h.2.tr g.2⟩
theorem zFr.tr {a b : Nat} {S T U : zXS} (h : zFr a S T) (hab : a ≤ b) (g : zFr b T U) : zFr a S U := ⟨fun k hk => (h.1 k hk).tr (g.1 k (by omega)), h.2.tr g.2⟩
theorem zO.fr {a b : Nat} {S T : zXS} (h : zO b S T) (hab : a ≤ b) : zFr a S T := ⟨fun k hk => h.1 k (by omega), h.2⟩
theorem zO_nf {b : Nat} {S : zXS} {nf2 : Nat → Nat → Int32} (h : ∀ i k, k ≠ b → nf2 i k = S.2.2.1 i k) : zO b S (S.1, S.2.1, nf2, S.2.2.2) := ⟨fun k hk => ⟨fun i => h i k hk, fun _ => rfl, rfl, rfl⟩, zFv.rf S⟩
theorem zO_lr {b : Nat} {S : zXS} {lr2 : Nat → Nat → Option Nat} (h : ∀ i k, k ≠ b → lr2 i k = S.2.2.2 i k) : zO b S (S.1, S.2.1, S.2.2.1, lr2) := ⟨fun k hk => ⟨fun _ => rfl, fun i => h i k hk, rfl, rfl⟩, zFv.rf S⟩
theorem up2_ne {α : Type} {f : Nat → Nat → α} {x b : Nat} {v : α} : ∀ i k, k ≠ b → va_up f x (va_up (f x) b v) i k = f i k := by
  intro i k hk
  unfold va_up
  by_cases h : i = x
  · rw [if_pos h, if_neg hk, h]
  · rw [if_neg h]
theorem zO_S0 {b : Nat} {S : zXS} {v : Int32} : zO b S (S.1, S.2.1, zS0 S.2.2.1 b v, S.2.2.2) := zO_nf up2_ne
theorem zO_S1 {b : Nat} {S : zXS} {v : Int32} : zO b S (S.1, S.2.1, zS1 S.2.2.1 b v, S.2.2.2) := zO_nf up2_ne
theorem zO_S2 {b : Nat} {S : zXS} {v : Int32} : zO b S (S.1, S.2.1, zS2 S.2.2.1 b v, S.2.2.2) := zO_nf up2_ne
theorem zO_l {b x : Nat} {S : zXS} {v : Option Nat} : zO b S (S.1, S.2.1, S.2.2.1, va_up S.2.2.2 x (va_up (S.2.2.2 x) b v)) := zO_lr up2_ne
theorem zN0_ne {nf : Nat → Nat → Int32} {b : Nat} : ∀ i k, k ≠ b → zN0 nf b i k = nf i k := by
  intro i k hk
  unfold zN0 va_up
  by_cases h2 : i = 2
  · rw [if_pos h2, if_neg hk, h2]
  rw [if_neg h2]
  by_cases h1 : i = 1
  · rw [if_pos h1, if_neg hk, h1]
  rw [if_neg h1]
  by_cases h0 : i = 0
  · rw [if_pos h0, if_neg hk, h0]
  rw [if_neg h0]
theorem zL0_ne {lr : Nat → Nat → Option Nat} {b : Nat} : ∀ i k, k ≠ b → zL0 lr b i k = lr i k := by
  intro i k hk
  unfold zL0 va_up
  by_cases h1 : i = 1
  · rw [if_pos h1, if_neg hk, h1]
  rw [if_neg h1]
  by_cases h0 : i = 0
  · rw [if_pos h0, if_neg hk, h0]
  rw [if_neg h0]
theorem zO_new {b : Nat} {S : zXS} : zO b S (S.1, S.2.1, zN0 S.2.2.1 b, zL0 S.2.2.2 b) := ⟨fun k hk => ⟨fun i => zN0_ne i k hk, fun i => zL0_ne i k hk, rfl, rfl⟩, zFv.rf S⟩
theorem zN0_at {nf : Nat → Nat → Int32} {b : Nat} : zN0 nf b 0 b = nI 0 ∧ zN0 nf b 1 b = nI 0 ∧ zN0 nf b 2 b = nI 0 := by
  unfold zN0 va_up
  simp
theorem up2_at {α : Type} {f : Nat → Nat → α} {x b : Nat} {v : α} : va_up f x (va_up (f x) b v) x b = v := by rw [va_up_self, va_up_self]
theorem up2_ot {α : Type} {f : Nat → Nat → α} {x y b : Nat} {v : α} (h : y ≠ x) : va_up f x (va_up (f x) b v) y b = f y b := by rw [va_up_ne _ _ h]
theorem zO_row {b : Nat} {S : zXS} {v : Int32} {g : Nat → UInt64} : zO b S (va_up S.1 (8 + b) v, va_up S.2.1 (8 + b) g, S.2.2.1, S.2.2.2) := ⟨fun k hk => ⟨fun _ => rfl, fun _ => rfl, va_up_ne _ _ (by omega), va_up_ne _ _ (by omega)⟩, fun j hj => ⟨va_up_ne _ _ (by omega), va_up_ne _ _ (by omega)⟩⟩
theorem zO_el {b : Nat} {S : zXS} {g : Nat → UInt64} : zO b S (S.1, va_up S.2.1 (8 + b) g, S.2.2.1, S.2.2.2) := ⟨fun k hk => ⟨fun _ => rfl, fun _ => rfl, rfl, va_up_ne _ _ (by omega)⟩, fun j hj => ⟨rfl, va_up_ne _ _ (by omega)⟩⟩
theorem zSo_up {sh : Nat → Int32} {j x : Nat} (h : zSo sh) (hx : zOk x = true) : zSo (va_up sh j (nI x)) := by
  intro i hi
  have hx2 := (zOk_num hx).1
  unfold zSN va_up
  by_cases h1 : i = j
  · rw [if_pos h1, nI_clamp (by omega)]
    exact ⟨rfl, hx⟩
  · rw [if_neg h1]
    exact h i hi
theorem zAg_fn {k : Nat} {S T : zXS} (h : zAg k S T) : zKd T.2.2.1 k = zKd S.2.2.1 k ∧ zSn T.2.2.1 k = zSn S.2.2.1 k ∧ zNu T.2.2.1 k = zNu S.2.2.1 k ∧ zLl T.2.2.2 k = zLl S.2.2.2 k ∧ zRl T.2.2.2 k = zRl S.2.2.2 k ∧ zSN T.1 (8 + k) = zSN S.1 (8 + k) ∧ zWv T.2.1 k = zWv S.2.1 k := by
  obtain ⟨h1, h2, h3, h4⟩ := h
  refine ⟨?_, ?_, ?_, ?_, ?_, ?_, ?_⟩
  · unfold zKd; rw [h1]
  · unfold zSn; rw [h1]
  · unfold zNu; rw [h1]
  · unfold zLl; rw [h2]
  · unfold zRl; rw [h2]
  · unfold zSN; rw [h3]
  · funext i; unfold zWv; rw [h4]
theorem zNg_cg {b k : Nat} {S T : zXS} (h : zAg k S T) (g : zNg b k S) : zNg b k T := by
  obtain ⟨a1, a2, a3, a4, a5, a6, a7⟩ := zAg_fn h
  obtain ⟨h1, h2, h3, h4⟩ := h
  obtain ⟨⟨n1, n2, n3, n4, n5, n6, n7, n8, n9, n10⟩, nc⟩ := g
  refine ⟨⟨?_, ?_, ?_, ?_, ?_, ?_, ?_, ?_, ?_, ?_⟩, ?_⟩
  · rw [h1, a1]; exact n1
  · rw [a1]; exact n2
  · rw [h1, a2]; exact n3
  · rw [a2]; exact n4
  · rw [h1, a3]; exact n5
  · rw [a3]; exact n6
  · rw [a1, a3]; exact n7
  · rw [a1, h2, a4]; exact n8
  · rw [a1, h2, a5]; exact n9
  · rw [a1, a2]; exact n10
  · rw [a1, a6, h4, a7]; exact nc
theorem zNg_up {b c k : Nat} {S : zXS} (h : b ≤ c) (g : zNg b k S) : zNg c k S := by
  obtain ⟨⟨n1, n2, n3, n4, n5, n6, n7, n8, n9, n10⟩, nc⟩ := g
  exact ⟨⟨n1, n2, n3, n4, n5, n6, n7, fun q => ⟨(n8 q).1, (n8 q).2.1, by have := (n8 q).2.2; omega⟩, fun q => ⟨(n9 q).1, (n9 q).2.1, by have := (n9 q).2.2; omega⟩, n10⟩, nc⟩
theorem zRq_cg {S T : zXS} {t : zTr} {b r : Nat} (h : ∀ k, b ≤ k → k < b + zNN t → zAg k S T) (g : zRq S t b r) : zRq T t b r := zRp_cg t b r (fun k h1 h2 => zAg_fn (h k h1 h2)) g
theorem zNg_mk {B b x c u l9 r9 : Nat} {S : zXS} (h0 : S.2.2.1 0 b = nI x) (hx : x ≤ 10) (h1 : S.2.2.1 1 b = nI c) (hc : c < 2 ^ 15) (h2 : S.2.2.1 2 b = nI u) (hu : u < 2 ^ 15) (hn : x = 1 → u < 8) (hl : 8 ≤ x → S.2.2.2 0 b = some l9 ∧ b < l9 ∧ l9 < B) (hr : 4 ≤ x → S.2.2.2 1 b = some r9 ∧ b < r9 ∧ r9 < B) (hs : (x = 6 ∨ x = 7 ∨ x = 8) → zSg c) (hk : x = 2 → ∀ i, i < zCt (zSN S.1 (8 + b)) → S.2.1 (8 + b) i = FP.i2d (nI (zWv S.2.1 b i))) : zNg B b S := by
  have e0 : zKd S.2.2.1 b = x := by unfold zKd; rw [h0, nI_clamp (by omega)]
  have e1 : zSn S.2.2.1 b = c := by unfold zSn; rw [h1, nI_clamp (by omega)]
  have e2 : zNu S.2.2.1 b = u := by unfold zNu; rw [h2, nI_clamp (by omega)]
  refine ⟨⟨by rw [e0]; exact h0, by rw [e0]; exact hx, by rw [e1]; exact h1, by rw [e1]; exact hc, by rw [e2]; exact h2, by rw [e2]; exact hu, by rw [e0, e2]; exact hn, fun q => ?_, fun q => ?_, by rw [e0, e1]; exact hs⟩, by rw [e0]; exact hk⟩
  · rw [e0] at q
    obtain ⟨g1, g2, g3⟩ := hl q
    have e : zLl S.2.2.2 b = l9 := by unfold zLl; rw [g1]; rfl
    rw [e]
    exact ⟨g1, g2, g3⟩
  · rw [e0] at q
    obtain ⟨g1, g2, g3⟩ := hr q
    have e : zRl S.2.2.2 b = r9 := by unfold zRl; rw [g1]; rfl
    rw [e]
    exact ⟨g1, g2, g3⟩
/-- a node over one tree -/
theorem zMk1 {b x c N r : Nat} {S S1 S2 S3 : zXS} {t : zTr} (hO1 : zO b S S1) (hF : zFr (b + 1) S1 S2) (hG : zGd (b + 1) (b + 1 + zNN t) S2) (hR : zRq S2 t (b + 1) r) (hO2 : zO b S2 S3)
    (h0 : S3.2.2.1 0 b = nI x) (h1 : S3.2.2.1 1 b = nI c) (hc : c < 2 ^ 15) (h2 : S3.2.2.1 2 b = nI 0) (hx : x = 0 ∨ (4 ≤ x ∧ x ≤ 7 ∧ S3.2.2.2 1 b = some r)) (hs : (x = 6 ∨ x = 7) → zSg c) (hN : N / 200 = x) (hN2 : x ≠ 0 → N % 200 = c) :
    zFr b S S3 ∧ zGd b (b + zNN (.branch N zD0 t)) S3 ∧ zRq S3 (.branch N zD0 t) b (if x = 0 then r else b) := by
  have hnn : zNN (.branch N zD0 t) = 1 + zNN t := by rw [zNN, if_neg (by omega), if_pos (by omega)]
  have hrt := zRp_root t (b + 1) r hR
  refine ⟨?_, ?_, ?_⟩
  · exact (((hO1.fr (Nat.le_refl _)).tr (Nat.le_succ _) hF).tr (Nat.le_refl _) (hO2.fr (Nat.le_refl _)))
  · intro k k1 k2
    rw [hnn] at k2 ⊢
    by_cases hk : k = b
    · subst hk
      exact zNg_mk (l9 := 0) (r9 := r) h0 (by omega) h1 hc h2 (by decide) (fun q => by omega) (fun q => by omega) (fun q => ⟨by rcases hx with hx | hx; omega; exact hx.2.2, by omega, by omega⟩) (fun q => hs (by omega)) (fun q => by omega)
    · rw [show b + (1 + zNN t) = b + 1 + zNN t by omega]
      exact zNg_cg (hO2.1 k hk) (hG k (by omega) (by omega))
  · have e0 : zKd S3.2.2.1 b = x := by unfold zKd; rw [h0, nI_clamp (by omega)]
    have e1 : zSn S3.2.2.1 b = c := by unfold zSn; rw [h1, nI_clamp (by omega)]
    have hR3 : zRq S3 t (b + 1) r := zRq_cg (fun k k1 k2 => hO2.1 k (by omega)) hR
    unfold zRq
    rw [zRp, if_neg (by omega), hN]
    refine ⟨e0, ?_⟩
    by_cases h9 : x = 0
    · rw [if_pos h9, if_pos h9]
      exact hR3
    · rw [if_neg h9, if_neg h9, if_pos (by omega)]
      have e5 : zRl S3.2.2.2 b = r := by unfold zRl; rw [(hx.resolve_left h9).2.2]; rfl
      refine ⟨rfl, by rw [e1, hN2 h9], ?_, fun q => by omega⟩
      rw [e5]
      exact hR3
/-- a node over two trees -/
theorem zMk2 {b x c N l r : Nat} {S S1 S2 S3 S4 S5 : zXS} {tl t : zTr} (hO1 : zO b S S1) (hF : zFr (b + 1) S1 S2) (hG : zGd (b + 1) (b + 1 + zNN tl) S2) (hL : zRq S2 tl (b + 1) l) (hO2 : zO b S2 S3) (hF2 : zFr (b + 1 + zNN tl) S3 S4) (hG2 : zGd (b + 1 + zNN tl) (b + 1 + zNN tl + zNN t) S4) (hR : zRq S4 t (b + 1 + zNN tl) r) (hO3 : zO b S4 S5)
    (h0 : S5.2.2.1 0 b = nI x) (h1 : S5.2.2.1 1 b = nI c) (hc : c < 2 ^ 15) (h2 : S5.2.2.1 2 b = nI 0) (hx : 8 ≤ x ∧ x ≤ 10) (hl5 : S5.2.2.2 0 b = some l) (hr5 : S5.2.2.2 1 b = some r) (hs : x = 8 → zSg c) (hN : N / 200 = x) (hN2 : N % 200 = c) :
    zFr b S S5 ∧ zGd b (b + zNN (.branch N tl t)) S5 ∧ zRq S5 (.branch N tl t) b b := by
  have hnn : zNN (.branch N tl t) = 1 + zNN tl + zNN t := by rw [zNN, if_neg (by omega), if_neg (by omega)]
  have hlt := zRp_root tl (b + 1) l hL
  have hrt := zRp_root t _ r hR
  refine ⟨?_, ?_, ?_⟩
  · exact (((((hO1.fr (Nat.le_refl _)).tr (Nat.le_succ _) hF).tr (Nat.le_refl _) (hO2.fr (Nat.le_refl _))).tr (by omega) hF2).tr (Nat.le_refl _) (hO3.fr (Nat.le_refl _)))
  · intro k k1 k2
    rw [hnn] at k2 ⊢
    by_cases hk : k = b
    · subst hk
      exact zNg_mk (l9 := l) (r9 := r) h0 (by omega) h1 hc h2 (by decide) (fun q => by omega) (fun q => ⟨hl5, by omega, by omega⟩) (fun q => ⟨hr5, by omega, by omega⟩) (fun q => hs (by omega)) (fun q => by omega)
    · by_cases hk2 : k < b + 1 + zNN tl
      · exact zNg_cg ((hO2.1 k hk).tr ((hF2.1 k hk2).tr (hO3.1 k hk))) (zNg_up (by omega) (hG k (by omega) hk2))
      · rw [show b + (1 + zNN tl + zNN t) = b + 1 + zNN tl + zNN t by omega]
        exact zNg_cg (hO3.1 k hk) (hG2 k (by omega) (by omega))
  · have e0 : zKd S5.2.2.1 b = x := by unfold zKd; rw [h0, nI_clamp (by omega)]
    have e1 : zSn S5.2.2.1 b = c := by unfold zSn; rw [h1, nI_clamp (by omega)]
    have e4 : zLl S5.2.2.2 b = l := by unfold zLl; rw [hl5]; rfl
    have e5 : zRl S5.2.2.2 b = r := by unfold zRl; rw [hr5]; rfl
    unfold zRq
    rw [zRp, if_neg (by omega), hN, if_neg (by omega), if_neg (by omega)]
    refine ⟨e0, rfl, by rw [e1, hN2], ?_, fun _ => ?_⟩
    · rw [e5]
      exact zRq_cg (fun k k1 k2 => hO3.1 k (by omega)) hR
    · rw [e4]
      exact zRq_cg (fun k k1 k2 => ((hO2.1 k (by omega)).tr ((hF2.1 k (by omega)).tr (hO3.1 k (by omega))))) hL
/-- a node that is a leaf -/
theorem zMk0 {b x u : Nat} {v : List Nat} {S S1 : zXS} (hO1 : zO b S S1) (h0 : S1.2.2.1 0 b = nI x) (h1 : S1.2.2.1 1 b = nI 0) (h2 : S1.2.2.1 2 b = nI u) (hu : u < 2 ^ 15)
    (hx : (x = 1 ∧ v = [u] ∧ u < 8) ∨ (x = 3 ∧ v = [u]) ∨ (x = 2 ∧ 1 ≤ v.length ∧ v.length ≤ 24 ∧ S1.1 (8 + b) = nI (if v.length = 1 then 0 else v.length) ∧ ∀ i, i < v.length → S1.2.1 (8 + b) i = FP.i2d (nI (v.getD i 0)) ∧ v.getD i 0 < 10000)) :
    zFr b S S1 ∧ zGd b (b + zNN (.leaf (x, v))) S1 ∧ zRq S1 (.leaf (x, v)) b b := by
  have e0 : zKd S1.2.2.1 b = x := by unfold zKd; rw [h0, nI_clamp (by omega)]
  have e2 : zNu S1.2.2.1 b = u := by unfold zNu; rw [h2, nI_clamp (by omega)]
  have hw : x = 2 → ∀ i, i < v.length → zWv S1.2.1 b i = v.getD i 0 := by
    intro q i hi
    rcases hx with hx | hx | ⟨-, -, -, -, hx⟩
    · omega
    · omega
    · obtain ⟨g1, g2⟩ := hx i hi
      unfold zWv
      rw [g1, d2i_nI, nI_clamp (by omega), Nat.mod_eq_of_lt (by omega)]
  refine ⟨hO1.fr (Nat.le_refl _), fun k k1 k2 => ?_, ?_⟩
  · rw [zNN] at k2
    have hk : k = b := by omega
    subst hk
    refine zNg_mk (l9 := 0) (r9 := 0) h0 (by omega) h1 (by decide) h2 hu (fun q => by omega) (fun q => by omega) (fun q => by omega) (fun q => by omega) (fun q i hi => ?_)
    have hw := hw q
    rcases hx with hx | hx | ⟨-, x1, x2, x3, x4⟩
    · omega
    · omega
    · have hv : zCt (zSN S1.1 (8 + k)) = v.length := by
        unfold zSN
        rw [x3, nI_clamp (by split <;> omega)]
        by_cases h9 : v.length = 1
        · rw [if_pos h9, h9]; rfl
        · rw [if_neg h9]; exact zCt_lo (by omega) (by omega)
      rw [hv] at hi
      rw [hw i hi]
      exact (x4 i hi).1
  · unfold zRq
    rw [zRp]
    refine ⟨rfl, e0, ?_⟩
    rcases hx with ⟨x1, x2, x3⟩ | ⟨x1, x2⟩ | ⟨x1, x2, x3, x4, x5⟩
    · exact Or.inl ⟨x1, by rw [e2]; exact x2, by rw [e2]; exact x3⟩
    · exact Or.inr (Or.inl ⟨x1, by rw [e2]; exact x2⟩)
    · refine Or.inr (Or.inr ⟨x1, x2, x3, ?_, fun i hi => hw x1 i hi⟩)
      unfold zSN
      rw [x4]
      exact nI_clamp (by split <;> omega)
