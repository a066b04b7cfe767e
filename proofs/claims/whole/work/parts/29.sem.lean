/-! what a tree means -/
/-- a tree that a text can have -/
def zWf : zTr → Prop
  | .leaf a => (a.1 = 1 ∧ ∃ v, a.2 = [v] ∧ v < 8) ∨ (a.1 = 3 ∧ ∃ v, a.2 = [v] ∧ v < 10000) ∨ (a.1 = 2 ∧ 1 ≤ a.2.length ∧ a.2.length ≤ 24 ∧ ∀ i, i < a.2.length → a.2.getD i 0 < 10000)
  | .branch n l r => (n / 200 = 0 ∨ n / 200 = 1 ∨ (4 ≤ n / 200 ∧ n / 200 ≤ 10)) ∧ ((n / 200 = 4 ∨ n / 200 = 5) → n % 200 = 0) ∧ ((n / 200 = 6 ∨ n / 200 = 7) → zRd (n % 200) = true) ∧ (8 ≤ n / 200 → zSk (n % 200) = n / 200) ∧ zWf r ∧ (8 ≤ n / 200 → zWf l)
/-- the numbers of a constant -/
def zCv : zTr → Option (List Nat)
  | .leaf a => if a.1 = 2 then some a.2 else none
  | .branch n _ r => if n / 200 < 4 then zCv r else none
/-- its error (0: none) and its shape -/
def zTs (sv : Nat → Nat) : zTr → Nat × Nat
  | .leaf a => zSf a.1 (a.2.getD 0 0) sv 0 0 (if a.2.length = 1 then 0 else a.2.length) false 0 0
  | .branch n l r => if (zTs sv r).1 ≠ 0 then zTs sv r else if n / 200 < 4 then zTs sv r else if n / 200 < 8 then zSf (n / 200) 0 sv 0 (zTs sv r).2 0 false 0 0 else if (zTs sv l).1 ≠ 0 then zTs sv l else zSf (n / 200) 0 sv (zTs sv l).2 (zTs sv r).2 0 (zCv l).isSome (((zCv l).getD []).getD 0 0) (((zCv l).getD []).getD 1 0)
/-- its elements -/
def zTx (sv : Nat → Nat) (xv : Nat → Nat → UInt64) : zTr → Nat → UInt64
  | .leaf a => zXo a.1 0 0 0 (xv (a.2.getD 0 0)) (fun _ => 0) (fun _ => 0) (fun i => FP.i2d (nI (a.2.getD i 0)))
  | .branch n l r => if n / 200 < 4 then zTx sv xv r else zXo (n / 200) (n % 200) (zTs sv l).2 (zTs sv r).2 (fun _ => 0) (zTx sv xv l) (zTx sv xv r) (fun _ => 0)
/-- all its results are in range -/
def zTg (sv : Nat → Nat) (xv : Nat → Nat → UInt64) : zTr → Prop
  | .leaf _ => True
  | .branch n l r => zTg sv xv r ∧ (8 ≤ n / 200 → zTg sv xv l) ∧ zRo (n / 200) (n % 200) (zTs sv l).2 (zTs sv r).2 (zTs sv (.branch n l r)).2 (zTx sv xv l) (zTx sv xv r)
/-- the arrays that it makes -/
def zAr : zTr → Nat
  | .leaf _ => 0
  | .branch n l r => (if zMk (n / 200) = true then 1 else 0) + (if 8 ≤ n / 200 then zAr l else 0) + zAr r
def zMr : zTr → Bool
  | .leaf _ => false
  | .branch n _ r => if n / 200 < 4 then zMr r else zMk (n / 200)
theorem zAcc_cg {c : Nat} {f g : Nat → UInt64} : ∀ b, (∀ i, i ≤ b → f i = g i) → zAcc c f b = zAcc c g b := by
  intro b
  induction b with
  | zero => exact fun h => h 0 (Nat.le_refl _)
  | succ b ih =>
    intro h
    rw [zAcc, zAcc, ih (fun i hi => h i (by omega)), h (b + 1) (Nat.le_refl _)]
theorem zRow_cg {x : Nat} {f g : Nat → UInt64} (h : ∀ q, q < zCt x → f q = g q) {a b c : Nat} (ha : a < zLn x) (hb : b < zLg x) : zAcc c (fun z => f (a * zLg x + z)) b = zAcc c (fun z => g (a * zLg x + z)) b :=
  zAcc_cg b (fun i hi => h _ (zIx ha (by omega)))
theorem zRo_cg {x c sl sr so : Nat} {fl fr gl gr : Nat → UInt64} (hl : 8 ≤ x → ∀ q, q < zCt sl → fl q = gl q) (hr : 4 ≤ x → ∀ q, q < zCt sr → fr q = gr q) (hsl : x = 8 → zEach sl sr = (0, so)) (hol : 8 ≤ x → zOk sl = true) (hor : 4 ≤ x → zOk sr = true) (h : zRo x c sl sr so fl fr) : zRo x c sl sr so gl gr := by
  refine ⟨fun hx a ha b hb => ?_, fun hx q hq => ?_⟩
  · rw [← zRow_cg (hr (by omega)) ha hb]
    exact h.1 hx a ha b hb
  · have he := zEach_0 (hsl hx)
    have h1 : fl (if sl = 0 then 0 else q) = gl (if sl = 0 then 0 else q) := hl (by omega) _ (by
      by_cases h0 : sl = 0
      · rw [if_pos h0]; exact (zOk_num (hol (by omega))).2.1
      · rw [if_neg h0, he.1 h0]; exact hq)
    have h2 : fr (if sr = 0 then 0 else q) = gr (if sr = 0 then 0 else q) := hr (by omega) _ (by
      by_cases h0 : sr = 0
      · rw [if_pos h0]; exact (zOk_num (hor (by omega))).2.1
      · rw [if_neg h0, he.2 h0]; exact hq)
    rw [← h1, ← h2]
    exact h.2 hx q hq
theorem zXo_cg {x c sl sr so num : Nat} {sv : Nat → Nat} {vn wn fl fr gl gr own own2 : Nat → UInt64} {cl : Bool} {v0 v1 : Nat} (hx0 : x ≠ 0) (hx : x ≤ 10) (hol : 8 ≤ x → zOk sl = true) (hor : 4 ≤ x → zOk sr = true) (hsf : zSf x num sv sl sr so cl v0 v1 = (0, so)) (hv : x = 1 → vn = wn) (hl : 8 ≤ x → ∀ q, q < zCt sl → fl q = gl q) (hr : 4 ≤ x → ∀ q, q < zCt sr → fr q = gr q) (ho : x = 2 → ∀ q, q < zCt so → own q = own2 q) : ∀ q, q < zCt so → zXo x c sl sr vn fl fr own q = zXo x c sl sr wn gl gr own2 q := by
  intro q hq
  rcases (show x = 1 ∨ x = 2 ∨ x = 3 ∨ x = 4 ∨ x = 5 ∨ x = 6 ∨ x = 7 ∨ x = 8 ∨ x = 9 ∨ x = 10 by omega) with rfl | rfl | rfl | rfl | rfl | rfl | rfl | rfl | rfl | rfl
  · exact congrFun (hv rfl) q
  · exact ho rfl q hq
  · rfl
  · have h1 : sr = so := congrArg Prod.snd hsf
    exact congrArg FP.dneg (hr (by decide) q (by rw [h1]; exact hq))
  · have h1 : zTrn sr = so := congrArg Prod.snd hsf
    have h2 := hor (by decide)
    exact hr (by decide) _ (zTq_lt h2 (by rw [← zCt_trn h2, h1]; exact hq))
  · have h1 : zRed sr = so := congrArg Prod.snd hsf
    have h2 := hor (by decide)
    have h3 := zOk_d h2
    exact zRow_cg (hr (by decide)) (by rw [← zCt_red h2, h1]; exact hq) (by omega)
  · have h1 : sr = so := congrArg Prod.snd hsf
    have h2 := hor (by decide)
    have h3 := zOk_d h2
    rw [← h1] at hq
    exact zRow_cg (hr (by decide)) (Nat.div_lt_of_lt_mul (by rw [Nat.mul_comm]; exact hq)) (Nat.mod_lt _ (by omega))
  · have he := zEach_0 hsf
    have h1 : fl (if sl = 0 then 0 else q) = gl (if sl = 0 then 0 else q) := hl (by decide) _ (by
      by_cases h0 : sl = 0
      · rw [if_pos h0]; exact (zOk_num (hol (by decide))).2.1
      · rw [if_neg h0, he.1 h0]; exact hq)
    have h2 : fr (if sr = 0 then 0 else q) = gr (if sr = 0 then 0 else q) := hr (by decide) _ (by
      by_cases h0 : sr = 0
      · rw [if_pos h0]; exact (zOk_num (hor (by decide))).2.1
      · rw [if_neg h0, he.2 h0]; exact hq)
    show zOp c (fl (if sl = 0 then 0 else q)) (fr (if sr = 0 then 0 else q)) = zOp c (gl (if sl = 0 then 0 else q)) (gr (if sr = 0 then 0 else q))
    rw [h1, h2]
  · have h1 := zJoi_0 hsf
    show (if q < zCt sl then fl q else fr (q - zCt sl)) = (if q < zCt sl then gl q else gr (q - zCt sl))
    by_cases h2 : q < zCt sl
    · rw [if_pos h2, if_pos h2]; exact hl (by decide) q h2
    · rw [if_neg h2, if_neg h2]; exact hr (by decide) _ (by omega)
  · exact hr (by decide) _ (Nat.mod_lt _ (zOk_num (hor (by decide))).2.1)
theorem zAnw_cg {cl : Bool} {s v0 v1 w0 w1 cnt : Nat} (h0 : cl = true → v0 = w0) (h1 : cl = true → s ≠ 0 → v1 = w1) : zAnw cl s v0 v1 cnt = zAnw cl s w0 w1 cnt := by
  unfold zAnw
  cases cl with
  | false => rw [if_pos (Or.inl rfl), if_pos (Or.inl rfl)]
  | true =>
    rw [h0 rfl]
    by_cases hs : s = 0
    · simp only [if_pos hs]
    · rw [h1 rfl hs]
theorem zTs_cv {sv : Nat → Nat} : ∀ (t : zTr) (v : List Nat), zCv t = some v → zTs sv t = (0, if v.length = 1 then 0 else v.length) := by
  intro t
  induction t with
  | leaf a =>
    intro v h
    rw [zCv] at h
    by_cases h2 : a.1 = 2
    · rw [if_pos h2] at h
      cases h
      rw [zTs, h2]
      rfl
    · rw [if_neg h2] at h
      cases h
  | branch n l t ihl iht =>
    intro v h
    rw [zCv] at h
    by_cases h4 : n / 200 < 4
    · rw [if_pos h4] at h
      rw [zTs, if_pos h4, iht v h]
      split <;> rfl
    · rw [if_neg h4] at h
      cases h
section SE
variable {kd sgn num l9 r9 : Nat → Nat} {w : Nat → Nat → Nat} {s0 : Nat → Nat}
/-- a root that is a constant -/
theorem zRp_cv : ∀ (t : zTr) (b r : Nat), zWf t → zRp kd sgn num l9 r9 s0 w t b r → (decide (kd r = 2) = (zCv t).isSome) ∧ ∀ v, zCv t = some v → s0 (8 + r) = (if v.length = 1 then 0 else v.length) ∧ (∀ i, i < v.length → w r i = v.getD i 0) ∧ 1 ≤ v.length := by
  intro t
  induction t with
  | leaf a =>
    intro b r hw h
    rw [zRp] at h
    obtain ⟨rfl, h1, h2⟩ := h
    rw [zCv]
    rcases h2 with h2 | h2 | h2
    · rw [if_neg (by omega), h1, h2.1]
      exact ⟨rfl, fun v hv => by cases hv⟩
    · rw [if_neg (by omega), h1, h2.1]
      exact ⟨rfl, fun v hv => by cases hv⟩
    · rw [if_pos h2.1, h1, h2.1]
      refine ⟨rfl, fun v hv => ?_⟩
      cases hv
      exact ⟨h2.2.2.2.1, h2.2.2.2.2, h2.2.1⟩
  | branch n l t ihl iht =>
    intro b r hw h
    rw [zRp] at h
    rw [zWf] at hw
    rw [zCv]
    by_cases h1 : n / 200 = 1
    · rw [if_pos h1] at h
      rw [if_pos (by omega)]
      exact iht b r hw.2.2.2.2.1 h
    · rw [if_neg h1] at h
      by_cases h0 : n / 200 = 0
      · rw [if_pos h0] at h
        rw [if_pos (by omega)]
        exact iht _ r hw.2.2.2.2.1 h.2
      · rw [if_neg h0] at h
        obtain ⟨g1, rfl, -⟩ := h
        rw [if_neg (by omega)]
        refine ⟨?_, fun v hv => by cases hv⟩
        rw [g1, decide_eq_false (by omega)]
        rfl
/-- the shapes of the nodes of a tree -/
theorem zShT {sv : Nat → Nat} : ∀ (t : zTr) (b r : Nat) (s : Nat → Nat), zWf t → zRp kd sgn num l9 r9 s0 w t b r → (∀ j, j < 8 → s j = sv j) → (∀ k, b ≤ k → k < b + zNN t → kd k = 2 → s (8 + k) = s0 (8 + k)) →
    ((zTs sv t).1 ≠ 0 ∧ (zShs kd num l9 r9 w (b + zNN t) s).1 = (zTs sv t).1) ∨ ((zTs sv t).1 = 0 ∧ ∃ s2, zShs kd num l9 r9 w (b + zNN t) s = zShs kd num l9 r9 w b s2 ∧ s2 (8 + r) = (zTs sv t).2 ∧ ∀ j, (j < 8 + b ∨ 8 + b + zNN t ≤ j) → s2 j = s j) := by
  intro t
  induction t with
  | leaf a =>
    intro b r s hw h hv hc
    rw [zRp] at h
    obtain ⟨rfl, h1, h2⟩ := h
    have e : zSfN kd num l9 r9 w s r = zTs sv (.leaf a) := by
      rw [zTs]
      unfold zSfN zSf
      rw [h1]
      rcases h2 with h2 | h2 | h2
      · rw [if_pos h2.1, if_pos h2.1, h2.2.1, hv _ h2.2.2]
        rfl
      · rw [h2.1, h2.2]
        rfl
      · rw [h2.1, hc r (Nat.le_refl _) (Nat.lt_succ_self _) (by omega), h2.2.2.2.1]
        rfl
    show _ ∨ _
    rw [zNN, zShs, e]
    by_cases hz : (zTs sv (.leaf a)).1 ≠ 0
    · exact Or.inl ⟨hz, by rw [if_pos hz]⟩
    · refine Or.inr ⟨Decidable.not_not.mp hz, _, by rw [if_neg hz], va_up_self _ _ _, fun j hj => va_up_ne _ _ (by omega)⟩
  | branch n l t ihl iht =>
    intro b r s hw h hv hc
    rw [zRp] at h
    rw [zWf] at hw
    obtain ⟨w1, -, -, -, w5, w6⟩ := hw
    by_cases h1 : n / 200 = 1
    · rw [if_pos h1] at h
      have e1 : zNN (.branch n l t) = zNN t := by rw [zNN, if_pos h1]
      have e2 : zTs sv (.branch n l t) = zTs sv t := by
        rw [zTs]
        split
        · rfl
        · rw [if_pos (by omega)]
      rw [e1, e2]
      rw [e1] at hc
      exact iht b r s w5 h hv hc
    · rw [if_neg h1] at h
      obtain ⟨g1, h⟩ := h
      by_cases h0 : n / 200 = 0
      · rw [if_pos h0] at h
        have e1 : zNN (.branch n l t) = 1 + zNN t := zNN_1 (by omega) (by omega)
        have e2 : zTs sv (.branch n l t) = zTs sv t := by
          rw [zTs]
          split
          · rfl
          · rw [if_pos (by omega)]
        rw [e1] at hc
        rw [e1, e2, show b + (1 + zNN t) = b + 1 + zNN t by omega]
        rcases iht (b + 1) r s w5 h hv (fun k k1 k2 => hc k (by omega) (by omega)) with ⟨a1, a2⟩ | ⟨a1, s2, a2, a3, a4⟩
        · exact Or.inl ⟨a1, a2⟩
        · refine Or.inr ⟨a1, s2, ?_, a3, fun j hj => a4 j (by omega)⟩
          have ez : zSfN kd num l9 r9 w s2 b = (0, s2 (8 + b)) := by
            unfold zSfN zSf
            rw [g1, h0]
            rfl
          rw [a2, zShs, ez, if_neg (fun q => q rfl), va_up_id]
      · rw [if_neg h0] at h
        obtain ⟨rfl, g2, g3, g4⟩ := h
        have w1 : 4 ≤ n / 200 ∧ n / 200 ≤ 10 := by omega
        by_cases h8 : n / 200 < 8
        · rw [if_pos h8, Nat.add_zero] at g3
          have e1 : zNN (.branch n l t) = 1 + zNN t := zNN_1 (by omega) h8
          rw [e1] at hc
          have hrt := zRp_root t _ _ g3
          have key := iht (r + 1) (r9 r) s w5 g3 hv (fun k k1 k2 => hc k (by omega) (by omega))
          rw [zTs, e1, show r + (1 + zNN t) = r + 1 + zNN t by omega]
          rcases key with ⟨a1, a2⟩ | ⟨a1, s2, a2, a3, a4⟩
          · rw [if_pos a1]
            exact Or.inl ⟨a1, a2⟩
          · rw [if_neg (fun q => q a1), if_neg (by omega), if_pos h8]
            have ez : zSfN kd num l9 r9 w s2 r = zSf (n / 200) 0 sv 0 (zTs sv t).2 0 false 0 0 := by
              unfold zSfN
              rw [g1, a3]
              rcases (show n / 200 = 4 ∨ n / 200 = 5 ∨ n / 200 = 6 ∨ n / 200 = 7 by omega) with q | q | q | q <;> rw [q] <;> rfl
            rw [a2, zShs, ez]
            by_cases hz : (zSf (n / 200) 0 sv 0 (zTs sv t).2 0 false 0 0).1 ≠ 0
            · exact Or.inl ⟨hz, by rw [if_pos hz]⟩
            · exact Or.inr ⟨Decidable.not_not.mp hz, _, by rw [if_neg hz], va_up_self _ _ _, fun j hj => by rw [va_up_ne _ _ (by omega)]; exact a4 j (by omega)⟩
        · rw [if_neg h8] at g3
          have g4 := g4 (by omega)
          have e1 : zNN (.branch n l t) = 1 + zNN l + zNN t := zNN_2 (by omega)
          rw [e1] at hc
          have hrt := zRp_root t _ _ g3
          have hlt := zRp_root l _ _ g4
          have key := iht (r + 1 + zNN l) (r9 r) s w5 g3 hv (fun k k1 k2 => hc k (by omega) (by omega))
          rw [zTs, e1, show r + (1 + zNN l + zNN t) = r + 1 + zNN l + zNN t by omega]
          rcases key with ⟨a1, a2⟩ | ⟨a1, s2, a2, a3, a4⟩
          · rw [if_pos a1]
            exact Or.inl ⟨a1, a2⟩
          · rw [if_neg (fun q => q a1), if_neg (by omega), if_neg h8, a2]
            have key2 := ihl (r + 1) (l9 r) s2 (w6 (by omega)) g4 (fun j hj => by rw [a4 j (by omega)]; exact hv j hj) (fun k k1 k2 k3 => by rw [a4 _ (by omega)]; exact hc k (by omega) (by omega) k3)
            rcases key2 with ⟨c1, c2⟩ | ⟨c1, s3, c2, c3, c4⟩
            · rw [if_pos c1]
              exact Or.inl ⟨c1, c2⟩
            · rw [if_neg (fun q => q c1), c2]
              obtain ⟨cv1, cv2⟩ := zRp_cv l (r + 1) (l9 r) (w6 (by omega)) g4
              have ez : zSfN kd num l9 r9 w s3 r = zSf (n / 200) 0 sv (zTs sv l).2 (zTs sv t).2 0 (zCv l).isSome (((zCv l).getD []).getD 0 0) (((zCv l).getD []).getD 1 0) := by
                unfold zSfN
                rw [g1, c3, c4 (8 + r9 r) (by omega), a3, cv1]
                rcases (show n / 200 = 8 ∨ n / 200 = 9 ∨ n / 200 = 10 by omega) with q | q | q
                · rw [q]; rfl
                · rw [q]; rfl
                · rw [q]
                  show zAnw (zCv l).isSome (zTs sv l).2 (w (l9 r) 0) (w (l9 r) 1) (zCt (zTs sv t).2) = zAnw (zCv l).isSome (zTs sv l).2 (((zCv l).getD []).getD 0 0) (((zCv l).getD []).getD 1 0) (zCt (zTs sv t).2)
                  rcases hcv : zCv l with _ | v
                  · rfl
                  · obtain ⟨v1, v2, v3⟩ := cv2 v hcv
                    have hsh : (zTs sv l).2 = if v.length = 1 then 0 else v.length := congrArg Prod.snd (zTs_cv l v hcv)
                    exact zAnw_cg (fun _ => v2 0 (by omega)) (fun _ h9 => v2 1 (by
                      rw [hsh] at h9
                      split at h9 <;> omega))
              rw [zShs, ez]
              by_cases hz : (zSf (n / 200) 0 sv (zTs sv l).2 (zTs sv t).2 0 (zCv l).isSome (((zCv l).getD []).getD 0 0) (((zCv l).getD []).getD 1 0)).1 ≠ 0
              · exact Or.inl ⟨hz, by rw [if_pos hz]⟩
              · exact Or.inr ⟨Decidable.not_not.mp hz, _, by rw [if_neg hz], va_up_self _ _ _, fun j hj => by rw [va_up_ne _ _ (by omega)]; rw [c4 j (by omega)]; exact a4 j (by omega)⟩
end SE
