/-! the elements of a tree -/
theorem zCr_wf {c : Nat → Nat} : ∀ f p q2 v, zCr c f p = some (q2, v) → v.length ≤ f ∧ ∀ i, i < v.length → v.getD i 0 < 10000 := by
  intro f
  induction f with
  | zero =>
    intro p q2 v h
    rw [zCr] at h
    split at h
    · cases h
    · cases h
      exact ⟨Nat.le_refl _, fun i hi => absurd hi (Nat.not_lt_zero _)⟩
  | succ f ih =>
    intro p q2 v h
    rw [zCr] at h
    split at h
    · split at h
      · cases h
      · rcases hr : zCr c f (p + 1 + zDr c 4 (p + 1)) with _ | ⟨q3, u⟩
        · rw [hr] at h; cases h
        · rw [hr] at h
          cases h
          obtain ⟨h1, h2⟩ := ih _ _ _ hr
          refine ⟨Nat.succ_le_succ h1, fun i hi => ?_⟩
          cases i with
          | zero => exact zNm_4
          | succ i =>
            exact h2 i (Nat.lt_of_succ_lt_succ hi)
    · cases h
      exact ⟨Nat.zero_le _, fun i hi => absurd hi (Nat.not_lt_zero _)⟩
theorem zLf_wf {c : Nat → Nat} {q q2 : Nat} {t : zTr} (h : zLf c q = some (q2, t)) : zWf t := by
  unfold zLf at h
  by_cases h1 : 97 ≤ c q ∧ c q ≤ 104
  · rw [if_pos h1] at h
    cases h
    exact Or.inl ⟨rfl, _, rfl, by omega⟩
  · rw [if_neg h1] at h
    by_cases h2 : c q = 105
    · rw [if_pos h2] at h
      by_cases h3 : zDr c 4 (q + 1) = 0
      · rw [if_pos h3] at h; cases h
      · rw [if_neg h3] at h
        cases h
        exact Or.inr (Or.inl ⟨rfl, _, rfl, zNm_4⟩)
    · rw [if_neg h2] at h
      rcases hz : zC c q with _ | ⟨q3, v⟩
      · rw [hz] at h; cases h
      · rw [hz] at h
        cases h
        refine Or.inr (Or.inr ?_)
        by_cases h4 : zDr c 4 q = 0
        · unfold zC at hz
          rw [if_pos h4] at hz; cases hz
        · rw [zC_0 h4] at hz
          rcases hr : zCr c 23 (q + zDr c 4 q) with _ | ⟨q4, u⟩
          · rw [hr] at hz; cases hz
          · rw [hr] at hz
            cases hz
            obtain ⟨h5, h6⟩ := zCr_wf _ _ _ _ hr
            refine ⟨rfl, Nat.succ_le_succ (Nat.zero_le _), ?_, fun i hi => ?_⟩
            · show (u.length + 1) ≤ 24
              omega
            · cases i with
              | zero => exact zNm_4
              | succ i => exact h6 i (Nat.lt_of_succ_lt_succ hi)
theorem zFk_c {x : Nat} (h : zFk x ≠ 0) : zFk x = 4 ∨ zFk x = 5 ∨ zFk x = 6 ∨ zFk x = 7 := by have := zFk_ge h; have := zFk_lt x; omega
theorem zSk_c {x : Nat} (h : zSk x ≠ 0) : x < 200 := by
  unfold zSk at h
  (repeat' split at h) <;> omega
theorem zRd_c {x : Nat} (h : zRd x = true) : x < 200 := by
  unfold zRd at h
  rw [decide_eq_true_iff] at h
  omega
theorem zE_wf {c : Nat → Nat} : ∀ f q q2 t, zE c f q = some (q2, t) → zWf t := by
  intro f
  induction f with
  | zero => intro q q2 t h; cases h
  | succ f ih =>
    intro q q2 t h
    by_cases h0 : zFk (c q) = 0
    · rcases hp : zPt c (zE c f) q with _ | ⟨q1, t1⟩
      · rw [zE_p0 h0 hp] at h; cases h
      · have hw1 : zWf t1 := by
          unfold zPt at hp
          by_cases h4 : c q = 40
          · rw [if_pos h4] at hp
            rcases he : zE c f (q + 1) with _ | ⟨q3, t3⟩
            · rw [he] at hp; cases hp
            · rw [he] at hp
              by_cases h5 : c q3 = 41
              · simp only [if_pos h5] at hp
                cases hp
                exact ⟨Or.inr (Or.inl rfl), fun q => absurd q (by decide), fun q => absurd q (by decide), fun q => absurd q (by decide), ih _ _ _ he, fun q => absurd q (by decide)⟩
              · simp only [if_neg h5] at hp
                cases hp
          · rw [if_neg h4] at hp
            exact zLf_wf hp
        by_cases h6 : zSk (c q1) = 0
        · rw [zE_p1 h0 hp h6] at h
          cases h
          exact ⟨Or.inl rfl, fun q => absurd q (by decide), fun q => absurd q (by decide), fun q => absurd q (by decide), hw1, fun q => absurd q (by decide)⟩
        · rw [zE_p2 h0 hp h6] at h
          rcases he : zE c f (q1 + 1) with _ | ⟨q3, t3⟩
          · rw [he] at h; cases h
          · rw [he] at h
            cases h
            have a1 := zSk_ge h6
            have a2 := zSk_lt (c q1)
            have a3 := zSk_c h6
            have e1 : (zSk (c q1) * 200 + c q1) / 200 = zSk (c q1) := by omega
            have e2 : (zSk (c q1) * 200 + c q1) % 200 = c q1 := by omega
            rw [zWf, e1, e2]
            exact ⟨by omega, fun q => by omega, fun q => by omega, fun _ => rfl, ih _ _ _ he, fun _ => hw1⟩
    · by_cases h1 : zFk (c q) = 6 ∨ zFk (c q) = 7
      · by_cases h2 : zRd (c (q + 1)) = true
        · rw [zE_f2 h1 h2] at h
          rcases he : zE c f (q + 1 + 1) with _ | ⟨q3, t3⟩
          · rw [he] at h; cases h
          · rw [he] at h
            cases h
            have a3 := zRd_c h2
            have e1 : (zFk (c q) * 200 + c (q + 1)) / 200 = zFk (c q) := by omega
            have e2 : (zFk (c q) * 200 + c (q + 1)) % 200 = c (q + 1) := by omega
            rw [zWf, e1, e2]
            exact ⟨by omega, fun q => by omega, fun _ => h2, fun q => by omega, ih _ _ _ he, fun q => by omega⟩
        · rw [zE_f3 h1 (Bool.eq_false_iff.mpr h2)] at h; cases h
      · rw [zE_f1 h0 h1] at h
        rcases he : zE c f (q + 1) with _ | ⟨q3, t3⟩
        · rw [he] at h; cases h
        · rw [he] at h
          cases h
          have a1 := zFk_c h0
          have e1 : (zFk (c q) * 200) / 200 = zFk (c q) := by omega
          have e2 : (zFk (c q) * 200) % 200 = 0 := by omega
          rw [zWf, e1, e2]
          exact ⟨by omega, fun q => rfl, fun q => absurd q h1, fun q => by omega, ih _ _ _ he, fun q => by omega⟩
theorem zRo_u {x c sl sl2 sr so so2 : Nat} {fl fr gl : Nat → UInt64} (hx : x ≠ 8) (h : zRo x c sl sr so fl fr) : zRo x c sl2 sr so2 gl fr := ⟨h.1, fun q => absurd q hx⟩
theorem zXo_u {x c sl sl2 sr : Nat} {vn wn fl gl fr own own2 : Nat → UInt64} (h4 : 4 ≤ x) (h8 : x < 8) (q : Nat) : zXo x c sl sr vn fl fr own q = zXo x c sl2 sr wn gl fr own2 q := by
  rcases (show x = 4 ∨ x = 5 ∨ x = 6 ∨ x = 7 by omega) with rfl | rfl | rfl | rfl <;> rfl
theorem zXo_b {x c sl sr : Nat} {vn wn fl fr own own2 : Nat → UInt64} (h8 : 8 ≤ x) (h10 : x ≤ 10) (q : Nat) : zXo x c sl sr vn fl fr own q = zXo x c sl sr wn fl fr own2 q := by
  rcases (show x = 8 ∨ x = 9 ∨ x = 10 by omega) with rfl | rfl | rfl <;> rfl
section WE
variable {kd sgn num l9 r9 : Nat → Nat} {w : Nat → Nat → Nat} {s : Nat → Nat}
theorem zN_l {sv : Nat → Nat} {a : Nat × List Nat} {b r : Nat} (hv : ∀ j, j < 8 → s j = sv j) (h : zRp kd sgn num l9 r9 s w (.leaf a) b r) : zSfN kd num l9 r9 w s r = zTs sv (.leaf a) := by
  rw [zRp] at h
  obtain ⟨rfl, h1, h2⟩ := h
  rw [zTs]
  unfold zSfN zSf
  rw [h1]
  rcases h2 with h2 | h2 | h2
  · rw [if_pos h2.1, if_pos h2.1, h2.2.1, hv _ h2.2.2]
    rfl
  · rw [h2.1, h2.2]
    rfl
  · rw [h2.1, h2.2.2.2.1]
    rfl
theorem zN_u {sv : Nat → Nat} {x r : Nat} {sr : Nat} (g1 : kd r = x) (h4 : 4 ≤ x) (h8 : x < 8) (hr : s (8 + r9 r) = sr) : zSfN kd num l9 r9 w s r = zSf x 0 sv 0 sr 0 false 0 0 := by
  unfold zSfN
  rw [g1, hr]
  rcases (show x = 4 ∨ x = 5 ∨ x = 6 ∨ x = 7 by omega) with q | q | q | q <;> rw [q] <;> rfl
theorem zN_b {sv : Nat → Nat} {x r b : Nat} {l : zTr} {sl sr : Nat} (g1 : kd r = x) (h8 : 8 ≤ x) (h10 : x ≤ 10) (hw : zWf l) (hL : zRp kd sgn num l9 r9 s w l b (l9 r)) (hts : zTs sv l = (0, sl)) (hl : s (8 + l9 r) = sl) (hr : s (8 + r9 r) = sr) : zSfN kd num l9 r9 w s r = zSf x 0 sv sl sr 0 (zCv l).isSome (((zCv l).getD []).getD 0 0) (((zCv l).getD []).getD 1 0) := by
  obtain ⟨cv1, cv2⟩ := zRp_cv l b (l9 r) hw hL
  unfold zSfN
  rw [g1, hl, hr, cv1]
  rcases (show x = 8 ∨ x = 9 ∨ x = 10 by omega) with q | q | q
  · rw [q]; rfl
  · rw [q]; rfl
  · rw [q]
    show zAnw (zCv l).isSome sl (w (l9 r) 0) (w (l9 r) 1) (zCt sr) = zAnw (zCv l).isSome sl (((zCv l).getD []).getD 0 0) (((zCv l).getD []).getD 1 0) (zCt sr)
    rcases hcv : zCv l with _ | v
    · rfl
    · obtain ⟨v1, v2, v3⟩ := cv2 v hcv
      have hsh : sl = if v.length = 1 then 0 else v.length := (congrArg Prod.snd hts).symm.trans (congrArg Prod.snd (zTs_cv l v hcv))
      exact zAnw_cg (fun _ => v2 0 (by omega)) (fun _ h9 => v2 1 (by
        rw [hsh] at h9
        split at h9 <;> omega))
/-- the shapes that stand fast are those of the tree -/
theorem zFx {sv : Nat → Nat} (hv : ∀ j, j < 8 → s j = sv j) : ∀ (t : zTr) (b r : Nat), zWf t → zRp kd sgn num l9 r9 s w t b r → (∀ k, b ≤ k → k < b + zNN t → zSfN kd num l9 r9 w s k = (0, s (8 + k))) → zTs sv t = (0, s (8 + r)) := by
  intro t
  induction t with
  | leaf a =>
    intro b r hw h hf
    rw [← zN_l hv h]
    rw [zRp] at h
    obtain ⟨rfl, -⟩ := h
    exact hf r (Nat.le_refl _) (Nat.lt_succ_self _)
  | branch n l t ihl iht =>
    intro b r hw h hf
    rw [zRp] at h
    rw [zWf] at hw
    obtain ⟨w1, -, -, -, w5, w6⟩ := hw
    by_cases h1 : n / 200 = 1
    · rw [if_pos h1] at h
      rw [zNN, if_pos h1] at hf
      have e := iht b r w5 h hf
      rw [zTs, e, if_neg (fun q => q rfl), if_pos (by omega)]
    · rw [if_neg h1] at h
      obtain ⟨g1, h⟩ := h
      by_cases h0 : n / 200 = 0
      · rw [if_pos h0] at h
        rw [zNN_1 (by omega) (by omega)] at hf
        have e := iht (b + 1) r w5 h (fun k k1 k2 => hf k (by omega) (by omega))
        rw [zTs, e, if_neg (fun q => q rfl), if_pos (by omega)]
      · rw [if_neg h0] at h
        obtain ⟨rfl, g2, g3, g4⟩ := h
        by_cases h8 : n / 200 < 8
        · rw [if_pos h8, Nat.add_zero] at g3
          rw [zNN_1 (by omega) h8] at hf
          have e := iht (r + 1) (r9 r) w5 g3 (fun k k1 k2 => hf k (by omega) (by omega))
          rw [zTs, e, if_neg (fun q => q rfl), if_neg (by omega), if_pos h8, ← zN_u (s := s) g1 (by omega) h8 rfl]
          exact hf r (by omega) (by omega)
        · rw [if_neg h8] at g3
          have g4 := g4 (by omega)
          rw [zNN_2 (by omega)] at hf
          have e := iht _ (r9 r) w5 g3 (fun k k1 k2 => hf k (by omega) (by omega))
          have e2 := ihl _ (l9 r) (w6 (by omega)) g4 (fun k k1 k2 => hf k (by omega) (by omega))
          rw [zTs, e, if_neg (fun q => q rfl), if_neg (by omega), if_neg h8, e2, if_neg (fun q => q rfl)]
          rw [← zN_b (s := s) g1 (by omega) (by omega) (w6 (by omega)) g4 e2 rfl rfl]
          exact hf r (by omega) (by omega)
/-- the run over the nodes, with what comes behind it -/
def zWy (kd sgn num l9 r9 : Nat → Nat) (s : Nat → Nat) (X : Prop) (R : (Nat → Nat → UInt64) → Prop) : Nat → (Nat → Nat → UInt64) → Prop
  | 0, e => R e
  | k + 1, e => (X ∧ ¬ zRN kd sgn l9 r9 s e k) ∨ (zRN kd sgn l9 r9 s e k ∧ ∃ f : Nat → UInt64, (∀ q, q < zCt (s (8 + k)) → f q = zXN kd sgn num l9 r9 s e k q) ∧ zWy kd sgn num l9 r9 s X R k (va_up e (8 + k) f))
theorem zWks_y {e3 : Nat → Nat → UInt64} : ∀ i e, zWks kd sgn num l9 r9 s i e e3 → zWy kd sgn num l9 r9 s False (fun e2 => e3 = e2) i e := by
  intro i
  induction i with
  | zero => exact fun e h => h
  | succ i ih =>
    intro e h
    obtain ⟨h1, f, h2, h3⟩ := h
    exact Or.inr ⟨h1, f, h2, ih _ h3⟩
theorem zWkx_y : ∀ i e, zWkx kd sgn num l9 r9 s i e → zWy kd sgn num l9 r9 s True (fun _ => False) i e := by
  intro i
  induction i with
  | zero => exact fun e h => h
  | succ i ih =>
    intro e h
    rcases h with h | ⟨h1, f, h2, h3⟩
    · exact Or.inl ⟨trivial, h⟩
    · exact Or.inr ⟨h1, f, h2, ih _ h3⟩
theorem zRN_no {e : Nat → Nat → UInt64} {k : Nat} (h : kd k < 6 ∨ 8 < kd k) : zRN kd sgn l9 r9 s e k := ⟨fun q => by omega, fun q => by omega⟩
theorem zWyT {sv : Nat → Nat} {xv : Nat → Nat → UInt64} {X : Prop} {R : (Nat → Nat → UInt64) → Prop} (hv : ∀ j, j < 8 → s j = sv j) : ∀ (t : zTr) (b r : Nat) (e : Nat → Nat → UInt64), zWf t → zRp kd sgn num l9 r9 s w t b r → (∀ k, b ≤ k → k < b + zNN t → zSfN kd num l9 r9 w s k = (0, s (8 + k)) ∧ zOk (s (8 + k)) = true) → (∀ j, j < 8 → e j = xv j) → (∀ k, b ≤ k → k < b + zNN t → kd k = 2 → ∀ i, i < zCt (s (8 + k)) → e (8 + k) i = FP.i2d (nI (w k i))) →
    zWy kd sgn num l9 r9 s X R (b + zNN t) e → (X ∧ ¬ zTg sv xv t) ∨ (zTg sv xv t ∧ ∃ e1, zWy kd sgn num l9 r9 s X R b e1 ∧ (∀ i, i < zCt (s (8 + r)) → e1 (8 + r) i = zTx sv xv t i) ∧ ∀ j, (j < 8 + b ∨ 8 + b + zNN t ≤ j) → e1 j = e j) := by
  intro t
  induction t with
  | leaf a =>
    intro b r e hw h hf he hc hy
    rw [zRp] at h
    obtain ⟨rfl, h1, h2⟩ := h
    have hz := hf r (Nat.le_refl _) (Nat.lt_succ_self _)
    rw [zNN, zWy] at hy
    rcases hy with ⟨hX, hy⟩ | ⟨hy1, f, hy2, hy3⟩
    · exact absurd (zRN_no (by omega)) hy
    · refine Or.inr ⟨trivial, _, hy3, fun i hi => ?_, fun j hj => va_up_ne _ _ (by rw [zNN] at hj; omega)⟩
      rw [va_up_self, hy2 i hi, zTx]
      unfold zXN
      rw [h1]
      rcases h2 with h2 | h2 | h2
      · rw [h2.1, h2.2.1]
        show e (num r) i = xv (num r) i
        rw [he _ h2.2.2]
      · rw [h2.1]
        rfl
      · have hc := hc r (Nat.le_refl _) (Nat.lt_succ_self _) (by omega) i hi
        rw [h2.1]
        show e (8 + r) i = FP.i2d (nI (a.2.getD i 0))
        rw [hc, h2.2.2.2.2 i (by
          have e9 := h2.2.2.2.1
          rw [e9] at hi
          by_cases h7 : a.2.length = 1
          · rw [if_pos h7] at hi
            have : zCt 0 = 1 := rfl
            omega
          · rw [if_neg h7, zCt_lo (by omega) (by omega)] at hi
            exact hi)]
  | branch n l t ihl iht =>
    intro b r e hw h hf he hc hy
    have hfx := zFx hv (.branch n l t) b r hw h (fun k k1 k2 => (hf k k1 k2).1)
    have hwt := hw
    rw [zRp] at h
    rw [zWf] at hw
    obtain ⟨w1, -, -, -, w5, w6⟩ := hw
    by_cases h1 : n / 200 = 1
    · rw [if_pos h1] at h
      have en : zNN (.branch n l t) = zNN t := by rw [zNN, if_pos h1]
      rw [en] at hf hc hy ⊢
      have key := iht b r e w5 h hf he hc hy
      have et : zTx sv xv (.branch n l t) = zTx sv xv t := by rw [zTx, if_pos (by omega)]
      rw [et, zTg]
      rcases key with ⟨k1, k2⟩ | ⟨k1, k2⟩
      · exact Or.inl ⟨k1, fun q => k2 q.1⟩
      · exact Or.inr ⟨⟨k1, fun q => by omega, ⟨fun q => by omega, fun q => by omega⟩⟩, k2⟩
    · rw [if_neg h1] at h
      obtain ⟨g1, h⟩ := h
      by_cases h0 : n / 200 = 0
      · rw [if_pos h0] at h
        have en : zNN (.branch n l t) = 1 + zNN t := zNN_1 (by omega) (by omega)
        rw [en] at hf hc hy ⊢
        have hrt := zRp_root t _ _ h
        rw [show b + (1 + zNN t) = b + 1 + zNN t by omega] at hy
        have key := iht (b + 1) r e w5 h (fun k k1 k2 => hf k (by omega) (by omega)) he (fun k k1 k2 => hc k (by omega) (by omega)) hy
        have et : zTx sv xv (.branch n l t) = zTx sv xv t := by rw [zTx, if_pos (by omega)]
        rw [et, zTg]
        rcases key with ⟨k1, k2⟩ | ⟨k1, e1, k2, k3, k4⟩
        · exact Or.inl ⟨k1, fun q => k2 q.1⟩
        · rw [zWy] at k2
          rcases k2 with ⟨hX, k2⟩ | ⟨m1, f, m2, m3⟩
          · exact absurd (zRN_no (by omega)) k2
          · refine Or.inr ⟨⟨k1, fun q => by omega, ⟨fun q => by omega, fun q => by omega⟩⟩, _, m3, fun i hi => ?_, fun j hj => ?_⟩
            · rw [va_up_ne _ _ (by omega)]
              exact k3 i hi
            · rw [va_up_ne _ _ (by omega)]
              exact k4 j (by omega)
      · rw [if_neg h0] at h
        obtain ⟨rfl, g2, g3, g4⟩ := h
        by_cases h8 : n / 200 < 8
        · rw [if_pos h8, Nat.add_zero] at g3
          have en : zNN (.branch n l t) = 1 + zNN t := zNN_1 (by omega) h8
          rw [en] at hf hc hy ⊢
          have hrt := zRp_root t _ _ g3
          rw [show r + (1 + zNN t) = r + 1 + zNN t by omega] at hy
          have key := iht (r + 1) (r9 r) e w5 g3 (fun k k1 k2 => hf k (by omega) (by omega)) he (fun k k1 k2 => hc k (by omega) (by omega)) hy
          have fxt := zFx hv t (r + 1) (r9 r) w5 g3 (fun k k1 k2 => (hf k (by omega) (by omega)).1)
          have et : ∀ i, zTx sv xv (.branch n l t) i = zXo (n / 200) (n % 200) (s (8 + l9 r)) (s (8 + r9 r)) (e (num r)) (e (8 + l9 r)) (zTx sv xv t) (e (8 + r)) i := fun i => by
            rw [zTx, if_neg (by omega), fxt]
            exact zXo_u (by omega) h8 i
          have ok := (hf (r9 r) (by omega) (by omega)).2
          rcases key with ⟨k1, k2⟩ | ⟨k1, e1, k2, k3, k4⟩
          · exact Or.inl ⟨k1, fun q => k2 q.1⟩
          · have tg : zTg sv xv (.branch n l t) ↔ zRN kd sgn l9 r9 s e1 r := by
              rw [zTg, fxt]
              unfold zRN
              rw [g1, g2]
              constructor
              · intro q
                exact zRo_cg (fl := e1 (8 + l9 r)) (fun q => by omega) (fun _ i hi => (k3 i hi).symm) (fun q => by omega) (fun q => by omega) (fun _ => ok) (zRo_u (by omega) q.2.2)
              · intro q
                exact ⟨k1, fun q => by omega, zRo_u (by omega) (zRo_cg (gl := e1 (8 + l9 r)) (fun q => by omega) (fun _ i hi => k3 i hi) (fun q => by omega) (fun q => by omega) (fun _ => ok) q)⟩
            rw [zWy] at k2
            rcases k2 with ⟨hX, k2⟩ | ⟨m1, f, m2, m3⟩
            · exact Or.inl ⟨hX, fun q => k2 (tg.mp q)⟩
            · refine Or.inr ⟨tg.mpr m1, _, m3, fun i hi => ?_, fun j hj => ?_⟩
              · rw [va_up_self, m2 i hi, et i]
                unfold zXN
                rw [g1, g2]
                have hs9 : zSf (n / 200) (num r) s (s (8 + l9 r)) (s (8 + r9 r)) (s (8 + r)) (decide (kd (l9 r) = 2)) (w (l9 r) 0) (w (l9 r) 1) = (0, s (8 + r)) := by
                  have := (hf r (by omega) (by omega)).1
                  unfold zSfN at this
                  rw [g1] at this
                  exact this
                exact (zXo_cg (wn := e1 (num r)) (gl := e1 (8 + l9 r)) (own2 := e1 (8 + r)) (by omega) (by omega) (fun q => by omega) (fun _ => ok) hs9 (fun q => by omega) (fun q => by omega) (fun _ i hi => k3 i hi) (fun q => by omega) i hi).trans (zXo_u (by omega) h8 i)
              · rw [va_up_ne _ _ (by omega)]
                exact k4 j (by omega)
        · rw [if_neg h8] at g3
          have g4 := g4 (by omega)
          have en : zNN (.branch n l t) = 1 + zNN l + zNN t := zNN_2 (by omega)
          rw [en] at hf hc hy ⊢
          have hrt := zRp_root t _ _ g3
          have hlt := zRp_root l _ _ g4
          rw [show r + (1 + zNN l + zNN t) = r + 1 + zNN l + zNN t by omega] at hy
          have key := iht (r + 1 + zNN l) (r9 r) e w5 g3 (fun k k1 k2 => hf k (by omega) (by omega)) he (fun k k1 k2 => hc k (by omega) (by omega)) hy
          have fxt := zFx hv t _ (r9 r) w5 g3 (fun k k1 k2 => (hf k (by omega) (by omega)).1)
          have fxl := zFx hv l (r + 1) (l9 r) (w6 (by omega)) g4 (fun k k1 k2 => (hf k (by omega) (by omega)).1)
          have okr := (hf (r9 r) (by omega) (by omega)).2
          have okl := (hf (l9 r) (by omega) (by omega)).2
          have hs9 : zSf (n / 200) (num r) s (s (8 + l9 r)) (s (8 + r9 r)) (s (8 + r)) (decide (kd (l9 r) = 2)) (w (l9 r) 0) (w (l9 r) 1) = (0, s (8 + r)) := by
            have := (hf r (by omega) (by omega)).1
            unfold zSfN at this
            rw [g1] at this
            exact this
          have hea : n / 200 = 8 → zEach (s (8 + l9 r)) (s (8 + r9 r)) = (0, s (8 + r)) := fun q => by
            rw [q] at hs9
            exact hs9
          rcases key with ⟨k1, k2⟩ | ⟨k1, e1, k2, k3, k4⟩
          · exact Or.inl ⟨k1, fun q => k2 q.1⟩
          · have key2 := ihl (r + 1) (l9 r) e1 (w6 (by omega)) g4 (fun k k1 k2 => hf k (by omega) (by omega)) (fun j hj => by rw [k4 j (by omega)]; exact he j hj) (fun k k1 k2 k3 i hi => by rw [k4 _ (by omega)]; exact hc k (by omega) (by omega) k3 i hi) k2
            rcases key2 with ⟨c1, c2⟩ | ⟨c1, e2, c2, c3, c4⟩
            · exact Or.inl ⟨c1, fun q => c2 (q.2.1 (by omega))⟩
            · have k3 : ∀ i, i < zCt (s (8 + r9 r)) → e2 (8 + r9 r) i = zTx sv xv t i := fun i hi => by rw [c4 _ (by omega)]; exact k3 i hi
              have tg : zTg sv xv (.branch n l t) ↔ zRN kd sgn l9 r9 s e2 r := by
                rw [zTg, hfx, fxt, fxl]
                unfold zRN
                rw [g1, g2]
                constructor
                · intro q
                  exact zRo_cg (fun _ i hi => (c3 i hi).symm) (fun _ i hi => (k3 i hi).symm) hea (fun _ => okl) (fun _ => okr) q.2.2
                · intro q
                  exact ⟨k1, fun _ => c1, zRo_cg (fun _ i hi => c3 i hi) (fun _ i hi => k3 i hi) hea (fun _ => okl) (fun _ => okr) q⟩
              rw [zWy] at c2
              rcases c2 with ⟨hX, c2⟩ | ⟨m1, f, m2, m3⟩
              · exact Or.inl ⟨hX, fun q => c2 (tg.mp q)⟩
              · refine Or.inr ⟨tg.mpr m1, _, m3, fun i hi => ?_, fun j hj => ?_⟩
                · rw [va_up_self, m2 i hi, zTx, if_neg (by omega), fxt, fxl]
                  unfold zXN
                  rw [g1, g2]
                  exact (zXo_cg (wn := e2 (num r)) (own2 := e2 (8 + r)) (by omega) (by omega) (fun _ => okl) (fun _ => okr) hs9 (fun q => by omega) (fun _ i hi => c3 i hi) (fun _ i hi => k3 i hi) (fun q => by omega) i hi).trans (zXo_b (by omega) (by omega) i)
                · rw [va_up_ne _ _ (by omega), c4 j (by omega)]
                  exact k4 j (by omega)
/-- how many arrays are made -/
theorem zArT : ∀ (t : zTr) (b r : Nat), zWf t → zRp kd sgn num l9 r9 s w t b r → zMkC kd (b + zNN t) = zMkC kd b + zAr t ∧ zMk (kd r) = zMr t := by
  intro t
  induction t with
  | leaf a =>
    intro b r hw h
    rw [zRp] at h
    obtain ⟨rfl, h1, h2⟩ := h
    have e : zMk (kd r) = false := by
      unfold zMk
      rw [h1, decide_eq_false_iff_not]
      omega
    refine ⟨?_, e⟩
    rw [zNN, zMkC, e]
    rfl
  | branch n l t ihl iht =>
    intro b r hw h
    rw [zRp] at h
    rw [zWf] at hw
    obtain ⟨w1, -, -, -, w5, w6⟩ := hw
    rw [zAr, zMr]
    by_cases h1 : n / 200 = 1
    · rw [if_pos h1] at h
      rw [zNN, if_pos h1, if_pos (show n / 200 < 4 by omega), h1, if_neg (show ¬ zMk 1 = true by decide), if_neg (by omega)]
      have := iht b r w5 h
      exact ⟨by omega, this.2⟩
    · rw [if_neg h1] at h
      obtain ⟨g1, h⟩ := h
      by_cases h0 : n / 200 = 0
      · rw [if_pos h0] at h
        have := iht (b + 1) r w5 h
        have e : zMk (kd b) = false := by rw [g1, h0]; rfl
        rw [zNN_1 (by omega) (by omega), if_pos (show n / 200 < 4 by omega), h0, if_neg (show ¬ zMk 0 = true by decide), if_neg (by omega), show b + (1 + zNN t) = b + 1 + zNN t by omega]
        refine ⟨?_, this.2⟩
        rw [this.1, zMkC, e, if_neg (by decide)]
        omega
      · rw [if_neg h0] at h
        obtain ⟨rfl, g2, g3, g4⟩ := h
        rw [if_neg (show ¬ n / 200 < 4 by omega)]
        refine ⟨?_, by rw [g1]⟩
        by_cases h8 : n / 200 < 8
        · rw [if_pos h8, Nat.add_zero] at g3
          have := iht (r + 1) _ w5 g3
          rw [zNN_1 (by omega) h8, if_neg (show ¬ 8 ≤ n / 200 by omega), show r + (1 + zNN t) = r + 1 + zNN t by omega, this.1, zMkC, g1]
          omega
        · rw [if_neg h8] at g3
          have a1 := iht _ _ w5 g3
          have a2 := ihl _ _ (w6 (by omega)) (g4 (by omega))
          rw [zNN_2 (by omega), if_pos (show 8 ≤ n / 200 by omega), show r + (1 + zNN l + zNN t) = r + 1 + zNN l + zNN t by omega, a1.1, a2.1, zMkC, g1]
          omega
theorem zShs_cst {k : Nat} (hk : kd k = 2) : ∀ (i : Nat) (s : Nat → Nat), (zShs kd num l9 r9 w i s).2 (8 + k) = s (8 + k) := by
  intro i
  induction i with
  | zero => exact fun _ => rfl
  | succ i ih =>
    intro s
    rw [zShs]
    split
    · rfl
    · rw [ih]
      by_cases h : i = k
      · subst h
        rw [va_up_self, zSfN_cst hk]
      · rw [va_up_ne _ _ (by omega)]
theorem zRp_cs {s2 : Nat → Nat} : ∀ (t : zTr) (b r : Nat), (∀ k, kd k = 2 → s2 (8 + k) = s (8 + k)) → zRp kd sgn num l9 r9 s w t b r → zRp kd sgn num l9 r9 s2 w t b r := by
  intro t
  induction t with
  | leaf a =>
    intro b r hag h
    rw [zRp] at h ⊢
    obtain ⟨h1, h2, h3⟩ := h
    refine ⟨h1, h2, ?_⟩
    rcases h3 with h3 | h3 | h3
    · exact Or.inl h3
    · exact Or.inr (Or.inl h3)
    · refine Or.inr (Or.inr ?_)
      rw [hag b (by omega)]
      exact h3
  | branch n l t ihl iht =>
    intro b r hag h
    rw [zRp] at h ⊢
    by_cases h1 : n / 200 = 1
    · rw [if_pos h1] at h ⊢
      exact iht b r hag h
    · rw [if_neg h1] at h ⊢
      refine ⟨h.1, ?_⟩
      have h := h.2
      by_cases h2 : n / 200 = 0
      · rw [if_pos h2] at h ⊢
        exact iht _ r hag h
      · rw [if_neg h2] at h ⊢
        exact ⟨h.1, h.2.1, iht _ _ hag h.2.2.1, fun q => ihl _ _ hag (h.2.2.2 q)⟩
theorem zRp_nz : ∀ (t : zTr) (b r : Nat), zRp kd sgn num l9 r9 s w t b r → ∀ k, b ≤ k → k < b + zNN t → (4 ≤ kd k → kd (r9 k) ≠ 0) ∧ (8 ≤ kd k → kd (l9 k) ≠ 0) := by
  intro t
  induction t with
  | leaf a =>
    intro b r h k k1 k2
    rw [zRp] at h
    rw [zNN] at k2
    have hk : k = b := by omega
    subst hk
    exact ⟨fun q => by omega, fun q => by omega⟩
  | branch n l t ihl iht =>
    intro b r h k k1 k2
    rw [zRp] at h
    rw [zNN] at k2
    by_cases h1 : n / 200 = 1
    · rw [if_pos h1] at h k2
      exact iht b r h k k1 k2
    · rw [if_neg h1] at h k2
      obtain ⟨g1, h⟩ := h
      by_cases h2 : n / 200 = 0
      · rw [if_pos h2] at h
        rw [if_pos (by omega)] at k2
        by_cases hk : k = b
        · subst hk
          exact ⟨fun q => by omega, fun q => by omega⟩
        · exact iht _ r h k (by omega) (by omega)
      · rw [if_neg h2] at h
        obtain ⟨rfl, e2, e3, e4⟩ := h
        by_cases h8 : n / 200 < 8
        · rw [if_pos h8] at k2
          rw [if_pos h8, Nat.add_zero] at e3
          by_cases hk : k = r
          · subst hk
            exact ⟨fun _ => (zRp_root t _ _ e3).2.2, fun q => by omega⟩
          · exact iht _ _ e3 k (by omega) (by omega)
        · rw [if_neg h8] at k2 e3
          have e4 := e4 (by omega)
          by_cases hk : k = r
          · subst hk
            exact ⟨fun _ => (zRp_root t _ _ e3).2.2, fun _ => (zRp_root l _ _ e4).2.2⟩
          · by_cases hk2 : k < r + 1 + zNN l
            · exact ihl _ _ e4 k (by omega) hk2
            · exact iht _ _ e3 k (by omega) (by omega)
end WE
