/-! the work over the symbols of a tree, from the last to the first -/
/-- a tree as an expression (true) or as a part (false) -/
def zFo : zTr → Bool → Prop
  | .leaf _, e => e = false
  | .branch n l r, e => if n / 200 = 1 then e = false ∧ zFo r true else e = true ∧ (if n / 200 = 0 then zFo r false else zFo r true ∧ (8 ≤ n / 200 → zFo l false))
theorem zLf_fo {c : Nat → Nat} {q q2 : Nat} {t : zTr} (h : zLf c q = some (q2, t)) : zFo t false := by
  unfold zLf at h
  split at h
  · cases h; rfl
  · split at h
    · split at h
      · cases h
      · cases h; rfl
    · split at h
      · cases h
      · cases h; rfl
theorem zE_fo {c : Nat → Nat} : ∀ f q q2 t, zE c f q = some (q2, t) → zFo t true := by
  intro f
  induction f with
  | zero => intro q q2 t h; cases h
  | succ f ih =>
    intro q q2 t h
    by_cases h0 : zFk (c q) = 0
    · rcases hp : zPt c (zE c f) q with _ | ⟨q1, t1⟩
      · rw [zE_p0 h0 hp] at h; cases h
      · have hw1 : zFo t1 false := by
          unfold zPt at hp
          by_cases h4 : c q = 40
          · rw [if_pos h4] at hp
            rcases he : zE c f (q + 1) with _ | ⟨q3, t3⟩
            · rw [he] at hp; cases hp
            · rw [he] at hp
              by_cases h5 : c q3 = 41
              · simp only [if_pos h5] at hp
                cases hp
                rw [zFo, if_pos (by decide)]
                exact ⟨rfl, ih _ _ _ he⟩
              · simp only [if_neg h5] at hp
                cases hp
          · rw [if_neg h4] at hp
            exact zLf_fo hp
        by_cases h6 : zSk (c q1) = 0
        · rw [zE_p1 h0 hp h6] at h
          cases h
          rw [zFo, if_neg (by decide), if_pos (by decide)]
          exact ⟨rfl, hw1⟩
        · rw [zE_p2 h0 hp h6] at h
          rcases he : zE c f (q1 + 1) with _ | ⟨q3, t3⟩
          · rw [he] at h; cases h
          · rw [he] at h
            cases h
            have a1 := zSk_ge h6
            have a3 := zSk_c h6
            have e1 : (zSk (c q1) * 200 + c q1) / 200 = zSk (c q1) := by omega
            rw [zFo, e1, if_neg (by omega), if_neg (by omega)]
            exact ⟨rfl, ih _ _ _ he, fun _ => hw1⟩
    · have a1 := zFk_c h0
      by_cases h1 : zFk (c q) = 6 ∨ zFk (c q) = 7
      · by_cases h2 : zRd (c (q + 1)) = true
        · rw [zE_f2 h1 h2] at h
          rcases he : zE c f (q + 1 + 1) with _ | ⟨q3, t3⟩
          · rw [he] at h; cases h
          · rw [he] at h
            cases h
            have a3 := zRd_c h2
            have e1 : (zFk (c q) * 200 + c (q + 1)) / 200 = zFk (c q) := by omega
            rw [zFo, e1, if_neg (by omega), if_neg (by omega)]
            exact ⟨rfl, ih _ _ _ he, fun q => by omega⟩
        · rw [zE_f3 h1 (Bool.eq_false_iff.mpr h2)] at h; cases h
      · rw [zE_f1 h0 h1] at h
        rcases he : zE c f (q + 1) with _ | ⟨q3, t3⟩
        · rw [he] at h; cases h
        · rw [he] at h
          cases h
          have e1 : (zFk (c q) * 200) / 200 = zFk (c q) := by omega
          rw [zFo, e1, if_neg (by omega), if_neg (by omega)]
          exact ⟨rfl, ih _ _ _ he, fun q => by omega⟩
theorem zTree_fo {c : Nat → Nat} {n : Nat} {t : zTr} (h : zTree c n = some t) : zFo t true := by
  unfold zTree at h
  rcases he : zE c 41 0 with _ | ⟨q, t2⟩
  · rw [he] at h; cases h
  · rw [he] at h
    by_cases h1 : q = n
    · simp only [if_pos h1] at h
      cases h
      exact zE_fo _ _ _ _ he
    · simp only [if_neg h1] at h
      cases h
def zBs (a0 : Nat → Nat → Int32) (d3 : Nat → UInt64) (u : zM3) : Prop := (∀ r, r ≠ 11 → r ≠ 12 → u.2.1 r = a0 r) ∧ u.2.2 3 = d3
theorem zBs.fm {a0 : Nat → Nat → Int32} {d3 : Nat → UInt64} {dp : Nat} {u w : zM3} (h : zBs a0 d3 u) (k : zFm dp u w) : zBs a0 d3 w := ⟨fun r h1 h2 => (k.1 r h1 h2).trans (h.1 r h1 h2), k.2.1.trans h.2⟩
theorem zFm.mono {dp dq : Nat} {u w : zM3} (h : zFm dq u w) (hd : dp ≤ dq) : zFm dp u w := ⟨h.1, h.2.1, h.2.2.1, fun k hk => h.2.2.2 k (by omega)⟩
theorem zDl_fm {c dp : Nat} {sv : Nat → Nat} {oo : Bool} {ar ps : Nat} {px : Nat → UInt64} {pv : Option (List Nat)} {pk : Bool} {rs : Nat} {rx : Nat → UInt64} {u u1 w : zM3} (h : zFm dp u u1) (k : zDl c dp sv oo ar ps px pv pk rs rx u1 w) : zDl c dp sv oo ar ps px pv pk rs rx u w := ⟨h.tr (Nat.le_refl _) k.1, k.2⟩
theorem zVl_cg {gs gc gk : Int32} {row x y : Nat → UInt64} {oo mk : Bool} {s : Nat} {cv : Option (List Nat)} (h : zVl gs gc gk row oo s x cv mk) (e : ∀ q, q < zCt s → x q = y q) : zVl gs gc gk row oo s y cv mk := ⟨h.1, h.2.1, fun ho q hq => by rw [← e q hq]; exact h.2.2.1 ho q hq, h.2.2.2⟩
/-- the value of a tree in the register now -/
def zNw (sv : Nat → Nat) (xv : Nat → Nat → UInt64) (oo : Bool) (x : zTr) (w : zM3) : Prop := ∃ b : Bool, w.1 21 = bI b ∧ (b = false ↔ oo = false ∧ zTg sv xv x) ∧ zVl (w.1 15) (w.1 17) (w.1 19) (w.2.2 8) b (zTs sv x).2 (zTx sv xv x) (zCv x) (zMr x)
def zRt (c dp rs : Nat) (rx : Nat → UInt64) (oo : Bool) (u : zM3) : Prop := c ≠ 0 → zSk c ≠ 0 ∧ u.2.1 11 dp = nI rs ∧ zOk rs = true ∧ (oo = false → ∀ q, q < zCt rs → u.2.2 10 (24 * dp + q) = rx q ∧ zRg (rx q) = true)
theorem zSk_9 {c : Nat} (h : zSk c = 9) : c = 44 := by
  unfold zSk at h
  (repeat' split at h) <;> omega
theorem zSk_l {c : Nat} (h : zSk c ≠ 0) : c < 128 := by
  unfold zSk at h
  (repeat' split at h) <;> omega
section TR
variable {Hd : Nat → Nat → zM3 → Prop} {sv : Nat → Nat} {xv : Nat → Nat → UInt64} {a0 : Nat → Nat → Int32} {d3 : Nat → UInt64}
theorem zTR
    (rLeaf : ∀ (i dp : Nat) (u : zM3) (x : Nat × List Nat) (v : Nat) (oo : Bool) (ar c rs : Nat) (rx : Nat → UInt64), zBs a0 d3 u → i < 40 → dp < 22 → zWf (.leaf x) → zTo a0 (.leaf x) i v → v + zNl (.leaf x) ≤ 40 → u.1 23 = nI 0 → u.1 21 = bI oo → u.1 22 = nI ar → u.2.1 12 dp = nI c → c < 128 → zRt c dp rs rx oo u →
      (∀ w, (zTs sv (.leaf x)).1 ≠ 0 → zFm 0 u w → w.1 23 = nI (zTs sv (.leaf x)).1 → Hd i dp w) → (∀ w, (zTs sv (.leaf x)).1 = 0 → zDl c dp sv oo ar (zTs sv (.leaf x)).2 (zTx sv xv (.leaf x)) (zCv (.leaf x)) false rs rx u w → Hd i dp w) → Hd (i + 1) dp u)
    (rOpen : ∀ (i dp : Nat) (u : zM3) (oo : Bool) (ar c rs : Nat) (rx : Nat → UInt64) (s : Nat) (y : Nat → UInt64) (cv : Option (List Nat)) (mk : Bool), zBs a0 d3 u → i < 40 → dp < 21 → a0 4 i = nI 4 → u.1 23 = nI 0 → u.1 21 = bI oo → u.1 22 = nI ar → u.2.1 12 dp = nI c → c < 128 → zRt c dp rs rx oo u → zVl (u.1 15) (u.1 17) (u.1 19) (u.2.2 8) oo s y cv mk → (∀ w, zDl c dp sv oo ar s y cv mk rs rx u w → Hd i dp w) → Hd (i + 1) (dp + 1) u)
    (rClose : ∀ (i dp : Nat) (u : zM3), zBs a0 d3 u → i < 40 → dp < 21 → a0 4 i = nI 5 → u.1 23 = nI 0 → (∀ w, zFm (dp + 1) u w → w.1 = u.1 → w.2.1 12 (dp + 1) = nI 0 → Hd i (dp + 1) w) → Hd (i + 1) dp u)
    (rSign : ∀ (i dp : Nat) (u : zM3) (c s : Nat), zBs a0 d3 u → i < 40 → dp < 22 → a0 4 i = nI 6 → a0 5 i = nI c → u.1 23 = nI 0 → u.1 15 = nI s → (∀ w, zFm dp u w → w.1 = u.1 → w.2.1 12 dp = nI c → w.2.1 11 dp = nI s → (∀ q, q < 24 → w.2.2 10 (24 * dp + q) = u.2.2 8 q) → Hd i dp w) → Hd (i + 1) dp u)
    (rFront : ∀ (i dp : Nat) (u : zM3) (x c : Nat) (oo : Bool) (ar s : Nat) (y : Nat → UInt64) (cv : Option (List Nat)) (mk : Bool), zBs a0 d3 u → i < 40 → dp < 22 → (x = 4 ∨ x = 5 ∨ x = 6 ∨ x = 7) → ((x = 6 ∨ x = 7) → zSg c) → c < 200 → a0 4 i = nI (if x = 6 then 8 else if x = 7 then 9 else 7) → a0 5 i = nI (if x = 4 then 45 else if x = 5 then 126 else c) → u.1 23 = nI 0 → u.1 21 = bI oo → u.1 22 = nI ar → zVl (u.1 15) (u.1 17) (u.1 19) (u.2.2 8) oo s y cv mk → (∀ w, zFt x c oo ar s y u w → Hd i dp w) → Hd (i + 1) dp u) :
    ∀ x : zTr, (zFo x true → zWf x → ∀ (i v dp : Nat) (u : zM3) (oo : Bool) (ar : Nat), zTo a0 x i v → i + zTl x ≤ 40 → v + zNl x ≤ 40 → 2 * dp + zTl x ≤ 40 → zBs a0 d3 u → u.1 23 = nI 0 → u.1 21 = bI oo → u.1 22 = nI ar → u.2.1 12 dp = nI 0 →
        (∀ w, (zTs sv x).1 = 0 → zFm dp u w → w.2.1 12 dp = nI 0 → w.1 23 = nI 0 → w.1 22 = nI (ar + zAr x) → zNw sv xv oo x w → Hd i dp w) → (∀ j e w, (zTs sv x).1 ≠ 0 → zFm 0 u w → w.1 23 = nI (zTs sv x).1 → Hd j e w) → Hd (i + zTl x) dp u) ∧
      (zFo x false → zWf x → ∀ (i v dp : Nat) (u : zM3) (oo : Bool) (ar c rs : Nat) (rx : Nat → UInt64), zTo a0 x i v → i + zTl x ≤ 40 → v + zNl x ≤ 40 → 2 * dp + zTl x ≤ 40 → zBs a0 d3 u → u.1 23 = nI 0 → u.1 21 = bI oo → u.1 22 = nI ar → u.2.1 12 dp = nI c → c < 128 → zRt c dp rs rx oo u →
        (∀ b w, (zTs sv x).1 = 0 → (b = false ↔ oo = false ∧ zTg sv xv x) → zDl c dp sv b (ar + zAr x) (zTs sv x).2 (zTx sv xv x) (zCv x) (zMr x) rs rx u w → Hd i dp w) → (∀ j e w, (zTs sv x).1 ≠ 0 → zFm 0 u w → w.1 23 = nI (zTs sv x).1 → Hd j e w) → Hd (i + zTl x) dp u) := by
  intro x
  induction x with
  | leaf y =>
    refine ⟨(fun h => by cases h), fun _ hw i v dp u oo ar c rs rx ht hi hv hd hb h23 h21 h22 h12 hc hr K Ke => ?_⟩
    have e1 : zTl (.leaf y) = 1 := rfl
    rw [e1] at hi hd ⊢
    refine rLeaf i dp u y v oo ar c rs rx hb (by omega) (by omega) hw ht hv h23 h21 h22 h12 hc hr (fun w k1 k2 k3 => Ke i dp w k1 k2 k3) (fun w k1 k2 => K oo w k1 ⟨fun q => ⟨q, trivial⟩, fun q => q.1⟩ ?_)
    exact k2
  | branch n l r ihl ihr =>
    refine ⟨fun hf hw i v dp u oo ar ht hi hv hd hb h23 h21 h22 h12 K Ke => ?_, fun hf hw i v dp u oo ar c rs rx ht hi hv hd hb h23 h21 h22 h12 hc hr K Ke => ?_⟩
    · rw [zFo] at hf
      rw [zWf] at hw
      obtain ⟨w1, w2, w3, w4, w5, w6⟩ := hw
      rw [zTo] at ht
      by_cases c1 : n / 200 = 1
      · rw [if_pos c1] at hf
        exact absurd hf.1 (by decide)
      rw [if_neg c1] at hf
      obtain ⟨-, hf⟩ := hf
      by_cases c0 : n / 200 = 0
      · -- a part alone
        rw [if_pos c0] at hf ht
        have el : zTl (.branch n l r) = zTl r := by rw [zTl, if_pos c0]
        have en : zNl (.branch n l r) = zNl r := by rw [zNl, if_pos (by omega)]
        have es : zTs sv (.branch n l r) = zTs sv r := by
          rw [zTs]
          split
          · rfl
          · rw [if_pos (by omega)]
        have ex : zTx sv xv (.branch n l r) = zTx sv xv r := by rw [zTx, if_pos (by omega)]
        have ec : zCv (.branch n l r) = zCv r := by rw [zCv, if_pos (by omega)]
        have em : zMr (.branch n l r) = zMr r := by rw [zMr, if_pos (by omega)]
        have ea : zAr (.branch n l r) = zAr r := by rw [zAr, c0, if_neg (by decide), if_neg (by omega)]; omega
        have eg : zTg sv xv (.branch n l r) ↔ zTg sv xv r := by
          rw [zTg]
          exact ⟨fun q => q.1, fun q => ⟨q, fun q2 => by omega, ⟨fun q2 => by omega, fun q2 => by omega⟩⟩⟩
        rw [el] at hi hd ⊢
        rw [en] at hv
        rw [es] at K Ke
        refine (ihr.2 hf w5 i v dp u oo ar 0 0 (fun _ => 0) ht hi hv hd hb h23 h21 h22 h12 (by decide) (fun q => absurd rfl q) (fun b w k1 k2 k3 => K w k1 k3.1 k3.2.1 (k3.2.2.1 rfl).1 ?_ ?_) Ke)
        · rw [ea]; exact (k3.2.2.1 rfl).2.2.1
        · refine ⟨b, (k3.2.2.1 rfl).2.1, ?_, ?_⟩
          · rw [eg]; exact k2
          · rw [es, ex, ec, em]; exact (k3.2.2.1 rfl).2.2.2
      rw [if_neg c0] at hf
      rw [if_neg c0, if_neg c1] at ht
      have w1 : 4 ≤ n / 200 ∧ n / 200 ≤ 10 := by omega
      have ec : zCv (.branch n l r) = none := by rw [zCv, if_neg (by omega)]
      have em : zMr (.branch n l r) = zMk (n / 200) := by rw [zMr, if_neg (by omega)]
      by_cases c8 : n / 200 < 8
      · -- a front
        rw [if_pos c8] at ht
        obtain ⟨t1, t2, t3⟩ := ht
        have el : zTl (.branch n l r) = zTl r + 1 := by rw [zTl, if_neg c0, if_neg c1, if_pos c8]
        have en : zNl (.branch n l r) = zNl r := by rw [zNl, if_pos c8]
        have es : zTs sv (.branch n l r) = if (zTs sv r).1 ≠ 0 then zTs sv r else zSf (n / 200) 0 sv 0 (zTs sv r).2 0 false 0 0 := by rw [zTs, if_neg (show ¬ n / 200 < 4 by omega), if_pos c8]
        have ea : zAr (.branch n l r) = zAr r + if n / 200 = 4 then 0 else 1 := by
          rw [zAr, if_neg (show ¬ 8 ≤ n / 200 by omega)]
          rcases (show n / 200 = 4 ∨ n / 200 = 5 ∨ n / 200 = 6 ∨ n / 200 = 7 by omega) with q | q | q | q <;> rw [q] <;> simp [zMk] <;> omega
        rw [el] at hi hd ⊢
        rw [en] at hv
        have ez : zSf (n / 200) 0 sv 0 (zTs sv r).2 0 false 0 0 = zSf (n / 200) 0 (fun _ => 0) 0 (zTs sv r).2 0 false 0 0 := by
          rcases (show n / 200 = 4 ∨ n / 200 = 5 ∨ n / 200 = 6 ∨ n / 200 = 7 by omega) with q | q | q | q <;> rw [q] <;> rfl
        have ez1 : (zSf (n / 200) 0 sv 0 (zTs sv r).2 0 false 0 0).1 = 0 := by
          rcases (show n / 200 = 4 ∨ n / 200 = 5 ∨ n / 200 = 6 ∨ n / 200 = 7 by omega) with q | q | q | q <;> rw [q] <;> rfl
        rw [show i + (zTl r + 1) = i + 1 + zTl r by omega]
        refine ihr.1 hf.1 w5 (i + 1) v dp u oo ar t3 (by omega) hv (by omega) hb h23 h21 h22 h12 (fun w k0 k1 k2 k3 k4 k5 => ?_) (fun j e w k1 k2 k3 => Ke j e w (by rw [es, if_pos k1]; exact k1) k2 (by rw [es, if_pos k1]; exact k3))
        obtain ⟨b, m1, m2, m3⟩ := k5
        have es2 : zTs sv (.branch n l r) = zSf (n / 200) 0 (fun _ => 0) 0 (zTs sv r).2 0 false 0 0 := by rw [es, if_neg (fun q => q k0), ez]
        refine rFront i dp w (n / 200) (n % 200) b (ar + zAr r) (zTs sv r).2 (zTx sv xv r) (zCv r) (zMr r) (hb.fm k1) (by omega) (by omega) (by omega) (fun q => zRd_sg (w3 q)) (Nat.mod_lt _ (by decide)) t1 t2 k3 m1 k4 m3 (fun z q1 => ?_)
        obtain ⟨p1, p2, p3, p4, b2, p5, p6, p7⟩ := q1
        refine K z (by rw [es2, ← ez]; exact ez1) (k1.tr (Nat.le_refl _) (p1 dp)) (by rw [p2]; exact k2) (by rw [p3]; exact k3) (by rw [p4, ea, Nat.add_assoc]) ⟨b2, p5, ?_, ?_⟩
        · rw [p6, m2, zTg, es2]
          refine ⟨fun q => ⟨q.1.1, q.1.2, fun q2 => by omega, zRo_u (by omega) q.2⟩, fun q => ⟨⟨q.1, q.2.1⟩, zRo_u (by omega) q.2.2.2⟩⟩
        · rw [ec, em, es2]
          refine zVl_cg p7 (fun q hq => ?_)
          rw [zTx, if_neg (by omega)]
          exact zXo_u (by omega) c8 q
      · -- a sign
        rw [if_neg c8] at ht
        obtain ⟨t1, t2, t3, t4⟩ := ht
        have c8' : 8 ≤ n / 200 := by omega
        have el : zTl (.branch n l r) = zTl l + 1 + zTl r := by rw [zTl, if_neg c0, if_neg c1, if_neg c8]
        have en : zNl (.branch n l r) = zNl l + zNl r := by rw [zNl, if_neg c8]
        have hsk := w4 c8'
        have es : zTs sv (.branch n l r) = if (zTs sv r).1 ≠ 0 then zTs sv r else if (zTs sv l).1 ≠ 0 then zTs sv l else zSf (zSk (n % 200)) 0 sv (zTs sv l).2 (zTs sv r).2 0 (zCv l).isSome (((zCv l).getD []).getD 0 0) (((zCv l).getD []).getD 1 0) := by rw [zTs, if_neg (show ¬ n / 200 < 4 by omega), if_neg c8, hsk]
        have h44 : zMk (n / 200) = decide (n % 200 = 44) := by
          rw [← hsk]
          by_cases q : n % 200 = 44
          · rw [q]; rfl
          · rw [decide_eq_false q]
            unfold zMk
            rw [decide_eq_false_iff_not]
            intro q2
            have q3 := zSk_ge (c := n % 200) (by omega)
            have q4 : zSk (n % 200) = 9 := by omega
            exact q (zSk_9 q4)
        have ea : zAr (.branch n l r) = zAr r + zAr l + if n % 200 = 44 then 1 else 0 := by
          rw [zAr, if_pos c8', h44]
          by_cases q : n % 200 = 44
          · rw [if_pos q, decide_eq_true q, if_pos rfl]; omega
          · rw [if_neg q, decide_eq_false q, if_neg (by decide)]; omega
        rw [el] at hi hd ⊢
        rw [en] at hv
        have hcl : n % 200 < 128 := by
          have hs0 : zSk (n % 200) ≠ 0 := by omega
          exact zSk_l hs0
        rw [show i + (zTl l + 1 + zTl r) = i + zTl l + 1 + zTl r by omega]
        refine ihr.1 hf.1 w5 (i + zTl l + 1) (v + zNl l) dp u oo ar t4 (by omega) (by omega) (by omega) hb h23 h21 h22 h12 (fun w k0 k1 k2 k3 k4 k5 => ?_) (fun j e w k1 k2 k3 => Ke j e w (by rw [es, if_pos k1]; exact k1) k2 (by rw [es, if_pos k1]; exact k3))
        obtain ⟨b, m1, m2, m3⟩ := k5
        refine rSign (i + zTl l) dp w (n % 200) (zTs sv r).2 (hb.fm k1) (by omega) (by omega) t2 t3 k3 m3.1 (fun z q1 q2 q3 q4 q5 => ?_)
        have h24 := (zOk_num m3.2.1).2.2.1
        refine ihl.2 (hf.2 c8') (w6 c8') i v dp z b (ar + zAr r) (n % 200) (zTs sv r).2 (zTx sv xv r) t1 (by omega) (by omega) (by omega) ((hb.fm k1).fm q1) (by rw [q2]; exact k3) (by rw [q2]; exact m1) (by rw [q2]; exact k4) q3 hcl (fun _ => ⟨by omega, q4, m3.2.1, fun ho q hq => ?_⟩) (fun b2 y y1 y2 y3 => ?_) (fun j e y y1 y2 y3 => ?_)
        · rw [q5 q (by omega)]
          exact m3.2.2.1 ho q hq
        · have hc0 : n % 200 ≠ 0 := zSk_0 (by omega)
          obtain ⟨g1, g2, -, g4⟩ := y3
          have g4 := g4 hc0
          have es2 : zTs sv (.branch n l r) = zSf (zSk (n % 200)) 0 sv (zTs sv l).2 (zTs sv r).2 0 (zCv l).isSome (((zCv l).getD []).getD 0 0) (((zCv l).getD []).getD 1 0) := by rw [es, if_neg (fun q => q k0), if_neg (fun q => q y1)]
          have hfm : zFm dp u y := (k1.tr (Nat.le_refl _) q1).tr (Nat.le_refl _) g1
          by_cases hz : (zTs sv (.branch n l r)).1 ≠ 0
          · refine Ke i dp y hz (hfm.mono (Nat.zero_le _)) ?_
            rw [es2] at hz ⊢
            exact g4.1 hz
          · have hz : (zTs sv (.branch n l r)).1 = 0 := Decidable.not_not.mp hz
            have hz2 := hz
            rw [es2] at hz2
            obtain ⟨p1, p2, b3, p3, p4, p5⟩ := g4.2 hz2
            refine K y hz hfm g2 p1 (by rw [p2, ea]; congr 1; omega) ⟨b3, p3, ?_, ?_⟩
            · rw [p4, y2, m2, zTg, es2, hsk]
              exact ⟨fun q => ⟨q.1.1.1, q.1.1.2, fun _ => q.1.2, q.2⟩, fun q => ⟨⟨⟨q.1, q.2.1⟩, q.2.2.1 c8'⟩, q.2.2.2⟩⟩
            · rw [ec, em, es2, h44]
              refine zVl_cg p5 (fun q hq => ?_)
              rw [zTx, if_neg (by omega), hsk]
        · refine Ke j e y (by rw [es, if_neg (fun q => q k0), if_pos y1]; exact y1) ((k1.mono (Nat.zero_le _)).tr (Nat.le_refl _) ((q1.mono (Nat.zero_le _)).tr (Nat.le_refl _) y2)) (by rw [es, if_neg (fun q => q k0), if_pos y1]; exact y3)
    · rw [zFo] at hf
      rw [zWf] at hw
      obtain ⟨w1, w2, w3, w4, w5, w6⟩ := hw
      rw [zTo] at ht
      by_cases c1 : n / 200 = 1
      · rw [if_pos c1] at hf
        rw [if_neg (by omega), if_pos c1] at ht
        obtain ⟨t1, t2, t3⟩ := ht
        have el : zTl (.branch n l r) = zTl r + 2 := by rw [zTl, if_neg (by omega), if_pos c1]
        have en : zNl (.branch n l r) = zNl r := by rw [zNl, if_pos (by omega)]
        have es : zTs sv (.branch n l r) = zTs sv r := by
          rw [zTs]
          split
          · rfl
          · rw [if_pos (by omega)]
        have ex : zTx sv xv (.branch n l r) = zTx sv xv r := by rw [zTx, if_pos (by omega)]
        have ec : zCv (.branch n l r) = zCv r := by rw [zCv, if_pos (by omega)]
        have em : zMr (.branch n l r) = zMr r := by rw [zMr, if_pos (by omega)]
        have ea : zAr (.branch n l r) = zAr r := by rw [zAr, c1, if_neg (by decide), if_neg (by omega)]; omega
        have eg : zTg sv xv (.branch n l r) ↔ zTg sv xv r := by
          rw [zTg]
          exact ⟨fun q => q.1, fun q => ⟨q, fun q2 => by omega, ⟨fun q2 => by omega, fun q2 => by omega⟩⟩⟩
        rw [el] at hi hd ⊢
        rw [en] at hv
        rw [es] at Ke
        rw [es, ex, ec, em, ea] at K
        rw [show i + (zTl r + 2) = i + 1 + zTl r + 1 by omega]
        refine rClose (i + 1 + zTl r) dp u hb (by omega) (by omega) t3 h23 (fun w k1 k2 k3 => ?_)
        refine ihr.1 hf.2 w5 (i + 1) v (dp + 1) w oo ar t2 (by omega) hv (by omega) (hb.fm k1) (by rw [k2]; exact h23) (by rw [k2]; exact h21) (by rw [k2]; exact h22) k3 (fun z m0 m1 m2 m3 m4 m5 => ?_) (fun j e z m1 m2 m3 => Ke j e z m1 ((k1.mono (Nat.zero_le _)).tr (Nat.le_refl _) m2) m3)
        obtain ⟨b, p1, p2, p3⟩ := m5
        have hfm : zFm (dp + 1) u z := k1.tr (Nat.le_refl _) m1
        have hst := hfm.2.2.2 dp (Nat.lt_succ_self _)
        refine rOpen i dp z b (ar + zAr r) c rs rx (zTs sv r).2 (zTx sv xv r) (zCv r) (zMr r) (hb.fm hfm) (by omega) (by omega) t1 m3 p1 m4 (hst.1.trans h12) hc (fun q => ?_) p3 (fun y y1 => ?_)
        · obtain ⟨g1, g2, g3, g4⟩ := hr q
          refine ⟨g1, hst.2.1.trans g2, g3, fun ho q2 hq2 => ?_⟩
          have h24 := (zOk_num g3).2.2.1
          rw [hst.2.2 q2 (by omega)]
          exact g4 (p2.mp ho).1 q2 hq2
        · exact K b y m0 (by rw [eg]; exact p2) (zDl_fm (hfm.mono (Nat.le_succ _)) y1)
      · rw [if_neg c1] at hf
        exact absurd hf.1 (by decide)
end TR
