abbrev zM3 : Type := (Nat → Int32) × (Nat → Nat → Int32) × (Nat → Nat → UInt64)
/-- a value in a register -/
def zVl (gs gc gk : Int32) (row : Nat → UInt64) (oo : Bool) (s : Nat) (x : Nat → UInt64) (cv : Option (List Nat)) (mk : Bool) : Prop :=
  gs = nI s ∧ zOk s = true ∧ (oo = false → ∀ q, q < zCt s → row q = x q ∧ zRg (x q) = true) ∧ gc = bI cv.isSome ∧ (∀ v, cv = some v → s = (if v.length = 1 then 0 else v.length) ∧ 1 ≤ v.length ∧ v.length ≤ 24 ∧ ∀ q, q < v.length → row q = FP.i2d (nI (v.getD q 0)) ∧ v.getD q 0 < 10000) ∧ gk = bI mk
/-- what a step leaves as it was -/
def zFm (dp : Nat) (u w : zM3) : Prop := (∀ r, r ≠ 11 → r ≠ 12 → w.2.1 r = u.2.1 r) ∧ w.2.2 3 = u.2.2 3 ∧ (∀ k, (k < 15 ∨ 23 < k) → w.1 k = u.1 k) ∧ ∀ k, k < dp → w.2.1 12 k = u.2.1 12 k ∧ w.2.1 11 k = u.2.1 11 k ∧ ∀ q, q < 24 → w.2.2 10 (24 * k + q) = u.2.2 10 (24 * k + q)
theorem zFm.rf (dp : Nat) (u : zM3) : zFm dp u u := ⟨fun _ _ _ => rfl, rfl, fun _ _ => rfl, fun _ _ => ⟨rfl, rfl, fun _ _ => rfl⟩⟩
theorem zFm.tr {dp dq : Nat} {u v w : zM3} (h : zFm dp u v) (hd : dp ≤ dq) (k : zFm dq v w) : zFm dp u w :=
  ⟨fun r h1 h2 => (k.1 r h1 h2).trans (h.1 r h1 h2), k.2.1.trans h.2.1, fun i hi => (k.2.2.1 i hi).trans (h.2.2.1 i hi), fun i hi => ⟨((k.2.2.2 i (by omega)).1).trans (h.2.2.2 i hi).1, ((k.2.2.2 i (by omega)).2.1).trans (h.2.2.2 i hi).2.1, fun q hq => ((k.2.2.2 i (by omega)).2.2 q hq).trans ((h.2.2.2 i hi).2.2 q hq)⟩⟩
theorem zFm_w {g w1 : Nat → Int32} {a : Nat → Nat → Int32} {d : Nat → Nat → UInt64} {f : Nat → UInt64} {dp : Nat} {v : Int32} (h : ∀ k, (k < 15 ∨ 23 < k) → w1 k = g k) : zFm dp (g, a, d) (w1, va_up a 12 (va_up (a 12) dp v), va_up d 8 f) :=
  ⟨fun r _ h2 => va_up_ne _ _ h2, (by show va_up d 8 f 3 = d 3; rw [va_up_ne _ _ (by decide)]), h, fun k hk => ⟨by show va_up a 12 (va_up (a 12) dp v) 12 k = a 12 k; rw [va_up_self, va_up_ne _ _ (by omega)], by show va_up a 12 (va_up (a 12) dp v) 11 k = a 11 k; rw [va_up_ne _ _ (by decide)], fun q _ => by show va_up d 8 f 10 _ = d 10 _; rw [va_up_ne _ _ (by decide)]⟩⟩
/-- what a part gives with the sign c that waits at the depth dp -/
def zDl (c dp : Nat) (sv : Nat → Nat) (oo : Bool) (ar ps : Nat) (px : Nat → UInt64) (pv : Option (List Nat)) (pk : Bool) (rs : Nat) (rx : Nat → UInt64) (u w : zM3) : Prop :=
  zFm dp u w ∧ w.2.1 12 dp = nI 0 ∧ (c = 0 → w.1 23 = nI 0 ∧ w.1 21 = bI oo ∧ w.1 22 = nI ar ∧ zVl (w.1 15) (w.1 17) (w.1 19) (w.2.2 8) oo ps px pv pk) ∧
  (c ≠ 0 → ((zSf (zSk c) 0 sv ps rs 0 pv.isSome ((pv.getD []).getD 0 0) ((pv.getD []).getD 1 0)).1 ≠ 0 → w.1 23 = nI (zSf (zSk c) 0 sv ps rs 0 pv.isSome ((pv.getD []).getD 0 0) ((pv.getD []).getD 1 0)).1) ∧
    ((zSf (zSk c) 0 sv ps rs 0 pv.isSome ((pv.getD []).getD 0 0) ((pv.getD []).getD 1 0)).1 = 0 → w.1 23 = nI 0 ∧ w.1 22 = nI (ar + if c = 44 then 1 else 0) ∧ ∃ b : Bool, w.1 21 = bI b ∧ (b = false ↔ oo = false ∧ zRo (zSk c) c ps rs (zSf (zSk c) 0 sv ps rs 0 pv.isSome ((pv.getD []).getD 0 0) ((pv.getD []).getD 1 0)).2 px rx) ∧ zVl (w.1 15) (w.1 17) (w.1 19) (w.2.2 8) b (zSf (zSk c) 0 sv ps rs 0 pv.isSome ((pv.getD []).getD 0 0) ((pv.getD []).getD 1 0)).2 (zXo (zSk c) c ps rs (fun _ => 0) px rx (fun _ => 0)) none (decide (c = 44))))
section DL
variable {g : Nat → Int32} {a : Nat → Nat → Int32} {d : Nat → Nat → UInt64} {dp ar ps rs : Nat} {sv : Nat → Nat} {oo pk : Bool} {px rx : Nat → UInt64} {pv : Option (List Nat)}
theorem zDl_0 {w1 : Nat → Int32} {f : Nat → UInt64} (hp : zVl (g 16) (g 18) (g 20) (d 9) oo ps px pv pk) (hw : ∀ k, (k < 15 ∨ 23 < k) → w1 k = g k) (h23 : w1 23 = nI 0) (h21 : w1 21 = bI oo) (h22 : w1 22 = nI ar) (h15 : w1 15 = nI ps) (h17 : w1 17 = bI pv.isSome) (h19 : w1 19 = bI pk) (hf : ∀ q, q < 24 → f q = d 9 q) : zDl 0 dp sv oo ar ps px pv pk rs rx (g, a, d) (w1, va_up a 12 (va_up (a 12) dp (nI 0)), va_up d 8 f) := by
  obtain ⟨h1, h2, h3, h4, h5, h6⟩ := hp
  have h24 := (zOk_num h2).2.2.1
  have e8 : va_up d 8 f 8 = f := va_up_self _ _ _
  refine ⟨zFm_w hw, ?_, fun _ => ⟨h23, h21, h22, ?_⟩, fun h => absurd rfl h⟩
  · show va_up a 12 (va_up (a 12) dp (nI 0)) 12 dp = nI 0
    rw [va_up_self, va_up_self]
  · show zVl (w1 15) (w1 17) (w1 19) (va_up d 8 f 8) oo ps px pv pk
    rw [e8]
    refine ⟨h15, h2, fun ho q hq => ⟨(hf q (by omega)).trans (h3 ho q hq).1, (h3 ho q hq).2⟩, h17, fun v hv => ?_, h19⟩
    obtain ⟨g1, g2, g3, g4⟩ := h5 v hv
    exact ⟨g1, g2, g3, fun q hq => ⟨(hf q (by omega)).trans (g4 q hq).1, (g4 q hq).2⟩⟩
/-- the end of a sign's work -/
theorem zDl_c {c : Nat} (hc0 : c ≠ 0) {w : zM3} (hF : zFm dp (g, a, d) w) (h12 : w.2.1 12 dp = nI 0) (h : ((zSf (zSk c) 0 sv ps rs 0 pv.isSome ((pv.getD []).getD 0 0) ((pv.getD []).getD 1 0)).1 ≠ 0 ∧ w.1 23 = nI (zSf (zSk c) 0 sv ps rs 0 pv.isSome ((pv.getD []).getD 0 0) ((pv.getD []).getD 1 0)).1) ∨ ((zSf (zSk c) 0 sv ps rs 0 pv.isSome ((pv.getD []).getD 0 0) ((pv.getD []).getD 1 0)).1 = 0 ∧ w.1 23 = nI 0 ∧ w.1 22 = nI (ar + if c = 44 then 1 else 0) ∧ ∃ b : Bool, w.1 21 = bI b ∧ (b = false ↔ oo = false ∧ zRo (zSk c) c ps rs (zSf (zSk c) 0 sv ps rs 0 pv.isSome ((pv.getD []).getD 0 0) ((pv.getD []).getD 1 0)).2 px rx) ∧ zVl (w.1 15) (w.1 17) (w.1 19) (w.2.2 8) b (zSf (zSk c) 0 sv ps rs 0 pv.isSome ((pv.getD []).getD 0 0) ((pv.getD []).getD 1 0)).2 (zXo (zSk c) c ps rs (fun _ => 0) px rx (fun _ => 0)) none (decide (c = 44)))) : zDl c dp sv oo ar ps px pv pk rs rx (g, a, d) w := by
  refine ⟨hF, h12, fun h => absurd h hc0, fun _ => ?_⟩
  rcases h with ⟨h1, h2⟩ | ⟨h1, h2⟩
  · exact ⟨fun _ => h2, fun q => absurd q h1⟩
  · exact ⟨fun q => absurd h1 q, fun _ => h2⟩
theorem zVl_n {gs gc gk : Int32} {row x : Nat → UInt64} {oo mk : Bool} {s : Nat} (h1 : gs = nI s) (h2 : zOk s = true) (h3 : oo = false → ∀ q, q < zCt s → row q = x q ∧ zRg (x q) = true) (h4 : gc = nI 0) (h5 : gk = bI mk) : zVl gs gc gk row oo s x none mk := ⟨h1, h2, h3, h4, (fun v h => by cases h), h5⟩
theorem zDl_ap {u9 : zM3} (hp : zVl (g 16) (g 18) (g 20) (d 9) oo ps px pv pk) (her : g 23 = nI 0) (hoo : g 21 = bI oo) (hors : zOk rs = true) (hr : oo = false → ∀ q, q < zCt rs → d 10 (24 * dp + q) = rx q ∧ zRg (rx q) = true)
    (h : ((zJoi ps rs).1 ≠ 0 ∧ u9 = (va_up (va_up (va_up (va_up g 17 (nI 0)) 19 (nI 1)) 22 (nI (ar + 1))) 23 (nI (zJoi ps rs).1), va_up a 12 (va_up (a 12) dp (nI 0)), d)) ∨ ((zJoi ps rs).1 = 0 ∧ ∃ f : Nat → UInt64, (∀ q, q < zCt (zJoi ps rs).2 → f q = if q < zCt ps then d 9 q else d 10 (24 * dp + (q - zCt ps))) ∧ u9 = (va_up (va_up (va_up (va_up g 17 (nI 0)) 19 (nI 1)) 22 (nI (ar + 1))) 15 (nI (zJoi ps rs).2), va_up a 12 (va_up (a 12) dp (nI 0)), va_up d 8 f))) : zDl 44 dp sv oo ar ps px pv pk rs rx (g, a, d) u9 := by
  obtain ⟨h1, h2, h3, h4, h5, h6⟩ := hp
  rcases h with ⟨k1, rfl⟩ | ⟨k1, f, k2, rfl⟩
  · refine zDl_c (by decide) ?_ (by show va_up a 12 (va_up (a 12) dp (nI 0)) 12 dp = nI 0; rw [va_up_self, va_up_self]) (Or.inl ⟨k1, rfl⟩)
    rw [show d = va_up d 8 (d 8) from (va_up_id d 8).symm]
    exact zFm_w (fun k hk => by rw [va_up_ne _ _ (by omega), va_up_ne _ _ (by omega), va_up_ne _ _ (by omega), va_up_ne _ _ (by omega)])
  · refine zDl_c (by decide) (zFm_w (fun k hk => by rw [va_up_ne _ _ (by omega), va_up_ne _ _ (by omega), va_up_ne _ _ (by omega), va_up_ne _ _ (by omega)])) (by show va_up a 12 (va_up (a 12) dp (nI 0)) 12 dp = nI 0; rw [va_up_self, va_up_self]) (Or.inr ⟨k1, her, rfl, oo, hoo, ⟨fun q => ⟨q, ⟨fun q2 => absurd q2 (by decide), fun q2 => absurd q2 (by decide)⟩⟩, fun q => q.1⟩, ?_⟩)
    have hj := zJoi_0 (z := (zJoi ps rs).2) (Prod.ext k1 rfl)
    refine zVl_n rfl (zJoi_ok k1) (fun ho q hq => ?_) rfl rfl
    have hq : q < zCt (zJoi ps rs).2 := hq
    have e8 : va_up d 8 f 8 q = f q := congrFun (va_up_self d 8 f) q
    show va_up d 8 f 8 q = (if q < zCt ps then px q else rx (q - zCt ps)) ∧ zRg (if q < zCt ps then px q else rx (q - zCt ps)) = true
    rw [e8, k2 q hq]
    by_cases hlt : q < zCt ps
    · rw [if_pos hlt, if_pos hlt]
      exact h3 ho q hlt
    · rw [if_neg hlt, if_neg hlt]
      exact hr ho _ (by omega)
theorem zDl_sa {u9 : zM3} (hp : zVl (g 16) (g 18) (g 20) (d 9) oo ps px pv pk) (her : g 23 = nI 0) (hoo : g 21 = bI oo) (har : g 22 = nI ar) (hors : zOk rs = true) (hr : oo = false → ∀ q, q < zCt rs → d 10 (24 * dp + q) = rx q ∧ zRg (rx q) = true)
    (h : ((zAnw pv.isSome ps ((pv.getD []).getD 0 0) ((pv.getD []).getD 1 0) (zCt rs)).1 ≠ 0 ∧ u9 = (va_up (va_up (va_up g 17 (nI 0)) 19 (nI 0)) 23 (nI (zAnw pv.isSome ps ((pv.getD []).getD 0 0) ((pv.getD []).getD 1 0) (zCt rs)).1), va_up a 12 (va_up (a 12) dp (nI 0)), d)) ∨ ((zAnw pv.isSome ps ((pv.getD []).getD 0 0) ((pv.getD []).getD 1 0) (zCt rs)).1 = 0 ∧ ∃ f : Nat → UInt64, (∀ q, q < zCt (zAnw pv.isSome ps ((pv.getD []).getD 0 0) ((pv.getD []).getD 1 0) (zCt rs)).2 → f q = d 10 (24 * dp + q % zCt rs)) ∧ u9 = (va_up (va_up (va_up g 17 (nI 0)) 19 (nI 0)) 15 (nI (zAnw pv.isSome ps ((pv.getD []).getD 0 0) ((pv.getD []).getD 1 0) (zCt rs)).2), va_up a 12 (va_up (a 12) dp (nI 0)), va_up d 8 f))) : zDl 35 dp sv oo ar ps px pv pk rs rx (g, a, d) u9 := by
  obtain ⟨h1, h2, h3, h4, h5, h6⟩ := hp
  rcases h with ⟨k1, rfl⟩ | ⟨k1, f, k2, rfl⟩
  · refine zDl_c (by decide) ?_ (by show va_up a 12 (va_up (a 12) dp (nI 0)) 12 dp = nI 0; rw [va_up_self, va_up_self]) (Or.inl ⟨k1, rfl⟩)
    rw [show d = va_up d 8 (d 8) from (va_up_id d 8).symm]
    exact zFm_w (fun k hk => by rw [va_up_ne _ _ (by omega), va_up_ne _ _ (by omega), va_up_ne _ _ (by omega)])
  · refine zDl_c (by decide) (zFm_w (fun k hk => by rw [va_up_ne _ _ (by omega), va_up_ne _ _ (by omega), va_up_ne _ _ (by omega)])) (by show va_up a 12 (va_up (a 12) dp (nI 0)) 12 dp = nI 0; rw [va_up_self, va_up_self]) (Or.inr ⟨k1, her, har, oo, hoo, ⟨fun q => ⟨q, ⟨fun q2 => absurd q2 (by decide), fun q2 => absurd q2 (by decide)⟩⟩, fun q => q.1⟩, ?_⟩)
    refine zVl_n rfl (zAnw_ok k1) (fun ho q hq => ?_) rfl rfl
    have e8 : va_up d 8 f 8 q = f q := congrFun (va_up_self d 8 f) q
    show va_up d 8 f 8 q = rx (q % zCt rs) ∧ zRg (rx (q % zCt rs)) = true
    rw [e8, k2 q hq]
    exact hr ho _ (Nat.mod_lt _ (zOk_num hors).2.1)
theorem zDl_pa {c : Nat} {u9 : zM3} (h8 : zSk c = 8) (h44 : c ≠ 44) (hp : zVl (g 16) (g 18) (g 20) (d 9) oo ps px pv pk) (her : g 23 = nI 0) (har : g 22 = nI ar) (hors : zOk rs = true) (hr : oo = false → ∀ q, q < zCt rs → d 10 (24 * dp + q) = rx q ∧ zRg (rx q) = true)
    (h : ((zEach ps rs).1 ≠ 0 ∧ u9 = (va_up (va_up (va_up g 17 (nI 0)) 19 (nI 0)) 23 (nI (zEach ps rs).1), va_up a 12 (va_up (a 12) dp (nI 0)), d)) ∨ ((zEach ps rs).1 = 0 ∧ ∃ (b : Bool) (f : Nat → UInt64), zLi oo b (zCt (zEach ps rs).2) (zCt (zEach ps rs).2) f (fun q => zOp c (d 9 (if ps = 0 then 0 else q)) (d 10 (24 * dp + (if rs = 0 then 0 else q)))) ∧ u9 = (va_up (va_up (va_up (va_up g 17 (nI 0)) 19 (nI 0)) 15 (nI (zEach ps rs).2)) 21 (bI b), va_up a 12 (va_up (a 12) dp (nI 0)), va_up d 8 f))) : zDl c dp sv oo ar ps px pv pk rs rx (g, a, d) u9 := by
  obtain ⟨h1, h2, h3, h4, h5, h6⟩ := hp
  have hc0 : c ≠ 0 := zSk_0 (by omega)
  have ez : zSf (zSk c) 0 sv ps rs 0 pv.isSome ((pv.getD []).getD 0 0) ((pv.getD []).getD 1 0) = zEach ps rs := by rw [h8]; rfl
  rcases h with ⟨k1, rfl⟩ | ⟨k1, b, f, k2, rfl⟩
  · refine zDl_c hc0 ?_ (by show va_up a 12 (va_up (a 12) dp (nI 0)) 12 dp = nI 0; rw [va_up_self, va_up_self]) (Or.inl (by rw [ez]; exact ⟨k1, rfl⟩))
    rw [show d = va_up d 8 (d 8) from (va_up_id d 8).symm]
    exact zFm_w (fun k hk => by rw [va_up_ne _ _ (by omega), va_up_ne _ _ (by omega), va_up_ne _ _ (by omega)])
  · refine zDl_c hc0 (zFm_w (fun k hk => by rw [va_up_ne _ _ (by omega), va_up_ne _ _ (by omega), va_up_ne _ _ (by omega), va_up_ne _ _ (by omega)])) (by show va_up a 12 (va_up (a 12) dp (nI 0)) 12 dp = nI 0; rw [va_up_self, va_up_self]) (Or.inr ?_)
    have he := zEach_0 (x := ps) (y := rs) (z := (zEach ps rs).2) (Prod.ext k1 rfl)
    have heq : oo = false → ∀ q, q < zCt (zEach ps rs).2 → zOp c (d 9 (if ps = 0 then 0 else q)) (d 10 (24 * dp + (if rs = 0 then 0 else q))) = zOp c (px (if ps = 0 then 0 else q)) (rx (if rs = 0 then 0 else q)) := fun ho q hq => by
      rw [(h3 ho _ (by
        by_cases h0 : ps = 0
        · rw [if_pos h0]; exact (zOk_num h2).2.1
        · rw [if_neg h0, he.1 h0]; exact hq)).1, (hr ho _ (by
        by_cases h0 : rs = 0
        · rw [if_pos h0]; exact (zOk_num hors).2.1
        · rw [if_neg h0, he.2 h0]; exact hq)).1]
    rw [ez, h8]
    refine ⟨k1, her, by rw [if_neg h44]; exact har, b, rfl, ⟨fun hb => ?_, fun hb => ?_⟩, ?_⟩
    · have ho := zLi_oo k2 hb
      refine ⟨ho, ⟨fun q => absurd q (by decide), fun _ q hq => ?_⟩⟩
      rw [← heq ho q hq]
      exact (k2.2.1 hb q hq).2
    · cases b
      · rfl
      · exfalso
        rcases k2.2.2 rfl with q | ⟨q, q1, q2⟩
        · rw [hb.1] at q; cases q
        · have := hb.2.2 rfl q q1
          rw [← heq hb.1 q q1] at this
          rw [this] at q2
          cases q2
    · refine zVl_n rfl (zEach_ok h2 hors k1) (fun hb q hq => ?_) rfl (by rw [decide_eq_false h44]; rfl)
      have ho := zLi_oo k2 hb
      have e8 : va_up d 8 f 8 q = f q := congrFun (va_up_self d 8 f) q
      have hx := k2.2.1 hb q hq
      have hy := heq ho q hq
      show va_up d 8 f 8 q = zOp c (px (if ps = 0 then 0 else q)) (rx (if rs = 0 then 0 else q)) ∧ zRg (zOp c (px (if ps = 0 then 0 else q)) (rx (if rs = 0 then 0 else q))) = true
      rw [e8, ← hy]
      exact hx
end DL
theorem zSk_8 {c : Nat} (h : zSk c ≠ 0) (h1 : c ≠ 44) (h2 : c ≠ 35) : zSk c = 8 := by
  unfold zSk at h ⊢
  rw [if_neg h2] at h ⊢
  (repeat' split) <;> simp_all
theorem zVl_cc {gs gc gk : Int32} {row x : Nat → UInt64} {oo mk : Bool} {s : Nat} {cv : Option (List Nat)} (h : zVl gs gc gk row oo s x cv mk) : cv.isSome = true → (s = 0 ∨ (2 ≤ s ∧ s ≤ 24)) ∧ row 0 = FP.i2d (nI ((cv.getD []).getD 0 0)) ∧ (cv.getD []).getD 0 0 < 10000 ∧ (s ≠ 0 → row 1 = FP.i2d (nI ((cv.getD []).getD 1 0)) ∧ (cv.getD []).getD 1 0 < 10000) := by
  intro hs
  obtain ⟨v, rfl⟩ := Option.isSome_iff_exists.mp hs
  obtain ⟨h1, h2, h3, h4⟩ := h.2.2.2.2.1 v rfl
  refine ⟨by rw [h1]; split <;> omega, (h4 0 (by omega)).1, (h4 0 (by omega)).2, fun h5 => ?_⟩
  have h6 : 1 < v.length := by
    rw [h1] at h5
    split at h5 <;> omega
  exact h4 1 h6
theorem hd_X9_deliver : yX9_deliver.cls ≠ "java/lang/invoke/MethodHandle" ∧ yX9_deliver.cls ≠ "java/lang/invoke/VarHandle" ∧ (parseMethodDescriptor yX9_deliver.desc).map (fun d => d.parameters.length) = some 1 := by decide +kernel
set_option maxHeartbeats 4000000 in
set_option maxRecDepth 100000 in
theorem c_X9_deliver {l : Launch} (hl9 : l.stackTraces = false) {D : va_G} {ct : Nat → ClassId} {ad : Nat → Nat} (g : Nat → Int32) (a : Nat → Nat → Int32) (d : Nat → Nat → UInt64) (dp : Nat) (hdp : dp < 22) (ch : Nat) (hch : ch < 128) (hwt : a 12 dp = nI ch) (sv : Nat → Nat) (oo : Bool) (hoo : g 21 = bI oo) (ar : Nat) (har : g 22 = nI ar) (her : g 23 = nI 0) (ps : Nat) (px : Nat → UInt64) (pv : Option (List Nat)) (pk : Bool) (hp9 : zVl (g 16) (g 18) (g 20) (d 9) oo ps px pv pk) (rs : Nat) (rx : Nat → UInt64) (hrt : ch ≠ 0 → zSk ch ≠ 0 ∧ a 11 dp = nI rs ∧ zOk rs = true ∧ (oo = false → ∀ q, q < zCt rs → d 10 (24 * dp + q) = rx q ∧ zRg (rx q) = true)) : ar_M l yX9_deliver cX9_deliver 4 none 3 67 D ct (mL ad ct) [.ref (ad 0), .int (nI dp)] (g, a, d) (fun v9 u9 => v9 = none ∧ zDl ch dp sv oo ar ps px pv pk rs rx (g, a, d) u9) (fun _ _ => False) := by
  refine ar_ofW hl9 (by decide) (Nat.le_of_ble_eq_true rfl) ?_
  intro p e s m below meth c A ls C hr hnm hW hl
  have hx := C.1
  have hb := C.2.1
  have hown := C.2.2.2.1
  have hts := C.2.2.2.2.1
  have hl : lv_has ls 4 [(0, .ref (ad 0)), (1, .int (nI dp))] := hl
  refine lv_aload_n hx hb dX9_deliver_0 rfl (lv_at hl 0 rfl) ?_
  refine mg_waiting C hW q601 dX9_deliver_1 ?_
  refine lv_iload_n hx hb dX9_deliver_4 rfl (lv_at hl 1 rfl) ?_
  refine ml_waiting (j := dp) C hW (by omega) dX9_deliver_5 ?_
  refine ln_top (hwt) ?_
  refine lv_istore_n (lv' := [(2, .int (nI ch)), (0, .ref (ad 0)), (1, .int (nI dp))]) hx hb dX9_deliver_6 rfl hl (by decide) rfl (fun ls hl => ?_)
  refine lv_aload_n hx hb dX9_deliver_7 rfl (lv_at hl 1 rfl) ?_
  refine mg_waiting C hW q601 dX9_deliver_8 ?_
  refine lv_iload_n hx hb dX9_deliver_11 rfl (lv_at hl 2 rfl) ?_
  refine lv_iconst (v := nI 0) hx hb dX9_deliver_12 (by decide) ?_
  refine ms_waiting (j := dp) C hW (by omega) dX9_deliver_13 (fun H locs hW => ?_)
  refine lv_aload_n hx hb dX9_deliver_14 rfl (lv_at hl 1 rfl) ?_
  refine lv_iload_n hx hb dX9_deliver_15 rfl (lv_at hl 0 rfl) ?_
  refine ln_if_ne (tgt := 30) hx hb dX9_deliver_16 (by decide) (by omega) (fun h1 => ?_) (fun h1 => ?_)
  · skip
    have hc0 := h1
    obtain ⟨hsk, hrs, hors, hrx⟩ := hrt hc0
    refine lv_iconst (v := nI 0) hx hb dX9_deliver_30 (by decide) ?_
    refine mp_nowConstant (nI_z0) C hW q604 dX9_deliver_31 (fun H locs hW => ?_)
    refine lv_aload_n hx hb dX9_deliver_34 rfl (lv_at hl 1 rfl) ?_
    refine lv_iload_n hx hb dX9_deliver_35 rfl (lv_at hl 0 rfl) ?_
    refine ln_if_ne (tgt := 46) hx hb dX9_deliver_36 (by decide) (by omega) (fun h2 => ?_) (fun h2 => ?_)
    · skip
      refine lv_iload_n hx hb dX9_deliver_46 rfl (lv_at hl 0 rfl) ?_
      refine lv_bipush (v := nI 44) hx hb dX9_deliver_47 (by decide) ?_
      refine ln_icmp_ne (tgt := 56) hx hb dX9_deliver_49 (by decide) (by omega) (by decide) (fun h3 => ?_) (fun h3 => ?_)
      · skip
        have hc44 := h3
        refine lv_iconst (v := nI 0) hx hb dX9_deliver_56 (by decide) ?_
        refine mp_nowCounts (nI_z0) C hW q606 dX9_deliver_57 (fun H locs hW => ?_)
        refine lv_iload_n hx hb dX9_deliver_60 rfl (lv_at hl 0 rfl) ?_
        refine ln_if_ne (tgt := 101) hx hb dX9_deliver_61 (by decide) (by omega) (fun h4 => ?_) (fun h4 => ?_)
        · skip
          refine lv_iload_n hx hb dX9_deliver_101 rfl (lv_at hl 0 rfl) ?_
          refine lv_bipush (v := nI 44) hx hb dX9_deliver_102 (by decide) ?_
          refine ln_icmp_ne (tgt := 115) hx hb dX9_deliver_104 (by decide) (by omega) (by decide) (fun h5 => ?_) (fun h5 => ?_)
          · skip
            refine lv_iload_n hx hb dX9_deliver_115 rfl (lv_at hl 0 rfl) ?_
            refine lv_bipush (v := nI 35) hx hb dX9_deliver_116 (by decide) ?_
            refine ln_icmp_ne (tgt := 129) hx hb dX9_deliver_118 (by decide) (by omega) (by decide) (fun h6 => ?_) (fun h6 => ?_)
            · skip
              have hc35 := h6
              have hs8 := zSk_8 hsk hc44 hc35
              refine lv_aload_n hx hb dX9_deliver_129 rfl (lv_at hl 1 rfl) ?_
              refine lv_iload_n hx hb dX9_deliver_130 rfl (lv_at hl 0 rfl) ?_
              refine lv_iload_n hx hb dX9_deliver_131 rfl (lv_at hl 2 rfl) ?_
              refine ar_callV (q0 := 0) (ci := 7) (T9 := TX9) (N9 := 27) (As := [.int (nI ch), .int (nI dp)]) (rest := []) C hW (c_X9_pairs hl9 (va_up (va_up g 17 (nI 0)) 19 (nI 0)) (va_up a 12 (va_up (a 12) dp (nI 0))) d dp hdp ch (zSk_sg hs8) oo hoo ps hp9.2.1 hp9.1 rs hors hrs (fun ho q hq => by rw [(hp9.2.2.1 ho q hq).1]; exact (hp9.2.2.1 ho q hq).2) (fun ho q hq => by show zRg (d 10 (24 * dp + q)) = true; rw [(hrx ho q hq).1]; exact (hrx ho q hq).2)) (rfl) rfl q796 q798 qs16 q6 q799 hd_X9_pairs ⟨Nat.le_of_ble_eq_true rfl, Nat.le_of_ble_eq_true rfl⟩ hl.1 (Nat.le_of_ble_eq_true rfl) rfl dX9_deliver_132 (fun _ _ _ _ _ _ hp => hp.elim) (fun v9 u9 H locs hp hW => ?_)
              obtain ⟨rfl, hq9⟩ := hp
              refine W.eq (g2 := F0 m 135 ls []) rfl ?_
              exact ar_vret C hr hW dX9_deliver_135 (⟨rfl, zDl_pa hs8 hc44 hp9 her har hors hrx hq9⟩)
            · skip
              subst h6
              refine lv_aload_n hx hb dX9_deliver_121 rfl (lv_at hl 1 rfl) ?_
              refine lv_iload_n hx hb dX9_deliver_122 rfl (lv_at hl 2 rfl) ?_
              refine ar_callV (q0 := 0) (ci := 7) (T9 := TX9) (N9 := 27) (As := [.int (nI dp)]) (rest := []) C hW (c_X9_shapeAnew hl9 (va_up (va_up g 17 (nI 0)) 19 (nI 0)) (va_up a 12 (va_up (a 12) dp (nI 0))) d dp hdp her pv.isSome hp9.2.2.2.1 ps hp9.2.1 hp9.1 rs hors hrs ((pv.getD []).getD 0 0) ((pv.getD []).getD 1 0) (zVl_cc hp9)) (rfl) rfl q792 q794 qs15 q6 q795 hd_X9_shapeAnew ⟨Nat.le_of_ble_eq_true rfl, Nat.le_of_ble_eq_true rfl⟩ hl.1 (Nat.le_of_ble_eq_true rfl) rfl dX9_deliver_123 (fun _ _ _ _ _ _ hp => hp.elim) (fun v9 u9 H locs hp hW => ?_)
              obtain ⟨rfl, hq9⟩ := hp
              refine W.eq (g2 := F0 m 126 ls []) rfl ?_
              refine lv_goto (tgt := 135) hx hb dX9_deliver_126 (by decide) ?_
              exact ar_vret C hr hW dX9_deliver_135 (⟨rfl, zDl_sa hp9 her hoo har hors hrx hq9⟩)
          · skip
            exact absurd h5 hc44
        · skip
          exact absurd h4 hc0
      · skip
        subst h3
        refine lv_iconst (v := nI 1) hx hb dX9_deliver_52 (by decide) ?_
        refine lv_goto (tgt := 57) hx hb dX9_deliver_53 (by decide) ?_
        refine mp_nowCounts (nI_z1) C hW q606 dX9_deliver_57 (fun H locs hW => ?_)
        refine lv_iload_n hx hb dX9_deliver_60 rfl (lv_at hl 0 rfl) ?_
        refine ln_if_ne (tgt := 101) hx hb dX9_deliver_61 (by decide) (by omega) (fun h7 => ?_) (fun h7 => ?_)
        · skip
          refine lv_iload_n hx hb dX9_deliver_101 rfl (lv_at hl 0 rfl) ?_
          refine lv_bipush (v := nI 44) hx hb dX9_deliver_102 (by decide) ?_
          refine ln_icmp_ne (tgt := 115) hx hb dX9_deliver_104 (by decide) (by decide) (by decide) (fun h8 => absurd rfl h8) (fun _ => ?_)
          refine lv_aload_n hx hb dX9_deliver_107 rfl (lv_at hl 1 rfl) ?_
          refine lv_iload_n hx hb dX9_deliver_108 rfl (lv_at hl 2 rfl) ?_
          refine ar_callV (q0 := 0) (ci := 7) (T9 := TX9) (N9 := 27) (As := [.int (nI dp)]) (rest := []) C hW (c_X9_append hl9 (va_up (va_up g 17 (nI 0)) 19 (nI 1)) (va_up a 12 (va_up (a 12) dp (nI 0))) d dp hdp ar har her ps hp9.2.1 hp9.1 rs hors hrs) (rfl) rfl q788 q790 qs14 q6 q791 hd_X9_append ⟨Nat.le_of_ble_eq_true rfl, Nat.le_of_ble_eq_true rfl⟩ hl.1 (Nat.le_of_ble_eq_true rfl) rfl dX9_deliver_109 (fun _ _ _ _ _ _ hp => hp.elim) (fun v9 u9 H locs hp hW => ?_)
          obtain ⟨rfl, hq9⟩ := hp
          refine W.eq (g2 := F0 m 112 ls []) rfl ?_
          refine lv_goto (tgt := 135) hx hb dX9_deliver_112 (by decide) ?_
          exact ar_vret C hr hW dX9_deliver_135 (⟨rfl, zDl_ap hp9 her hoo hors hrx hq9⟩)
        · skip
          exact absurd h7 hc0
    · skip
      exact absurd h2 hc0
  · skip
    subst h1
    refine lv_aload_n hx hb dX9_deliver_19 rfl (lv_at hl 1 rfl) ?_
    refine mg_partConstant C hW q605 dX9_deliver_20 ?_
    refine ln_topb (hp9.2.2.2.1) ?_
    refine lb_if_eq (tgt := 30) hx hb dX9_deliver_23 (by decide) (fun h9 => ?_) (fun h9 => ?_)
    · skip
      refine lv_iconst (v := nI 0) hx hb dX9_deliver_30 (by decide) ?_
      refine mp_nowConstant (nI_z0) C hW q604 dX9_deliver_31 (fun H locs hW => ?_)
      refine lv_aload_n hx hb dX9_deliver_34 rfl (lv_at hl 1 rfl) ?_
      refine lv_iload_n hx hb dX9_deliver_35 rfl (lv_at hl 0 rfl) ?_
      refine ln_if_ne (tgt := 46) hx hb dX9_deliver_36 (by decide) (by decide) (fun h10 => absurd h10 (by decide)) (fun _ => ?_)
      refine lv_aload_n hx hb dX9_deliver_39 rfl (lv_at hl 1 rfl) ?_
      refine mg_partCounts C hW q607 dX9_deliver_40 ?_
      rw [va_up_ne _ _ (by decide)]
      refine ln_topb (hp9.2.2.2.2.2) ?_
      refine lv_goto (tgt := 57) hx hb dX9_deliver_43 (by decide) ?_
      refine mp_nowCounts (bI_z _) C hW q606 dX9_deliver_57 (fun H locs hW => ?_)
      refine lv_iload_n hx hb dX9_deliver_60 rfl (lv_at hl 0 rfl) ?_
      refine ln_if_ne (tgt := 101) hx hb dX9_deliver_61 (by decide) (by decide) (fun h11 => absurd h11 (by decide)) (fun _ => ?_)
      refine lv_aload_n hx hb dX9_deliver_64 rfl (lv_at hl 1 rfl) ?_
      refine lv_aload_n hx hb dX9_deliver_65 rfl (lv_at hl 1 rfl) ?_
      refine mg_partShape C hW q603 dX9_deliver_66 ?_
      rw [va_up_ne _ _ (by decide)]
      rw [va_up_ne _ _ (by decide)]
      refine ln_top (hp9.1) ?_
      refine mp_nowShape C hW q602 dX9_deliver_69 (fun H locs hW => ?_)
      refine lv_iconst (v := nI 0) hx hb dX9_deliver_72 (by decide) ?_
      refine lv_istore_n (lv' := [(3, .int (nI 0)), (2, .int (nI 0)), (0, .ref (ad 0)), (1, .int (nI dp))]) hx hb dX9_deliver_73 rfl hl (by decide) rfl (fun ls hl => ?_)
      have lp : ∀ (N9 : Nat) (k : Nat) (f : Nat → UInt64) (H : Heap) (locs : List Loc) (ls : Array Slot), 24 - k < N9 → (k ≤ 24) → (∀ q, q < k → f q = d 9 q) → ar_W D A s.heap H locs (mL ad ct (va_up (va_up (va_up g 17 (nI 0)) 19 (bI pk)) 15 (nI ps), va_up a 12 (va_up (a 12) dp (nI 0)), va_up d 8 f)) → lv_has ls 4 [(0, .ref (ad 0)), (1, .int (nI dp)), (2, .int (nI 0)), (3, .int (nI k))] → W p l e (ar_rm 3 67) s m [.ref (ad 0), .int (nI dp)].toArray below meth c H locs 0 0 (ar_E below (ar_Q D ct (mL ad ct) A (fun v9 u9 => v9 = none ∧ zDl (0) dp sv oo ar ps px pv pk rs rx (g, a, d) u9) (fun _ _ => False)) [.ref (ad 0), .int (nI dp)].toArray s) (F0 m 74 ls []) := by
        intro N9
        induction N9 with
        | zero =>
          intro k f H locs ls hN9
          exact absurd hN9 (Nat.not_lt_zero _)
        | succ N9 ihlp =>
          intro k f H locs ls hN9 hk hf hW hl
          refine lv_iload_n hx hb dX9_deliver_74 rfl (lv_at hl 3 rfl) ?_
          refine lv_bipush (v := nI 24) hx hb dX9_deliver_75 (by decide) ?_
          refine ln_icmp_ge (tgt := 98) hx hb dX9_deliver_77 (by decide) (by omega) (by decide) (fun h12 => ?_) (fun h12 => ?_)
          · skip
            refine lv_goto (tgt := 135) hx hb dX9_deliver_98 (by decide) ?_
            exact ar_vret C hr hW dX9_deliver_135 (⟨rfl, zDl_0 hp9 (fun k hk => by rw [va_up_ne _ _ (by omega), va_up_ne _ _ (by omega), va_up_ne _ _ (by omega)]) her hoo har rfl ((bI_f h9)) rfl (fun q hq => hf q (by omega))⟩)
          · skip
            refine lv_aload_n hx hb dX9_deliver_80 rfl (lv_at hl 0 rfl) ?_
            refine mg_now C hW q597 dX9_deliver_81 ?_
            refine lv_iload_n hx hb dX9_deliver_84 rfl (lv_at hl 3 rfl) ?_
            refine lv_aload_n hx hb dX9_deliver_85 rfl (lv_at hl 0 rfl) ?_
            refine mg_part C hW q598 dX9_deliver_86 ?_
            refine lv_iload_n hx hb dX9_deliver_89 rfl (lv_at hl 3 rfl) ?_
            refine ml_part (j := k) C hW (by omega) dX9_deliver_90 ?_
            rw [va_up_ne _ _ (by omega)]
            refine ms_now (j := k) C hW (by omega) dX9_deliver_91 (fun H locs hW => ?_)
            simp only [bx_uu, va_up_self] at hW
            refine ln_iinc (k := 3) (n := 1) (lv' := [(3, .int (nI (k + 1))), (0, .ref (ad 0)), (1, .int (nI dp)), (2, .int (nI 0))]) hx hb dX9_deliver_92 hl rfl (by decide) rfl (fun ls hl => ?_)
            refine lv_goto (tgt := 74) hx hb dX9_deliver_95 (by decide) ?_
            exact ihlp (k + 1) (va_up f k (d 9 k)) _ _ _ (by omega) (by omega) (fill_p hf) (hW) (lv_sub hl [1, 2, 3, 0] rfl)
      exact lp _ 0 (d 8) _ _ _ (Nat.lt_succ_self _) (Nat.zero_le _) (fun q hq => absurd hq (Nat.not_lt_zero _)) (by rw [va_up_id]; exact hW) (lv_sub hl [2, 3, 1, 0] rfl)
    · skip
      refine lv_iconst (v := nI 1) hx hb dX9_deliver_26 (by decide) ?_
      refine lv_goto (tgt := 31) hx hb dX9_deliver_27 (by decide) ?_
      refine mp_nowConstant (nI_z1) C hW q604 dX9_deliver_31 (fun H locs hW => ?_)
      refine lv_aload_n hx hb dX9_deliver_34 rfl (lv_at hl 1 rfl) ?_
      refine lv_iload_n hx hb dX9_deliver_35 rfl (lv_at hl 0 rfl) ?_
      refine ln_if_ne (tgt := 46) hx hb dX9_deliver_36 (by decide) (by decide) (fun h13 => absurd h13 (by decide)) (fun _ => ?_)
      refine lv_aload_n hx hb dX9_deliver_39 rfl (lv_at hl 1 rfl) ?_
      refine mg_partCounts C hW q607 dX9_deliver_40 ?_
      rw [va_up_ne _ _ (by decide)]
      refine ln_topb (hp9.2.2.2.2.2) ?_
      refine lv_goto (tgt := 57) hx hb dX9_deliver_43 (by decide) ?_
      refine mp_nowCounts (bI_z _) C hW q606 dX9_deliver_57 (fun H locs hW => ?_)
      refine lv_iload_n hx hb dX9_deliver_60 rfl (lv_at hl 0 rfl) ?_
      refine ln_if_ne (tgt := 101) hx hb dX9_deliver_61 (by decide) (by decide) (fun h14 => absurd h14 (by decide)) (fun _ => ?_)
      refine lv_aload_n hx hb dX9_deliver_64 rfl (lv_at hl 1 rfl) ?_
      refine lv_aload_n hx hb dX9_deliver_65 rfl (lv_at hl 1 rfl) ?_
      refine mg_partShape C hW q603 dX9_deliver_66 ?_
      rw [va_up_ne _ _ (by decide)]
      rw [va_up_ne _ _ (by decide)]
      refine ln_top (hp9.1) ?_
      refine mp_nowShape C hW q602 dX9_deliver_69 (fun H locs hW => ?_)
      refine lv_iconst (v := nI 0) hx hb dX9_deliver_72 (by decide) ?_
      refine lv_istore_n (lv' := [(3, .int (nI 0)), (2, .int (nI 0)), (0, .ref (ad 0)), (1, .int (nI dp))]) hx hb dX9_deliver_73 rfl hl (by decide) rfl (fun ls hl => ?_)
      have lp : ∀ (N9 : Nat) (k : Nat) (f : Nat → UInt64) (H : Heap) (locs : List Loc) (ls : Array Slot), 24 - k < N9 → (k ≤ 24) → (∀ q, q < k → f q = d 9 q) → ar_W D A s.heap H locs (mL ad ct (va_up (va_up (va_up g 17 (nI 1)) 19 (bI pk)) 15 (nI ps), va_up a 12 (va_up (a 12) dp (nI 0)), va_up d 8 f)) → lv_has ls 4 [(0, .ref (ad 0)), (1, .int (nI dp)), (2, .int (nI 0)), (3, .int (nI k))] → W p l e (ar_rm 3 67) s m [.ref (ad 0), .int (nI dp)].toArray below meth c H locs 0 0 (ar_E below (ar_Q D ct (mL ad ct) A (fun v9 u9 => v9 = none ∧ zDl (0) dp sv oo ar ps px pv pk rs rx (g, a, d) u9) (fun _ _ => False)) [.ref (ad 0), .int (nI dp)].toArray s) (F0 m 74 ls []) := by
        intro N9
        induction N9 with
        | zero =>
          intro k f H locs ls hN9
          exact absurd hN9 (Nat.not_lt_zero _)
        | succ N9 ihlp =>
          intro k f H locs ls hN9 hk hf hW hl
          refine lv_iload_n hx hb dX9_deliver_74 rfl (lv_at hl 3 rfl) ?_
          refine lv_bipush (v := nI 24) hx hb dX9_deliver_75 (by decide) ?_
          refine ln_icmp_ge (tgt := 98) hx hb dX9_deliver_77 (by decide) (by omega) (by decide) (fun h15 => ?_) (fun h15 => ?_)
          · skip
            refine lv_goto (tgt := 135) hx hb dX9_deliver_98 (by decide) ?_
            exact ar_vret C hr hW dX9_deliver_135 (⟨rfl, zDl_0 hp9 (fun k hk => by rw [va_up_ne _ _ (by omega), va_up_ne _ _ (by omega), va_up_ne _ _ (by omega)]) her hoo har rfl ((bI_t h9)) rfl (fun q hq => hf q (by omega))⟩)
          · skip
            refine lv_aload_n hx hb dX9_deliver_80 rfl (lv_at hl 0 rfl) ?_
            refine mg_now C hW q597 dX9_deliver_81 ?_
            refine lv_iload_n hx hb dX9_deliver_84 rfl (lv_at hl 3 rfl) ?_
            refine lv_aload_n hx hb dX9_deliver_85 rfl (lv_at hl 0 rfl) ?_
            refine mg_part C hW q598 dX9_deliver_86 ?_
            refine lv_iload_n hx hb dX9_deliver_89 rfl (lv_at hl 3 rfl) ?_
            refine ml_part (j := k) C hW (by omega) dX9_deliver_90 ?_
            rw [va_up_ne _ _ (by omega)]
            refine ms_now (j := k) C hW (by omega) dX9_deliver_91 (fun H locs hW => ?_)
            simp only [bx_uu, va_up_self] at hW
            refine ln_iinc (k := 3) (n := 1) (lv' := [(3, .int (nI (k + 1))), (0, .ref (ad 0)), (1, .int (nI dp)), (2, .int (nI 0))]) hx hb dX9_deliver_92 hl rfl (by decide) rfl (fun ls hl => ?_)
            refine lv_goto (tgt := 74) hx hb dX9_deliver_95 (by decide) ?_
            exact ihlp (k + 1) (va_up f k (d 9 k)) _ _ _ (by omega) (by omega) (fill_p hf) (hW) (lv_sub hl [1, 2, 3, 0] rfl)
      exact lp _ 0 (d 8) _ _ _ (Nat.lt_succ_self _) (Nat.zero_le _) (fun q hq => absurd hq (Nat.not_lt_zero _)) (by rw [va_up_id]; exact hW) (lv_sub hl [2, 3, 1, 0] rfl)
