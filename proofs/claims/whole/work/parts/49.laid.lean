/-! a new ArrayText's cells, as the class's world has them -/
abbrev kT : Type := Nat × List (Nat × Nat) × (Nat × Nat) × Nat × Nat × List (Nat × Nat × Nat)
def kAd (h : Nat) (x : kT) (i : Nat) : Nat :=
  if i < 6 then (if i = 0 then h else if i = 1 then x.1 else if i = 2 then x.2.2.1.1 else if i = 3 then x.2.2.1.2 else if i = 4 then x.2.2.2.1 else x.2.2.2.2.1)
  else if i < 14 then (x.2.1.getD (i - 6) (0, 0)).1 else if i < 55 then (x.2.2.2.2.2.getD (i - 14) (0, 0, 0)).2.1 else if i < 63 then (x.2.1.getD (i - 55) (0, 0)).2 else if i < 104 then (x.2.2.2.2.2.getD (i - 63) (0, 0, 0)).2.2 else (x.2.2.2.2.2.getD (i - 104) (0, 0, 0)).1
def kPos (i : Nat) : Nat := if i < 2 then i else if i < 6 then 16 + i else if i < 14 then 2 + (2 * (i - 6) + 0) else if i < 55 then 22 + (3 * (i - 14) + 1) else if i < 63 then 2 + (2 * (i - 55) + 1) else if i < 104 then 22 + (3 * (i - 63) + 2) else 22 + (3 * (i - 104) + 0)
def kInv (p : Nat) : Nat := if p < 2 then p else if p < 18 then (if p % 2 = 0 then 6 + (p - 2) / 2 else 55 + (p - 2) / 2) else if p < 22 then p - 16 else if (p - 22) % 3 = 0 then 104 + (p - 22) / 3 else if (p - 22) % 3 = 1 then 14 + (p - 22) / 3 else 63 + (p - 22) / 3
theorem kPos_inv : ∀ i, i < 145 → kInv (kPos i) = i := by decide +kernel
abbrev kX0 : XS := (iZ, iZ, iZ, fun _ => iZd, fun _ => iZ, fun _ _ => none)
section AJ0
variable {ct : Nat → ClassId} {h : Nat} {x : kT} {D : va_G} {A : Nat → Prop} {H0 H : Heap} {locs : List Loc}
theorem kLen (h8 : x.2.1.length = 8) : (kVs ct x.2.1).length = 16 := by rw [iFlat (d := 2) (fun _ => rfl), h8]
theorem kAt_N (h8 : x.2.1.length = 8) {p : Nat} : (kAll ct h x)[22 + p]? = (kNs ct x.2.2.2.2.2)[p]? := by
  have h1 := kLen (ct := ct) h8
  rw [List.getElem?_append_right (by rw [List.length_append, List.length_append, h1]; show 2 + 16 + 2 ≤ _; omega), List.length_append, List.length_append, h1, List.getElem?_append_right (by show 2 ≤ 22 + p - (2 + 16 + 2); omega)]
  rw [show 22 + p - (List.length (kVh ct h x.1 x.2.1 (.ref x.2.2.1.1) (.ref x.2.2.2.1)) + 16 + List.length (kTx ct x.2.2.1.1 x.2.2.1.2)) - List.length (kTh ct x.2.2.2.1 x.2.2.2.2.1 x.2.2.2.2.2) = p from (by show 22 + p - (2 + 16 + 2) - 2 = p; omega)]
theorem kAt_H (h8 : x.2.1.length = 8) {p : Nat} (hp : p < 2) : (kAll ct h x)[20 + p]? = (kTh ct x.2.2.2.1 x.2.2.2.2.1 x.2.2.2.2.2)[p]? := by
  have h1 := kLen (ct := ct) h8
  rw [List.getElem?_append_right (by rw [List.length_append, List.length_append, h1]; show 2 + 16 + 2 ≤ _; omega), List.length_append, List.length_append, h1, List.getElem?_append_left (by show 20 + p - (2 + 16 + 2) < 2; omega)]
  rw [show 20 + p - (List.length (kVh ct h x.1 x.2.1 (.ref x.2.2.1.1) (.ref x.2.2.2.1)) + 16 + List.length (kTx ct x.2.2.1.1 x.2.2.1.2)) = p from (by show 20 + p - (2 + 16 + 2) = p; omega)]
theorem kAt_T (h8 : x.2.1.length = 8) {p : Nat} (hp : p < 2) : (kAll ct h x)[18 + p]? = (kTx ct x.2.2.1.1 x.2.2.1.2)[p]? := by
  have h1 := kLen (ct := ct) h8
  rw [List.getElem?_append_left (by rw [List.length_append, List.length_append, h1]; show 18 + p < 2 + 16 + 2; omega), List.getElem?_append_right (by rw [List.length_append, h1]; show 2 + 16 ≤ _; omega), List.length_append, h1]
  rw [show 18 + p - (List.length (kVh ct h x.1 x.2.1 (.ref x.2.2.1.1) (.ref x.2.2.2.1)) + 16) = p from (by show 18 + p - (2 + 16) = p; omega)]
theorem kAt_V (h8 : x.2.1.length = 8) {p : Nat} (hp : p < 16) : (kAll ct h x)[2 + p]? = (kVs ct x.2.1)[p]? := by
  have h1 := kLen (ct := ct) h8
  rw [List.getElem?_append_left (by rw [List.length_append, List.length_append, h1]; show 2 + p < 2 + 16 + 2; omega), List.getElem?_append_left (by rw [List.length_append, h1]; show 2 + p < 2 + 16; omega), List.getElem?_append_right (by show 2 ≤ 2 + p; omega)]
  rw [show 2 + p - List.length (kVh ct h x.1 x.2.1 (.ref x.2.2.1.1) (.ref x.2.2.2.1)) = p from (by show 2 + p - 2 = p; omega)]
theorem kGet {α : Type} {L : List α} {j : Nat} {d : α} (hj : j < L.length) : L[j]? = some (L.getD j d) := by simp [hj]
theorem kArr {cA : ClassId} {n : Nat} {f g : Nat → Option Nat} (hfg : ∀ j, j < n → f j = g j) : vp_cell cA (n, .inr (.inr (.inr (.inr f)))) = vp_cell cA (n, .inr (.inr (.inr (.inr g)))) := by
  rw [vp_cell_q, vp_cell_q]
  unfold arrV
  congr 1
  apply Array.ext
  · simp
  · intro i h1 h2
    simp at h1 h2
    simp [hfg i h1]
theorem kCell (h8 : x.2.1.length = 8) (h41 : x.2.2.2.2.2.length = 41) : ∀ i, i < 145 → ∃ e : va_E, (kAll ct h x)[kPos i]? = some (kAd h x i, e) ∧ ∀ H : Heap, va_at D vwCl (kAd h x i, e) H → va_at D vwCl (kAd h x i, xC (kAd h x) ct kX0 i) H := by
  intro i hi
  by_cases i0 : i = 0
  · subst i0; exact ⟨_, rfl, fun _ q => q⟩
  by_cases i1 : i = 1
  · subst i1
    refine ⟨_, rfl, fun H q => ?_⟩
    have q : H[x.1]? = some (vp_cell _ _) := q
    show H[x.1]? = some (vp_cell (ct 5) (8, _))
    rw [q]
    refine congrArg some (kArr (fun j hj => ?_))
    show (x.2.1[j]?).map (·.1) = some (kAd h x (6 + j))
    rw [kGet (d := (0, 0)) (by omega)]
    unfold kAd
    rw [if_neg (by omega), if_pos (by omega), Nat.add_sub_cancel_left]
    rfl
  by_cases i2 : i = 2
  · subst i2; exact ⟨_, kAt_T (p := 0) h8 (by decide), fun _ q => q⟩
  by_cases i3 : i = 3
  · subst i3; exact ⟨_, kAt_T (p := 1) h8 (by decide), fun _ q => q⟩
  by_cases i4 : i = 4
  · subst i4; exact ⟨_, kAt_H (p := 0) h8 (by decide), fun _ q => q⟩
  by_cases i5 : i = 5
  · subst i5
    refine ⟨_, kAt_H (p := 1) h8 (by decide), fun H q => ?_⟩
    have q : H[x.2.2.2.2.1]? = some (vp_cell _ _) := q
    show H[x.2.2.2.2.1]? = some (vp_cell (ct 4) (41, _))
    rw [q]
    refine congrArg some (kArr (fun j hj => ?_))
    show (x.2.2.2.2.2[j]?).map (·.1) = some (kAd h x (104 + j))
    rw [kGet (d := (0, 0, 0)) (by omega)]
    unfold kAd
    rw [if_neg (by omega), if_neg (by omega), if_neg (by omega), if_neg (by omega), if_neg (by omega), Nat.add_sub_cancel_left]
    rfl
  by_cases i14 : i < 14
  · obtain ⟨j, rfl⟩ : ∃ j, i = 6 + j := ⟨i - 6, by omega⟩
    have hj : j < 8 := by omega
    have e1 : kPos (6 + j) = 2 + (2 * j + 0) := by unfold kPos; rw [if_neg (by omega), if_neg (by omega), if_pos (by omega), Nat.add_sub_cancel_left]
    have e2 : kAd h x (6 + j) = (x.2.1.getD j (0, 0)).1 := by unfold kAd; rw [if_neg (by omega), if_pos (by omega), Nat.add_sub_cancel_left]
    have e3 : kAd h x (55 + j) = (x.2.1.getD j (0, 0)).2 := by unfold kAd; rw [if_neg (by omega), if_neg (by omega), if_neg (by omega), if_pos (by omega), Nat.add_sub_cancel_left]
    rw [e1, kAt_V h8 (by omega), iFlatAt (d := 2) (fun _ => rfl) (by decide) x.2.1 j _ (kGet (d := (0, 0)) (by omega)), xc_na (by omega), e2, e3]
    exact ⟨_, rfl, fun _ q => q⟩
  by_cases i55 : i < 55
  · obtain ⟨j, rfl⟩ : ∃ j, i = 14 + j := ⟨i - 14, by omega⟩
    have hj : j < 41 := by omega
    have e1 : kPos (14 + j) = 22 + (3 * j + 1) := by unfold kPos; rw [if_neg (by omega), if_neg (by omega), if_neg (by omega), if_pos (by omega), Nat.add_sub_cancel_left]
    have e2 : kAd h x (14 + j) = (x.2.2.2.2.2.getD j (0, 0, 0)).2.1 := by unfold kAd; rw [if_neg (by omega), if_neg (by omega), if_pos (by omega), Nat.add_sub_cancel_left]
    have e3 : kAd h x (55 + (8 + j)) = (x.2.2.2.2.2.getD j (0, 0, 0)).2.2 := by unfold kAd; rw [if_neg (by omega), if_neg (by omega), if_neg (by omega), if_neg (by omega), if_pos (by omega), show 55 + (8 + j) - 63 = j by omega]
    rw [e1, kAt_N h8, iFlatAt (d := 3) (fun _ => rfl) (by decide) x.2.2.2.2.2 j _ (kGet (d := (0, 0, 0)) (by omega)), show xC (kAd h x) ct kX0 (14 + j) = xC (kAd h x) ct kX0 (6 + (8 + j)) by rw [show 14 + j = 6 + (8 + j) by omega], xc_na (by omega), e2, e3]
    exact ⟨_, rfl, fun _ q => q⟩
  by_cases i63 : i < 63
  · obtain ⟨j, rfl⟩ : ∃ j, i = 55 + j := ⟨i - 55, by omega⟩
    have hj : j < 8 := by omega
    have e1 : kPos (55 + j) = 2 + (2 * j + 1) := by unfold kPos; rw [if_neg (by omega), if_neg (by omega), if_neg (by omega), if_neg (by omega), if_pos (by omega), Nat.add_sub_cancel_left]
    have e2 : kAd h x (55 + j) = (x.2.1.getD j (0, 0)).2 := by unfold kAd; rw [if_neg (by omega), if_neg (by omega), if_neg (by omega), if_pos (by omega), Nat.add_sub_cancel_left]
    rw [e1, kAt_V h8 (by omega), iFlatAt (d := 2) (fun _ => rfl) (by decide) x.2.1 j _ (kGet (d := (0, 0)) (by omega)), xc_el (by omega), e2]
    exact ⟨_, rfl, fun _ q => q⟩
  by_cases i104 : i < 104
  · obtain ⟨j, rfl⟩ : ∃ j, i = 63 + j := ⟨i - 63, by omega⟩
    have hj : j < 41 := by omega
    have e1 : kPos (63 + j) = 22 + (3 * j + 2) := by unfold kPos; rw [if_neg (by omega), if_neg (by omega), if_neg (by omega), if_neg (by omega), if_neg (by omega), if_pos (by omega), Nat.add_sub_cancel_left]
    have e2 : kAd h x (63 + j) = (x.2.2.2.2.2.getD j (0, 0, 0)).2.2 := by unfold kAd; rw [if_neg (by omega), if_neg (by omega), if_neg (by omega), if_neg (by omega), if_pos (by omega), Nat.add_sub_cancel_left]
    rw [e1, kAt_N h8, iFlatAt (d := 3) (fun _ => rfl) (by decide) x.2.2.2.2.2 j _ (kGet (d := (0, 0, 0)) (by omega)), show xC (kAd h x) ct kX0 (63 + j) = xC (kAd h x) ct kX0 (55 + (8 + j)) by rw [show 63 + j = 55 + (8 + j) by omega], xc_el (by omega), e2]
    exact ⟨_, rfl, fun _ q => q⟩
  · obtain ⟨j, rfl⟩ : ∃ j, i = 104 + j := ⟨i - 104, by omega⟩
    have hj : j < 41 := by omega
    have e1 : kPos (104 + j) = 22 + (3 * j + 0) := by unfold kPos; rw [if_neg (by omega), if_neg (by omega), if_neg (by omega), if_neg (by omega), if_neg (by omega), if_neg (by omega), Nat.add_sub_cancel_left]
    have e2 : kAd h x (104 + j) = (x.2.2.2.2.2.getD j (0, 0, 0)).1 := by unfold kAd; rw [if_neg (by omega), if_neg (by omega), if_neg (by omega), if_neg (by omega), if_neg (by omega), Nat.add_sub_cancel_left]
    have e3 : kAd h x (6 + (8 + j)) = (x.2.2.2.2.2.getD j (0, 0, 0)).2.1 := by unfold kAd; rw [if_neg (by omega), if_neg (by omega), if_pos (by omega), show 6 + (8 + j) - 14 = j by omega]
    rw [e1, kAt_N h8, iFlatAt (d := 3) (fun _ => rfl) (by decide) x.2.2.2.2.2 j _ (kGet (d := (0, 0, 0)) (by omega)), xc_nd, e2, e3]
    exact ⟨_, rfl, fun _ q => q⟩
theorem kLaid (h8 : x.2.1.length = 8) (h41 : x.2.2.2.2.2.length = 41) (hW : ar_W D A H0 H locs (kAll ct h x)) : ar_W D A H0 H locs (xL (kAd h x) ct kX0) := by
  have at' : ∀ (k : Nat) (q : Nat × va_E), (xL (kAd h x) ct kX0)[k]? = some q → k < 145 ∧ q = (kAd h x k, xC (kAd h x) ct kX0 k) := by
    intro k q hk
    have hl := (List.getElem?_eq_some_iff.mp hk).1
    rw [xl_len] at hl
    rw [xl_get hl] at hk
    exact ⟨hl, (Option.some.inj hk).symm⟩
  refine ⟨fun k q hk => ?_, ⟨fun i j p q hi hj e => ?_, fun k q hk => ?_⟩, hW.2.2⟩
  · obtain ⟨hl, rfl⟩ := at' k q hk
    obtain ⟨e, h1, h2⟩ := kCell (ct := ct) (h := h) (D := D) h8 h41 k hl
    exact h2 H (hW.1 _ _ h1)
  · obtain ⟨hl, rfl⟩ := at' i p hi
    obtain ⟨hm, rfl⟩ := at' j q hj
    obtain ⟨e1, h1, -⟩ := kCell (ct := ct) (h := h) (D := D) h8 h41 i hl
    obtain ⟨e2, h2, -⟩ := kCell (ct := ct) (h := h) (D := D) h8 h41 j hm
    have := hW.2.1.1 _ _ _ _ h1 h2 e
    rw [← kPos_inv i hl, ← kPos_inv j hm, this]
  · obtain ⟨hl, rfl⟩ := at' k q hk
    obtain ⟨e, h1, -⟩ := kCell (ct := ct) (h := h) (D := D) h8 h41 k hl
    exact (hW.2.1.2 _ (kAd h x k, e) h1)
end AJ0
