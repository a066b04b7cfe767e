abbrev XS : Type := (Nat → Int32) × (Nat → Int32) × (Nat → Int32) × (Nat → Nat → UInt64) × (Nat → Nat → Int32) × (Nat → Nat → Option Nat)
/-- the class's cells by their places: 0 the object, 1 the variables' row, 2 the text, 3 its signs, 4 the tree, 5 its nodes' row, 6 + j the arrays (j < 8: a variable, 8 + k: node k's result), 55 + j their elements, 104 + k node k -/
def xC (ad : Nat → Nat) (ct : Nat → ClassId) (u : XS) (i : Nat) : va_E :=
  if i = 0 then .inr (6, [.ref (ad 1), .ref (ad 2), .ref (ad 4), .int (u.1 0), .int (u.1 1)])
  else if i = 1 then .inl (ct 5, 8, .inr (.inr (.inr (.inr (fun v => some (ad (6 + v)))))))
  else if i = 2 then .inr (4, [.ref (ad 3), .int (u.1 2), .int (u.1 3)])
  else if i = 3 then .inl (ct 0, 40, .inl u.2.1)
  else if i = 4 then .inr (5, [.ref (ad 5), .int (u.1 4)])
  else if i = 5 then .inl (ct 4, 41, .inr (.inr (.inr (.inr (fun k => some (ad (104 + k)))))))
  else if i < 55 then .inr (3, [.int (u.2.2.1 (i - 6)), .ref (ad (55 + (i - 6)))])
  else if i < 104 then .inl (ct 1, 24, .inr (.inr (.inr (.inl (u.2.2.2.1 (i - 55))))))
  else .inr (2, [.int (u.2.2.2.2.1 0 (i - 104)), .int (u.2.2.2.2.1 1 (i - 104)), .int (u.2.2.2.2.1 2 (i - 104)), va_rf ((u.2.2.2.2.2 0 (i - 104)).map (fun k => ad (104 + k))), va_rf ((u.2.2.2.2.2 1 (i - 104)).map (fun k => ad (104 + k))), .ref (ad (6 + (8 + (i - 104))))])
def xL (ad : Nat → Nat) (ct : Nat → ClassId) (u : XS) : va_W := (List.range 145).map fun i => (ad i, xC ad ct u i)
theorem xl_get {ad : Nat → Nat} {ct : Nat → ClassId} {u : XS} {i : Nat} (hi : i < 145) : (xL ad ct u)[i]? = some (ad i, xC ad ct u i) := by simp [xL, hi]
theorem xl_at {ad : Nat → Nat} {ct : Nat → ClassId} {u : XS} {i : Nat} {e : va_E} (hi : i < 145) (h : xC ad ct u i = e) : (xL ad ct u)[i]? = some (ad i, e) := by rw [xl_get hi, h]
theorem xl_set {ad : Nat → Nat} {ct : Nat → ClassId} {u u9 : XS} {i : Nat} {e : va_E} (h : ∀ j, j < 145 → xC ad ct u9 j = if j = i then e else xC ad ct u j) : (xL ad ct u).set i (ad i, e) = xL ad ct u9 := by
  apply List.ext_getElem?
  intro j
  rw [List.getElem?_set]
  by_cases hj : j < 145
  · rw [xl_get hj, xl_get hj, h j hj]
    have hlen : (xL ad ct u).length = 145 := by simp [xL]
    by_cases hij : i = j
    · subst hij
      simp [hlen, hj]
    · have : ¬ j = i := fun q => hij q.symm
      simp [hij, this]
  · have hlen : ∀ u : XS, (xL ad ct u)[j]? = none := fun u => by simp [xL, hj]
    have hlen2 : (xL ad ct u).length = 145 := by simp [xL]
    rw [hlen, hlen]
    by_cases hij : i = j
    · subst hij
      simp [hlen2, hj]
    · simp [hij]
section AWX0
variable {ad : Nat → Nat} {ct : Nat → ClassId} {sc sg sh : Nat → Int32} {el : Nat → Nat → UInt64} {nf : Nat → Nat → Int32} {lr : Nat → Nat → Option Nat} {j k : Nat}
theorem xc_na (hj : j < 49) : xC ad ct (sc, sg, sh, el, nf, lr) (6 + j) = .inr (3, [.int (sh j), .ref (ad (55 + j))]) := by
  unfold xC
  rw [if_neg (by omega), if_neg (by omega), if_neg (by omega), if_neg (by omega), if_neg (by omega), if_neg (by omega), if_pos (by omega), Nat.add_sub_cancel_left]
theorem xc_el (hj : j < 49) : xC ad ct (sc, sg, sh, el, nf, lr) (55 + j) = .inl (ct 1, 24, .inr (.inr (.inr (.inl (el j))))) := by
  unfold xC
  rw [if_neg (by omega), if_neg (by omega), if_neg (by omega), if_neg (by omega), if_neg (by omega), if_neg (by omega), if_neg (by omega), if_pos (by omega), Nat.add_sub_cancel_left]
theorem xc_nd : xC ad ct (sc, sg, sh, el, nf, lr) (104 + k) = .inr (2, [.int (nf 0 k), .int (nf 1 k), .int (nf 2 k), va_rf ((lr 0 k).map (fun k => ad (104 + k))), va_rf ((lr 1 k).map (fun k => ad (104 + k))), .ref (ad (6 + (8 + k)))]) := by
  unfold xC
  rw [if_neg (by omega), if_neg (by omega), if_neg (by omega), if_neg (by omega), if_neg (by omega), if_neg (by omega), if_neg (by omega), if_neg (by omega), Nat.add_sub_cancel_left]
end AWX0
section AWX
variable {p : Program} {l : Launch} {e : Env} {s : State} {m : MethodId} {args : Array Value} {below : List Frame} {meth : Method} {c : Code} {H : Heap} {locs : List Loc} {cc : ByteArray} {n : Nat} {own : String} {D : va_G} {ct : Nat → ClassId} {A : Nat → Prop} {R : Room} {cells slots : Nat}
variable {pc : Nat} {ls : Array Slot} {rest : List Value} {Q : State → Prop} {ad : Nat → Nat}
variable {sc sg sh : Nat → Int32} {el : Nat → Nat → UInt64} {nf : Nat → Nat → Int32} {lr : Nat → Nat → Option Nat} {j k : Nat}
theorem xg_variables {index : Nat} (C : ar_C p l s m meth c cc n own args D ct A) (hW : ar_W D A s.heap H locs (xL ad ct (sc, sg, sh, el, nf, lr))) (hl : Cond.fieldLink own index "ArrayText" "variables" "[LArrayText$NumberArray;" ∈ lw_all) (hdg : decode cc pc = .ok (.getfield index, 3)) (kk : W p l e R s m args below meth c H locs cells slots Q (F0 m (pc + 3) ls (.ref (ad 1) :: rest))) : W p l e R s m args below meth c H locs cells slots Q (F0 m pc ls (.ref (ad 0) :: rest)) := ar_get (q0 := 0) (k := 0) C hW ar_in8 (xl_at (by decide) rfl) rfl (by decide) hl rfl hdg kk
theorem xg_text {index : Nat} (C : ar_C p l s m meth c cc n own args D ct A) (hW : ar_W D A s.heap H locs (xL ad ct (sc, sg, sh, el, nf, lr))) (hl : Cond.fieldLink own index "ArrayText" "text" "LArrayText$Text;" ∈ lw_all) (hdg : decode cc pc = .ok (.getfield index, 3)) (kk : W p l e R s m args below meth c H locs cells slots Q (F0 m (pc + 3) ls (.ref (ad 2) :: rest))) : W p l e R s m args below meth c H locs cells slots Q (F0 m pc ls (.ref (ad 0) :: rest)) := ar_get (q0 := 0) (k := 1) C hW ar_in8 (xl_at (by decide) rfl) rfl (by decide) hl rfl hdg kk
theorem xg_tree {index : Nat} (C : ar_C p l s m meth c cc n own args D ct A) (hW : ar_W D A s.heap H locs (xL ad ct (sc, sg, sh, el, nf, lr))) (hl : Cond.fieldLink own index "ArrayText" "tree" "LArrayText$Tree;" ∈ lw_all) (hdg : decode cc pc = .ok (.getfield index, 3)) (kk : W p l e R s m args below meth c H locs cells slots Q (F0 m (pc + 3) ls (.ref (ad 4) :: rest))) : W p l e R s m args below meth c H locs cells slots Q (F0 m pc ls (.ref (ad 0) :: rest)) := ar_get (q0 := 0) (k := 2) C hW ar_in8 (xl_at (by decide) rfl) rfl (by decide) hl rfl hdg kk
theorem xg_madeByLatest {index : Nat} (C : ar_C p l s m meth c cc n own args D ct A) (hW : ar_W D A s.heap H locs (xL ad ct (sc, sg, sh, el, nf, lr))) (hl : Cond.fieldLink own index "ArrayText" "madeByLatest" "I" ∈ lw_all) (hdg : decode cc pc = .ok (.getfield index, 3)) (kk : W p l e R s m args below meth c H locs cells slots Q (F0 m (pc + 3) ls (.int (sc 0) :: rest))) : W p l e R s m args below meth c H locs cells slots Q (F0 m pc ls (.ref (ad 0) :: rest)) := ar_get (q0 := 0) (k := 3) C hW ar_in8 (xl_at (by decide) rfl) rfl (by decide) hl rfl hdg kk
theorem xg_runsSoFar {index : Nat} (C : ar_C p l s m meth c cc n own args D ct A) (hW : ar_W D A s.heap H locs (xL ad ct (sc, sg, sh, el, nf, lr))) (hl : Cond.fieldLink own index "ArrayText" "runsSoFar" "I" ∈ lw_all) (hdg : decode cc pc = .ok (.getfield index, 3)) (kk : W p l e R s m args below meth c H locs cells slots Q (F0 m (pc + 3) ls (.int (sc 1) :: rest))) : W p l e R s m args below meth c H locs cells slots Q (F0 m pc ls (.ref (ad 0) :: rest)) := ar_get (q0 := 0) (k := 4) C hW ar_in8 (xl_at (by decide) rfl) rfl (by decide) hl rfl hdg kk
theorem xg_signs {index : Nat} (C : ar_C p l s m meth c cc n own args D ct A) (hW : ar_W D A s.heap H locs (xL ad ct (sc, sg, sh, el, nf, lr))) (hl : Cond.fieldLink own index "ArrayText$Text" "signs" "[C" ∈ lw_all) (hdg : decode cc pc = .ok (.getfield index, 3)) (kk : W p l e R s m args below meth c H locs cells slots Q (F0 m (pc + 3) ls (.ref (ad 3) :: rest))) : W p l e R s m args below meth c H locs cells slots Q (F0 m pc ls (.ref (ad 2) :: rest)) := ar_get (q0 := 2) (k := 0) C hW ar_in5 (xl_at (by decide) rfl) rfl (by decide) hl rfl hdg kk
theorem xg_length {index : Nat} (C : ar_C p l s m meth c cc n own args D ct A) (hW : ar_W D A s.heap H locs (xL ad ct (sc, sg, sh, el, nf, lr))) (hl : Cond.fieldLink own index "ArrayText$Text" "length" "I" ∈ lw_all) (hdg : decode cc pc = .ok (.getfield index, 3)) (kk : W p l e R s m args below meth c H locs cells slots Q (F0 m (pc + 3) ls (.int (sc 2) :: rest))) : W p l e R s m args below meth c H locs cells slots Q (F0 m pc ls (.ref (ad 2) :: rest)) := ar_get (q0 := 2) (k := 1) C hW ar_in5 (xl_at (by decide) rfl) rfl (by decide) hl rfl hdg kk
theorem xg_place {index : Nat} (C : ar_C p l s m meth c cc n own args D ct A) (hW : ar_W D A s.heap H locs (xL ad ct (sc, sg, sh, el, nf, lr))) (hl : Cond.fieldLink own index "ArrayText$Text" "place" "I" ∈ lw_all) (hdg : decode cc pc = .ok (.getfield index, 3)) (kk : W p l e R s m args below meth c H locs cells slots Q (F0 m (pc + 3) ls (.int (sc 3) :: rest))) : W p l e R s m args below meth c H locs cells slots Q (F0 m pc ls (.ref (ad 2) :: rest)) := ar_get (q0 := 2) (k := 2) C hW ar_in5 (xl_at (by decide) rfl) rfl (by decide) hl rfl hdg kk
theorem xg_nodes {index : Nat} (C : ar_C p l s m meth c cc n own args D ct A) (hW : ar_W D A s.heap H locs (xL ad ct (sc, sg, sh, el, nf, lr))) (hl : Cond.fieldLink own index "ArrayText$Tree" "nodes" "[LArrayText$Node;" ∈ lw_all) (hdg : decode cc pc = .ok (.getfield index, 3)) (kk : W p l e R s m args below meth c H locs cells slots Q (F0 m (pc + 3) ls (.ref (ad 5) :: rest))) : W p l e R s m args below meth c H locs cells slots Q (F0 m pc ls (.ref (ad 4) :: rest)) := ar_get (q0 := 4) (k := 0) C hW ar_in6 (xl_at (by decide) rfl) rfl (by decide) hl rfl hdg kk
theorem xg_count {index : Nat} (C : ar_C p l s m meth c cc n own args D ct A) (hW : ar_W D A s.heap H locs (xL ad ct (sc, sg, sh, el, nf, lr))) (hl : Cond.fieldLink own index "ArrayText$Tree" "count" "I" ∈ lw_all) (hdg : decode cc pc = .ok (.getfield index, 3)) (kk : W p l e R s m args below meth c H locs cells slots Q (F0 m (pc + 3) ls (.int (sc 4) :: rest))) : W p l e R s m args below meth c H locs cells slots Q (F0 m pc ls (.ref (ad 4) :: rest)) := ar_get (q0 := 4) (k := 1) C hW ar_in6 (xl_at (by decide) rfl) rfl (by decide) hl rfl hdg kk
theorem xg_shape {index : Nat} (C : ar_C p l s m meth c cc n own args D ct A) (hW : ar_W D A s.heap H locs (xL ad ct (sc, sg, sh, el, nf, lr))) (hl : Cond.fieldLink own index "ArrayText$NumberArray" "shape" "I" ∈ lw_all) (hj : j < 49) (hdg : decode cc pc = .ok (.getfield index, 3)) (kk : W p l e R s m args below meth c H locs cells slots Q (F0 m (pc + 3) ls (.int (sh j) :: rest))) : W p l e R s m args below meth c H locs cells slots Q (F0 m pc ls (.ref (ad (6 + j)) :: rest)) := ar_get (q0 := 6 + j) (k := 0) C hW ar_in1 (xl_at (by omega) (xc_na hj)) rfl (by decide) hl rfl hdg kk
theorem xg_elements {index : Nat} (C : ar_C p l s m meth c cc n own args D ct A) (hW : ar_W D A s.heap H locs (xL ad ct (sc, sg, sh, el, nf, lr))) (hl : Cond.fieldLink own index "ArrayText$NumberArray" "elements" "[D" ∈ lw_all) (hj : j < 49) (hdg : decode cc pc = .ok (.getfield index, 3)) (kk : W p l e R s m args below meth c H locs cells slots Q (F0 m (pc + 3) ls (.ref (ad (55 + j)) :: rest))) : W p l e R s m args below meth c H locs cells slots Q (F0 m pc ls (.ref (ad (6 + j)) :: rest)) := ar_get (q0 := 6 + j) (k := 1) C hW ar_in1 (xl_at (by omega) (xc_na hj)) rfl (by decide) hl rfl hdg kk
theorem xg_kind {index : Nat} (C : ar_C p l s m meth c cc n own args D ct A) (hW : ar_W D A s.heap H locs (xL ad ct (sc, sg, sh, el, nf, lr))) (hl : Cond.fieldLink own index "ArrayText$Node" "kind" "I" ∈ lw_all) (hk : k < 41) (hdg : decode cc pc = .ok (.getfield index, 3)) (kk : W p l e R s m args below meth c H locs cells slots Q (F0 m (pc + 3) ls (.int (nf 0 k) :: rest))) : W p l e R s m args below meth c H locs cells slots Q (F0 m pc ls (.ref (ad (104 + k)) :: rest)) := ar_get (q0 := 104 + k) (k := 0) C hW ar_in0 (xl_at (by omega) xc_nd) rfl (by decide) hl rfl hdg kk
theorem xg_sign {index : Nat} (C : ar_C p l s m meth c cc n own args D ct A) (hW : ar_W D A s.heap H locs (xL ad ct (sc, sg, sh, el, nf, lr))) (hl : Cond.fieldLink own index "ArrayText$Node" "sign" "C" ∈ lw_all) (hk : k < 41) (hdg : decode cc pc = .ok (.getfield index, 3)) (kk : W p l e R s m args below meth c H locs cells slots Q (F0 m (pc + 3) ls (.int (nf 1 k) :: rest))) : W p l e R s m args below meth c H locs cells slots Q (F0 m pc ls (.ref (ad (104 + k)) :: rest)) := ar_get (q0 := 104 + k) (k := 1) C hW ar_in0 (xl_at (by omega) xc_nd) rfl (by decide) hl rfl hdg kk
theorem xg_number {index : Nat} (C : ar_C p l s m meth c cc n own args D ct A) (hW : ar_W D A s.heap H locs (xL ad ct (sc, sg, sh, el, nf, lr))) (hl : Cond.fieldLink own index "ArrayText$Node" "number" "I" ∈ lw_all) (hk : k < 41) (hdg : decode cc pc = .ok (.getfield index, 3)) (kk : W p l e R s m args below meth c H locs cells slots Q (F0 m (pc + 3) ls (.int (nf 2 k) :: rest))) : W p l e R s m args below meth c H locs cells slots Q (F0 m pc ls (.ref (ad (104 + k)) :: rest)) := ar_get (q0 := 104 + k) (k := 2) C hW ar_in0 (xl_at (by omega) xc_nd) rfl (by decide) hl rfl hdg kk
theorem xg_left {index : Nat} (C : ar_C p l s m meth c cc n own args D ct A) (hW : ar_W D A s.heap H locs (xL ad ct (sc, sg, sh, el, nf, lr))) (hl : Cond.fieldLink own index "ArrayText$Node" "left" "LArrayText$Node;" ∈ lw_all) (hk : k < 41) (hdg : decode cc pc = .ok (.getfield index, 3)) (kk : W p l e R s m args below meth c H locs cells slots Q (F0 m (pc + 3) ls (va_rf ((lr 0 k).map (fun k => ad (104 + k))) :: rest))) : W p l e R s m args below meth c H locs cells slots Q (F0 m pc ls (.ref (ad (104 + k)) :: rest)) := ar_get (q0 := 104 + k) (k := 3) C hW ar_in0 (xl_at (by omega) xc_nd) rfl (by decide) hl rfl hdg kk
theorem xg_right {index : Nat} (C : ar_C p l s m meth c cc n own args D ct A) (hW : ar_W D A s.heap H locs (xL ad ct (sc, sg, sh, el, nf, lr))) (hl : Cond.fieldLink own index "ArrayText$Node" "right" "LArrayText$Node;" ∈ lw_all) (hk : k < 41) (hdg : decode cc pc = .ok (.getfield index, 3)) (kk : W p l e R s m args below meth c H locs cells slots Q (F0 m (pc + 3) ls (va_rf ((lr 1 k).map (fun k => ad (104 + k))) :: rest))) : W p l e R s m args below meth c H locs cells slots Q (F0 m pc ls (.ref (ad (104 + k)) :: rest)) := ar_get (q0 := 104 + k) (k := 4) C hW ar_in0 (xl_at (by omega) xc_nd) rfl (by decide) hl rfl hdg kk
theorem xg_result {index : Nat} (C : ar_C p l s m meth c cc n own args D ct A) (hW : ar_W D A s.heap H locs (xL ad ct (sc, sg, sh, el, nf, lr))) (hl : Cond.fieldLink own index "ArrayText$Node" "result" "LArrayText$NumberArray;" ∈ lw_all) (hk : k < 41) (hdg : decode cc pc = .ok (.getfield index, 3)) (kk : W p l e R s m args below meth c H locs cells slots Q (F0 m (pc + 3) ls (.ref (ad (6 + (8 + k))) :: rest))) : W p l e R s m args below meth c H locs cells slots Q (F0 m pc ls (.ref (ad (104 + k)) :: rest)) := ar_get (q0 := 104 + k) (k := 5) C hW ar_in0 (xl_at (by omega) xc_nd) rfl (by decide) hl rfl hdg kk
theorem xp_madeByLatest {index : Nat} {v : Int32} (C : ar_C p l s m meth c cc n own args D ct A) (hW : ar_W D A s.heap H locs (xL ad ct (sc, sg, sh, el, nf, lr))) (hl : Cond.fieldLink own index "ArrayText" "madeByLatest" "I" ∈ lw_all) (hdg : decode cc pc = .ok (.putfield index, 3)) (kk : ∀ (H1 : Heap) (locs1 : List Loc), ar_W D A s.heap H1 locs1 (xL ad ct (va_up sc 0 v, sg, sh, el, nf, lr)) → W p l e R s m args below meth c H1 locs1 cells slots Q (F0 m (pc + 3) ls rest)) : W p l e R s m args below meth c H locs cells slots Q (F0 m pc ls (.int v :: .ref (ad 0) :: rest)) := ar_put (q0 := 0) (k := 3) (ty0 := tyX8) (ty := .int) C hW ar_in8 tyX8_ok nmX8 (xl_at (by decide) rfl) rfl (by decide) hl rfl (by decide +kernel) rfl rfl (by simp) hdg (fun H1 locs1 hW => kk H1 locs1 (by
  rw [xl_set (u9 := (va_up sc 0 v, sg, sh, el, nf, lr))] at hW
  · exact hW
  · intro i hi
    by_cases h : i = 0
    · subst h
      simp [xC, va_up]
    · rw [if_neg h]
      simp [xC, va_up, h]))
theorem xp_runsSoFar {index : Nat} {v : Int32} (C : ar_C p l s m meth c cc n own args D ct A) (hW : ar_W D A s.heap H locs (xL ad ct (sc, sg, sh, el, nf, lr))) (hl : Cond.fieldLink own index "ArrayText" "runsSoFar" "I" ∈ lw_all) (hdg : decode cc pc = .ok (.putfield index, 3)) (kk : ∀ (H1 : Heap) (locs1 : List Loc), ar_W D A s.heap H1 locs1 (xL ad ct (va_up sc 1 v, sg, sh, el, nf, lr)) → W p l e R s m args below meth c H1 locs1 cells slots Q (F0 m (pc + 3) ls rest)) : W p l e R s m args below meth c H locs cells slots Q (F0 m pc ls (.int v :: .ref (ad 0) :: rest)) := ar_put (q0 := 0) (k := 4) (ty0 := tyX8) (ty := .int) C hW ar_in8 tyX8_ok nmX8 (xl_at (by decide) rfl) rfl (by decide) hl rfl (by decide +kernel) rfl rfl (by simp) hdg (fun H1 locs1 hW => kk H1 locs1 (by
  rw [xl_set (u9 := (va_up sc 1 v, sg, sh, el, nf, lr))] at hW
  · exact hW
  · intro i hi
    by_cases h : i = 0
    · subst h
      simp [xC, va_up]
    · rw [if_neg h]
      simp [xC, va_up, h]))
theorem xp_length {index : Nat} {v : Int32} (C : ar_C p l s m meth c cc n own args D ct A) (hW : ar_W D A s.heap H locs (xL ad ct (sc, sg, sh, el, nf, lr))) (hl : Cond.fieldLink own index "ArrayText$Text" "length" "I" ∈ lw_all) (hdg : decode cc pc = .ok (.putfield index, 3)) (kk : ∀ (H1 : Heap) (locs1 : List Loc), ar_W D A s.heap H1 locs1 (xL ad ct (va_up sc 2 v, sg, sh, el, nf, lr)) → W p l e R s m args below meth c H1 locs1 cells slots Q (F0 m (pc + 3) ls rest)) : W p l e R s m args below meth c H locs cells slots Q (F0 m pc ls (.int v :: .ref (ad 2) :: rest)) := ar_put (q0 := 2) (k := 1) (ty0 := tyX5) (ty := .int) C hW ar_in5 tyX5_ok nmX5 (xl_at (by decide) rfl) rfl (by decide) hl rfl (by decide +kernel) rfl rfl (by simp) hdg (fun H1 locs1 hW => kk H1 locs1 (by
  rw [xl_set (u9 := (va_up sc 2 v, sg, sh, el, nf, lr))] at hW
  · exact hW
  · intro i hi
    by_cases h : i = 2
    · subst h
      simp [xC, va_up]
    · rw [if_neg h]
      simp [xC, va_up, h]))
theorem xp_place {index : Nat} {v : Int32} (C : ar_C p l s m meth c cc n own args D ct A) (hW : ar_W D A s.heap H locs (xL ad ct (sc, sg, sh, el, nf, lr))) (hl : Cond.fieldLink own index "ArrayText$Text" "place" "I" ∈ lw_all) (hdg : decode cc pc = .ok (.putfield index, 3)) (kk : ∀ (H1 : Heap) (locs1 : List Loc), ar_W D A s.heap H1 locs1 (xL ad ct (va_up sc 3 v, sg, sh, el, nf, lr)) → W p l e R s m args below meth c H1 locs1 cells slots Q (F0 m (pc + 3) ls rest)) : W p l e R s m args below meth c H locs cells slots Q (F0 m pc ls (.int v :: .ref (ad 2) :: rest)) := ar_put (q0 := 2) (k := 2) (ty0 := tyX5) (ty := .int) C hW ar_in5 tyX5_ok nmX5 (xl_at (by decide) rfl) rfl (by decide) hl rfl (by decide +kernel) rfl rfl (by simp) hdg (fun H1 locs1 hW => kk H1 locs1 (by
  rw [xl_set (u9 := (va_up sc 3 v, sg, sh, el, nf, lr))] at hW
  · exact hW
  · intro i hi
    by_cases h : i = 2
    · subst h
      simp [xC, va_up]
    · rw [if_neg h]
      simp [xC, va_up, h]))
theorem xp_count {index : Nat} {v : Int32} (C : ar_C p l s m meth c cc n own args D ct A) (hW : ar_W D A s.heap H locs (xL ad ct (sc, sg, sh, el, nf, lr))) (hl : Cond.fieldLink own index "ArrayText$Tree" "count" "I" ∈ lw_all) (hdg : decode cc pc = .ok (.putfield index, 3)) (kk : ∀ (H1 : Heap) (locs1 : List Loc), ar_W D A s.heap H1 locs1 (xL ad ct (va_up sc 4 v, sg, sh, el, nf, lr)) → W p l e R s m args below meth c H1 locs1 cells slots Q (F0 m (pc + 3) ls rest)) : W p l e R s m args below meth c H locs cells slots Q (F0 m pc ls (.int v :: .ref (ad 4) :: rest)) := ar_put (q0 := 4) (k := 1) (ty0 := tyX6) (ty := .int) C hW ar_in6 tyX6_ok nmX6 (xl_at (by decide) rfl) rfl (by decide) hl rfl (by decide +kernel) rfl rfl (by simp) hdg (fun H1 locs1 hW => kk H1 locs1 (by
  rw [xl_set (u9 := (va_up sc 4 v, sg, sh, el, nf, lr))] at hW
  · exact hW
  · intro i hi
    by_cases h : i = 4
    · subst h
      simp [xC, va_up]
    · rw [if_neg h]
      simp [xC, va_up, h]))
theorem xp_shape {index : Nat} {v : Int32} (C : ar_C p l s m meth c cc n own args D ct A) (hW : ar_W D A s.heap H locs (xL ad ct (sc, sg, sh, el, nf, lr))) (hl : Cond.fieldLink own index "ArrayText$NumberArray" "shape" "I" ∈ lw_all) (hj : j < 49) (hdg : decode cc pc = .ok (.putfield index, 3)) (kk : ∀ (H1 : Heap) (locs1 : List Loc), ar_W D A s.heap H1 locs1 (xL ad ct (sc, sg, va_up sh j v, el, nf, lr)) → W p l e R s m args below meth c H1 locs1 cells slots Q (F0 m (pc + 3) ls rest)) : W p l e R s m args below meth c H locs cells slots Q (F0 m pc ls (.int v :: .ref (ad (6 + j)) :: rest)) := ar_put (q0 := 6 + j) (k := 0) (ty0 := tyX1) (ty := .int) C hW ar_in1 tyX1_ok nmX1 (xl_at (by omega) (xc_na hj)) rfl (by decide) hl rfl (by decide +kernel) rfl rfl (by simp) hdg (fun H1 locs1 hW => kk H1 locs1 (by
  rw [xl_set (u9 := (sc, sg, va_up sh j v, el, nf, lr))] at hW
  · exact hW
  · intro i hi
    by_cases h : i = 6 + j
    · subst h
      rw [xc_na hj, if_pos rfl]; simp [va_up]
    · rw [if_neg h]
      by_cases h6 : i < 6
      · simp [xC]
        repeat' split
        all_goals first | rfl | omega
      · have h9 : i - 6 ≠ j := by omega
        simp [xC, va_up, h9]))
theorem xp_kind {index : Nat} {v : Int32} (C : ar_C p l s m meth c cc n own args D ct A) (hW : ar_W D A s.heap H locs (xL ad ct (sc, sg, sh, el, nf, lr))) (hl : Cond.fieldLink own index "ArrayText$Node" "kind" "I" ∈ lw_all) (hk : k < 41) (hdg : decode cc pc = .ok (.putfield index, 3)) (kk : ∀ (H1 : Heap) (locs1 : List Loc), ar_W D A s.heap H1 locs1 (xL ad ct (sc, sg, sh, el, va_up nf 0 (va_up (nf 0) k v), lr)) → W p l e R s m args below meth c H1 locs1 cells slots Q (F0 m (pc + 3) ls rest)) : W p l e R s m args below meth c H locs cells slots Q (F0 m pc ls (.int v :: .ref (ad (104 + k)) :: rest)) := ar_put (q0 := 104 + k) (k := 0) (ty0 := tyX0) (ty := .int) C hW ar_in0 tyX0_ok nmX0 (xl_at (by omega) xc_nd) rfl (by decide) hl rfl (by decide +kernel) rfl rfl (by simp) hdg (fun H1 locs1 hW => kk H1 locs1 (by
  rw [xl_set (u9 := (sc, sg, sh, el, va_up nf 0 (va_up (nf 0) k v), lr))] at hW
  · exact hW
  · intro i hi
    by_cases h : i = 104 + k
    · subst h
      rw [xc_nd, if_pos rfl]; simp [va_up]
    · rw [if_neg h]
      by_cases h6 : i < 104
      · have h1 : ¬ 104 ≤ i := by omega
        simp [xC, h6]
      · have h9 : i - 104 ≠ k := by omega
        simp [xC, va_up, h9]))
theorem xp_sign {index : Nat} {v : Int32} (hv : narrow .char (.int v) = .int v ∧ fits .char (.int v) = true) (C : ar_C p l s m meth c cc n own args D ct A) (hW : ar_W D A s.heap H locs (xL ad ct (sc, sg, sh, el, nf, lr))) (hl : Cond.fieldLink own index "ArrayText$Node" "sign" "C" ∈ lw_all) (hk : k < 41) (hdg : decode cc pc = .ok (.putfield index, 3)) (kk : ∀ (H1 : Heap) (locs1 : List Loc), ar_W D A s.heap H1 locs1 (xL ad ct (sc, sg, sh, el, va_up nf 1 (va_up (nf 1) k v), lr)) → W p l e R s m args below meth c H1 locs1 cells slots Q (F0 m (pc + 3) ls rest)) : W p l e R s m args below meth c H locs cells slots Q (F0 m pc ls (.int v :: .ref (ad (104 + k)) :: rest)) := ar_put (q0 := 104 + k) (k := 1) (ty0 := tyX0) (ty := .char) C hW ar_in0 tyX0_ok nmX0 (xl_at (by omega) xc_nd) rfl (by decide) hl rfl (by decide +kernel) hv.1 hv.2 (by simp) hdg (fun H1 locs1 hW => kk H1 locs1 (by
  rw [xl_set (u9 := (sc, sg, sh, el, va_up nf 1 (va_up (nf 1) k v), lr))] at hW
  · exact hW
  · intro i hi
    by_cases h : i = 104 + k
    · subst h
      rw [xc_nd, if_pos rfl]; simp [va_up]
    · rw [if_neg h]
      by_cases h6 : i < 104
      · have h1 : ¬ 104 ≤ i := by omega
        simp [xC, h6]
      · have h9 : i - 104 ≠ k := by omega
        simp [xC, va_up, h9]))
theorem xp_number {index : Nat} {v : Int32} (C : ar_C p l s m meth c cc n own args D ct A) (hW : ar_W D A s.heap H locs (xL ad ct (sc, sg, sh, el, nf, lr))) (hl : Cond.fieldLink own index "ArrayText$Node" "number" "I" ∈ lw_all) (hk : k < 41) (hdg : decode cc pc = .ok (.putfield index, 3)) (kk : ∀ (H1 : Heap) (locs1 : List Loc), ar_W D A s.heap H1 locs1 (xL ad ct (sc, sg, sh, el, va_up nf 2 (va_up (nf 2) k v), lr)) → W p l e R s m args below meth c H1 locs1 cells slots Q (F0 m (pc + 3) ls rest)) : W p l e R s m args below meth c H locs cells slots Q (F0 m pc ls (.int v :: .ref (ad (104 + k)) :: rest)) := ar_put (q0 := 104 + k) (k := 2) (ty0 := tyX0) (ty := .int) C hW ar_in0 tyX0_ok nmX0 (xl_at (by omega) xc_nd) rfl (by decide) hl rfl (by decide +kernel) rfl rfl (by simp) hdg (fun H1 locs1 hW => kk H1 locs1 (by
  rw [xl_set (u9 := (sc, sg, sh, el, va_up nf 2 (va_up (nf 2) k v), lr))] at hW
  · exact hW
  · intro i hi
    by_cases h : i = 104 + k
    · subst h
      rw [xc_nd, if_pos rfl]; simp [va_up]
    · rw [if_neg h]
      by_cases h6 : i < 104
      · have h1 : ¬ 104 ≤ i := by omega
        simp [xC, h6]
      · have h9 : i - 104 ≠ k := by omega
        simp [xC, va_up, h9]))
theorem xp_left {index : Nat} {v : Option Nat} (C : ar_C p l s m meth c cc n own args D ct A) (hW : ar_W D A s.heap H locs (xL ad ct (sc, sg, sh, el, nf, lr))) (hl : Cond.fieldLink own index "ArrayText$Node" "left" "LArrayText$Node;" ∈ lw_all) (hk : k < 41) (hdg : decode cc pc = .ok (.putfield index, 3)) (kk : ∀ (H1 : Heap) (locs1 : List Loc), ar_W D A s.heap H1 locs1 (xL ad ct (sc, sg, sh, el, nf, va_up lr 0 (va_up (lr 0) k v))) → W p l e R s m args below meth c H1 locs1 cells slots Q (F0 m (pc + 3) ls rest)) : W p l e R s m args below meth c H locs cells slots Q (F0 m pc ls (va_rf (v.map (fun k => ad (104 + k))) :: .ref (ad (104 + k)) :: rest)) := ar_put (q0 := 104 + k) (k := 3) (ty0 := tyX0) (ty := .object "ArrayText$Node") C hW ar_in0 tyX0_ok nmX0 (xl_at (by omega) xc_nd) rfl (by decide) hl rfl (by decide +kernel) (by cases v <;> rfl) (by cases v <;> rfl) (by simp) hdg (fun H1 locs1 hW => kk H1 locs1 (by
  rw [xl_set (u9 := (sc, sg, sh, el, nf, va_up lr 0 (va_up (lr 0) k v)))] at hW
  · exact hW
  · intro i hi
    by_cases h : i = 104 + k
    · subst h
      rw [xc_nd, if_pos rfl]; simp [va_up]
    · rw [if_neg h]
      by_cases h6 : i < 104
      · have h1 : ¬ 104 ≤ i := by omega
        simp [xC, h6]
      · have h9 : i - 104 ≠ k := by omega
        simp [xC, va_up, h9]))
theorem xp_right {index : Nat} {v : Option Nat} (C : ar_C p l s m meth c cc n own args D ct A) (hW : ar_W D A s.heap H locs (xL ad ct (sc, sg, sh, el, nf, lr))) (hl : Cond.fieldLink own index "ArrayText$Node" "right" "LArrayText$Node;" ∈ lw_all) (hk : k < 41) (hdg : decode cc pc = .ok (.putfield index, 3)) (kk : ∀ (H1 : Heap) (locs1 : List Loc), ar_W D A s.heap H1 locs1 (xL ad ct (sc, sg, sh, el, nf, va_up lr 1 (va_up (lr 1) k v))) → W p l e R s m args below meth c H1 locs1 cells slots Q (F0 m (pc + 3) ls rest)) : W p l e R s m args below meth c H locs cells slots Q (F0 m pc ls (va_rf (v.map (fun k => ad (104 + k))) :: .ref (ad (104 + k)) :: rest)) := ar_put (q0 := 104 + k) (k := 4) (ty0 := tyX0) (ty := .object "ArrayText$Node") C hW ar_in0 tyX0_ok nmX0 (xl_at (by omega) xc_nd) rfl (by decide) hl rfl (by decide +kernel) (by cases v <;> rfl) (by cases v <;> rfl) (by simp) hdg (fun H1 locs1 hW => kk H1 locs1 (by
  rw [xl_set (u9 := (sc, sg, sh, el, nf, va_up lr 1 (va_up (lr 1) k v)))] at hW
  · exact hW
  · intro i hi
    by_cases h : i = 104 + k
    · subst h
      rw [xc_nd, if_pos rfl]; simp [va_up]
    · rw [if_neg h]
      by_cases h6 : i < 104
      · have h1 : ¬ 104 ≤ i := by omega
        simp [xC, h6]
      · have h9 : i - 104 ≠ k := by omega
        simp [xC, va_up, h9]))
theorem xl_signs (C : ar_C p l s m meth c cc n own args D ct A) (hW : ar_W D A s.heap H locs (xL ad ct (sc, sg, sh, el, nf, lr))) (hj : j < 40) (hdg : decode cc pc = .ok (.caload, 1)) (kk : W p l e R s m args below meth c H locs cells slots Q (F0 m (pc + 1) ls (.int (sg j) :: rest))) : W p l e R s m args below meth c H locs cells slots Q (F0 m pc ls (.int (nI j) :: .ref (ad 3) :: rest)) := ar_cald (q0 := 3) C hW (xl_at (by decide) rfl) hj (by decide) hdg kk
theorem xs_signs {v : Int32} (hv : vp_nar .char v = v) (C : ar_C p l s m meth c cc n own args D ct A) (hW : ar_W D A s.heap H locs (xL ad ct (sc, sg, sh, el, nf, lr))) (hj : j < 40) (hdg : decode cc pc = .ok (.castore, 1)) (kk : ∀ (H1 : Heap) (locs1 : List Loc), ar_W D A s.heap H1 locs1 (xL ad ct (sc, va_up sg j v, sh, el, nf, lr)) → W p l e R s m args below meth c H1 locs1 cells slots Q (F0 m (pc + 1) ls rest)) : W p l e R s m args below meth c H locs cells slots Q (F0 m pc ls (.int v :: .int (nI j) :: .ref (ad 3) :: rest)) := ar_cast (q0 := 3) hv C hW (xl_at (by decide) rfl) hj (by decide) hdg (fun H1 locs1 hW => kk H1 locs1 (by
  rw [xl_set (u9 := (sc, va_up sg j v, sh, el, nf, lr))] at hW
  · exact hW
  · intro i hi
    by_cases h : i = 3
    · subst h
      simp [xC]
    · rw [if_neg h]
      simp [xC, h]))
theorem xl_elements {i : Nat} (C : ar_C p l s m meth c cc n own args D ct A) (hW : ar_W D A s.heap H locs (xL ad ct (sc, sg, sh, el, nf, lr))) (hj : j < 49) (hi : i < 24) (hdg : decode cc pc = .ok (.daload, 1)) (kk : W p l e R s m args below meth c H locs cells slots Q (F0 m (pc + 1) ls (.double (el j i) :: rest))) : W p l e R s m args below meth c H locs cells slots Q (F0 m pc ls (.int (nI i) :: .ref (ad (55 + j)) :: rest)) := ar_dald (q0 := 55 + j) C hW (xl_at (by omega) (xc_el hj)) hi (by decide) hdg kk
theorem xs_elements {i : Nat} {v : UInt64} (C : ar_C p l s m meth c cc n own args D ct A) (hW : ar_W D A s.heap H locs (xL ad ct (sc, sg, sh, el, nf, lr))) (hj : j < 49) (hi : i < 24) (hdg : decode cc pc = .ok (.dastore, 1)) (kk : ∀ (H1 : Heap) (locs1 : List Loc), ar_W D A s.heap H1 locs1 (xL ad ct (sc, sg, sh, va_up el j (va_up (el j) i v), nf, lr)) → W p l e R s m args below meth c H1 locs1 cells slots Q (F0 m (pc + 1) ls rest)) : W p l e R s m args below meth c H locs cells slots Q (F0 m pc ls (.double v :: .int (nI i) :: .ref (ad (55 + j)) :: rest)) := ar_dast (q0 := 55 + j) C hW (xl_at (by omega) (xc_el hj)) hi (by decide) hdg (fun H1 locs1 hW => kk H1 locs1 (by
  rw [xl_set (u9 := (sc, sg, sh, va_up el j (va_up (el j) i v), nf, lr))] at hW
  · exact hW
  · intro z hz
    by_cases h : z = 55 + j
    · subst h
      rw [xc_el hj, if_pos rfl, va_up_self]
    · rw [if_neg h]
      by_cases h6 : z < 55
      · simp [xC, h6]
      · have h9 : z - 55 ≠ j := by omega
        simp [xC, va_up, h9]))
theorem xl_variables (C : ar_C p l s m meth c cc n own args D ct A) (hW : ar_W D A s.heap H locs (xL ad ct (sc, sg, sh, el, nf, lr))) (hj : j < 8) (hdg : decode cc pc = .ok (.aaload, 1)) (kk : W p l e R s m args below meth c H locs cells slots Q (F0 m (pc + 1) ls (.ref (ad (6 + j)) :: rest))) : W p l e R s m args below meth c H locs cells slots Q (F0 m pc ls (.int (nI j) :: .ref (ad 1) :: rest)) := ar_aald (q0 := 1) (t0 := 5) C hW (xl_at (by decide) rfl) rfl hj (by decide) hdg kk
theorem xl_nodes (C : ar_C p l s m meth c cc n own args D ct A) (hW : ar_W D A s.heap H locs (xL ad ct (sc, sg, sh, el, nf, lr))) (hj : j < 41) (hdg : decode cc pc = .ok (.aaload, 1)) (kk : W p l e R s m args below meth c H locs cells slots Q (F0 m (pc + 1) ls (.ref (ad (104 + j)) :: rest))) : W p l e R s m args below meth c H locs cells slots Q (F0 m pc ls (.int (nI j) :: .ref (ad 5) :: rest)) := ar_aald (q0 := 5) (t0 := 4) C hW (xl_at (by decide) rfl) rfl hj (by decide) hdg kk
end AWX
