set_option maxRecDepth 20000 in
theorem ar_X_X3_81 : ar_X "ArrayText$ShapeFinder" 79 81 83 "java/lang/UnsupportedOperationException" "no elements or too many behind i" := ⟨by decide +kernel, by decide +kernel, by decide +kernel, by decide +kernel, by decide +kernel, by decide +kernel, by decide +kernel, by decide +kernel⟩
set_option maxRecDepth 20000 in
theorem ar_X_X3_109 : ar_X "ArrayText$ShapeFinder" 79 109 83 "java/lang/UnsupportedOperationException" "too many elements joined" := ⟨by decide +kernel, by decide +kernel, by decide +kernel, by decide +kernel, by decide +kernel, by decide +kernel, by decide +kernel, by decide +kernel⟩
set_option maxRecDepth 20000 in
theorem ar_X_X3_116 : ar_X "ArrayText$ShapeFinder" 79 116 83 "java/lang/UnsupportedOperationException" "no elements or too many by #" := ⟨by decide +kernel, by decide +kernel, by decide +kernel, by decide +kernel, by decide +kernel, by decide +kernel, by decide +kernel, by decide +kernel⟩
set_option maxRecDepth 20000 in
theorem ar_X_X3_101 : ar_X "ArrayText$ShapeFinder" 99 101 103 "java/lang/IllegalStateException" "shapes that do not fit" := ⟨by decide +kernel, by decide +kernel, by decide +kernel, by decide +kernel, by decide +kernel, by decide +kernel, by decide +kernel, by decide +kernel⟩
set_option maxRecDepth 20000 in
theorem ar_X_X3_104 : ar_X "ArrayText$ShapeFinder" 99 104 103 "java/lang/IllegalStateException" "a table joined" := ⟨by decide +kernel, by decide +kernel, by decide +kernel, by decide +kernel, by decide +kernel, by decide +kernel, by decide +kernel, by decide +kernel⟩
set_option maxRecDepth 20000 in
theorem ar_X_X3_111 : ar_X "ArrayText$ShapeFinder" 99 111 103 "java/lang/IllegalStateException" "no constant of one number or two before #" := ⟨by decide +kernel, by decide +kernel, by decide +kernel, by decide +kernel, by decide +kernel, by decide +kernel, by decide +kernel, by decide +kernel⟩
set_option maxRecDepth 20000 in
theorem ar_X_X3_118 : ar_X "ArrayText$ShapeFinder" 99 118 103 "java/lang/IllegalStateException" "fewer elements by # than there are" := ⟨by decide +kernel, by decide +kernel, by decide +kernel, by decide +kernel, by decide +kernel, by decide +kernel, by decide +kernel, by decide +kernel⟩
def zEc (k : Nat) : String := if k = 1 then ISE else UOE
def zEach (x y : Nat) : Nat × Nat := if x ≠ y ∧ x ≠ 0 ∧ y ≠ 0 then (1, 0) else (0, if x = 0 then y else x)
def zJoi (x y : Nat) : Nat × Nat := if zTb x = true ∨ zTb y = true then (1, 0) else if zFit 1 (zCt x + zCt y) = true then (0, zCt x + zCt y) else (2, 0)
def zCou (n : Nat) : Nat × Nat := if zFit 1 n = true then (0, n) else (2, 0)
def zTrn (s : Nat) : Nat := if zTb s = true then zLg s * 32 + zLn s else s
def zRed (s : Nat) : Nat := if zTb s = true then zLn s else 0
def zAnw (cl : Bool) (s v0 v1 cnt : Nat) : Nat × Nat :=
  if cl = false ∨ 2 < zCt s then (1, 0)
  else if zFit (if s = 0 then 1 else v0) (if s = 0 then v0 else v1) = false then (2, 0)
  else if (if s = 0 then 1 else v0) * (if s = 0 then v0 else v1) < cnt then (1, 0)
  else (0, if s = 0 then v0 else v0 * 32 + v1)
def zSf (x num : Nat) (sv : Nat → Nat) (sl sr so : Nat) (cl : Bool) (v0 v1 : Nat) : Nat × Nat :=
  if x = 1 then (0, sv num) else if x = 3 then zCou num else if x = 4 ∨ x = 7 then (0, sr) else if x = 5 then (0, zTrn sr) else if x = 6 then (0, zRed sr) else if x = 8 then zEach sl sr else if x = 9 then zJoi sl sr else if x = 10 then zAnw cl sl v0 v1 (zCt sr) else (0, so)
theorem zLn_24 {s : Nat} (h : s ≤ 792) : zLn s ≤ 24 := by unfold zLn; split <;> omega
theorem d2i_nI (v : Nat) : FP.d2i (FP.i2d (nI v)) = nI v := FP.Core.d2i_i2d _
theorem hd_X3_shapeOfCount : yX3_shapeOfCount.cls ≠ "java/lang/invoke/MethodHandle" ∧ yX3_shapeOfCount.cls ≠ "java/lang/invoke/VarHandle" ∧ (parseMethodDescriptor yX3_shapeOfCount.desc).map (fun d => d.parameters.length) = some 1 := by decide +kernel
set_option maxHeartbeats 4000000 in
set_option maxRecDepth 100000 in
theorem c_X3_shapeOfCount {l : Launch} (hl9 : l.stackTraces = false) {D : va_G} {ct : Nat → ClassId} {S : Type} {wl : S → va_W} (u0 : S) (x : Nat) (hx9 : x < 2 ^ 15) : ar_M l yX3_shapeOfCount cX3_shapeOfCount 1 (some .int) 6 90 D ct wl [.int (nI x)] u0 (fun v9 u9 => (zCou x).1 = 0 ∧ v9 = some (.int (nI (zCou x).2)) ∧ u9 = u0) (fun E9 u9 => (zCou x).1 ≠ 0 ∧ E9 = zEc (zCou x).1 ∧ u9 = u0) := by
  refine ar_ofW hl9 (by decide) (Nat.le_of_ble_eq_true rfl) ?_
  intro p e s m below meth c A ls C hr hnm hW hl
  have hx := C.1
  have hb := C.2.1
  have hown := C.2.2.2.1
  have hts := C.2.2.2.2.1
  have hl : lv_has ls 1 [(0, .int (nI x))] := hl
  refine lv_iconst (v := nI 1) hx hb dX3_shapeOfCount_0 (by decide) ?_
  refine lv_iload_n hx hb dX3_shapeOfCount_1 rfl (lv_at hl 0 rfl) ?_
  refine ar_callS (As := [.int (nI 1), .int (nI x)]) (rest := []) C hW (c_X4_fits hl9 _ 1 x (by omega) (by omega)) q453 q199 q7 q200 hd_X4_fits ⟨Nat.le_of_ble_eq_true rfl, Nat.le_of_ble_eq_true rfl⟩ hl.1 (Nat.le_of_ble_eq_true rfl) rfl dX3_shapeOfCount_2 (fun _ _ _ _ _ _ hp => hp.elim) (fun v9 u9 H locs hp hW => ?_)
  obtain ⟨rfl, hu9⟩ := hp
  rw [hu9] at hW
  refine W.eq (g2 := F0 m 5 ls [.int (bI (zFit 1 x))]) rfl ?_
  refine lb_if_ne (tgt := 18) hx hb dX3_shapeOfCount_5 (by decide) (fun h1 => ?_) (fun h1 => ?_)
  · skip
    refine lv_iload_n hx hb dX3_shapeOfCount_18 rfl (lv_at hl 0 rfl) ?_
    exact ar_iret C hr hW dX3_shapeOfCount_19 ((fun hz : zCou x = (0, x) => ⟨by rw [hz], by rw [hz], rfl⟩) (if_pos h1))
  · skip
    exact ar_throw C hW ar_X_X3_81 hl.1 dX3_shapeOfCount_8 dX3_shapeOfCount_11 dX3_shapeOfCount_12 dX3_shapeOfCount_14 dX3_shapeOfCount_17 (Nat.le_of_ble_eq_true rfl) (Nat.le_of_ble_eq_true rfl) ((fun hz : zCou x = (2, 0) => ⟨by rw [hz]; decide, by rw [hz]; rfl, rfl⟩) (if_neg (by rw [h1]; decide)))
theorem hd_X3_shapeTurned : yX3_shapeTurned.cls ≠ "java/lang/invoke/MethodHandle" ∧ yX3_shapeTurned.cls ≠ "java/lang/invoke/VarHandle" ∧ (parseMethodDescriptor yX3_shapeTurned.desc).map (fun d => d.parameters.length) = some 1 := by decide +kernel
set_option maxHeartbeats 4000000 in
set_option maxRecDepth 100000 in
theorem c_X3_shapeTurned {l : Launch} (hl9 : l.stackTraces = false) {D : va_G} {ct : Nat → ClassId} {S : Type} {wl : S → va_W} (u0 : S) (x : Nat) (hx9 : x ≤ 792) : ar_M l yX3_shapeTurned cX3_shapeTurned 1 (some .int) 1 21 D ct wl [.int (nI x)] u0 (fun v9 u9 => v9 = some (.int (nI (zTrn x))) ∧ u9 = u0) (fun _ _ => False) := by
  refine ar_ofW hl9 (by decide) (Nat.le_of_ble_eq_true rfl) ?_
  intro p e s m below meth c A ls C hr hnm hW hl
  have hx := C.1
  have hb := C.2.1
  have hown := C.2.2.2.1
  have hts := C.2.2.2.2.1
  have hl : lv_has ls 1 [(0, .int (nI x))] := hl
  refine lv_iload_n hx hb dX3_shapeTurned_0 rfl (lv_at hl 0 rfl) ?_
  refine ar_callS (As := [.int (nI x)]) (rest := []) C hW (c_X4_isTable hl9 _ x (by omega)) q473 q474 q7 q475 hd_X4_isTable ⟨Nat.le_of_ble_eq_true rfl, Nat.le_of_ble_eq_true rfl⟩ hl.1 (Nat.le_of_ble_eq_true rfl) rfl dX3_shapeTurned_1 (fun _ _ _ _ _ _ hp => hp.elim) (fun v9 u9 H locs hp hW => ?_)
  obtain ⟨rfl, hu9⟩ := hp
  rw [hu9] at hW
  refine W.eq (g2 := F0 m 4 ls [.int (bI (zTb x))]) rfl ?_
  refine lb_if_eq (tgt := 21) hx hb dX3_shapeTurned_4 (by decide) (fun h1 => ?_) (fun h1 => ?_)
  · skip
    refine lv_iload_n hx hb dX3_shapeTurned_21 rfl (lv_at hl 0 rfl) ?_
    exact ar_iret C hr hW dX3_shapeTurned_22 (⟨congrArg (fun z => some (Value.int (nI z))) (by unfold zTrn; rw [h1]; rfl), rfl⟩)
  · skip
    refine lv_iload_n hx hb dX3_shapeTurned_7 rfl (lv_at hl 0 rfl) ?_
    refine ar_callS (As := [.int (nI x)]) (rest := []) C hW (c_X4_length hl9 _ x (by omega)) q476 q196 q7 q197 hd_X4_length ⟨Nat.le_of_ble_eq_true rfl, Nat.le_of_ble_eq_true rfl⟩ hl.1 (Nat.le_of_ble_eq_true rfl) rfl dX3_shapeTurned_8 (fun _ _ _ _ _ _ hp => hp.elim) (fun v9 u9 H locs hp hW => ?_)
    obtain ⟨rfl, hu9⟩ := hp
    rw [hu9] at hW
    refine W.eq (g2 := F0 m 11 ls [.int (nI (zLg x))]) rfl ?_
    refine lv_iload_n hx hb dX3_shapeTurned_11 rfl (lv_at hl 0 rfl) ?_
    refine ar_callS (As := [.int (nI x)]) (rest := [.int (nI (zLg x))]) C hW (c_X4_lines hl9 _ x (by omega)) q477 q193 q7 q194 hd_X4_lines ⟨Nat.le_of_ble_eq_true rfl, Nat.le_of_ble_eq_true rfl⟩ hl.1 (Nat.le_of_ble_eq_true rfl) rfl dX3_shapeTurned_12 (fun _ _ _ _ _ _ hp => hp.elim) (fun v9 u9 H locs hp hW => ?_)
    obtain ⟨rfl, hu9⟩ := hp
    rw [hu9] at hW
    refine W.eq (g2 := F0 m 15 ls [.int (nI (zLn x)), .int (nI (zLg x))]) rfl ?_
    refine ar_callS (As := [.int (nI (zLg x)), .int (nI (zLn x))]) (rest := []) C hW (c_X4_tableOf hl9 _ (zLg x) (zLn x) (by have := zLg_lt x; omega)) q478 q190 q7 q191 hd_X4_tableOf ⟨Nat.le_of_ble_eq_true rfl, Nat.le_of_ble_eq_true rfl⟩ hl.1 (Nat.le_of_ble_eq_true rfl) rfl dX3_shapeTurned_15 (fun _ _ _ _ _ _ hp => hp.elim) (fun v9 u9 H locs hp hW => ?_)
    obtain ⟨rfl, hu9⟩ := hp
    rw [hu9] at hW
    refine W.eq (g2 := F0 m 18 ls [.int (nI ((zLg x) * 32 + (zLn x)))]) rfl ?_
    refine lv_goto (tgt := 22) hx hb dX3_shapeTurned_18 (by decide) ?_
    exact ar_iret C hr hW dX3_shapeTurned_22 (⟨congrArg (fun z => some (Value.int (nI z))) (by unfold zTrn; rw [h1]; rfl), rfl⟩)
theorem hd_X3_shapeReduced : yX3_shapeReduced.cls ≠ "java/lang/invoke/MethodHandle" ∧ yX3_shapeReduced.cls ≠ "java/lang/invoke/VarHandle" ∧ (parseMethodDescriptor yX3_shapeReduced.desc).map (fun d => d.parameters.length) = some 1 := by decide +kernel
set_option maxHeartbeats 4000000 in
set_option maxRecDepth 100000 in
theorem c_X3_shapeReduced {l : Launch} (hl9 : l.stackTraces = false) {D : va_G} {ct : Nat → ClassId} {S : Type} {wl : S → va_W} (u0 : S) (x : Nat) (hx9 : x ≤ 792) : ar_M l yX3_shapeReduced cX3_shapeReduced 1 (some .int) 1 20 D ct wl [.int (nI x)] u0 (fun v9 u9 => v9 = some (.int (nI (zRed x))) ∧ u9 = u0) (fun _ _ => False) := by
  refine ar_ofW hl9 (by decide) (Nat.le_of_ble_eq_true rfl) ?_
  intro p e s m below meth c A ls C hr hnm hW hl
  have hx := C.1
  have hb := C.2.1
  have hown := C.2.2.2.1
  have hts := C.2.2.2.2.1
  have hl : lv_has ls 1 [(0, .int (nI x))] := hl
  refine lv_iload_n hx hb dX3_shapeReduced_0 rfl (lv_at hl 0 rfl) ?_
  refine ar_callS (As := [.int (nI x)]) (rest := []) C hW (c_X4_isTable hl9 _ x (by omega)) q473 q474 q7 q475 hd_X4_isTable ⟨Nat.le_of_ble_eq_true rfl, Nat.le_of_ble_eq_true rfl⟩ hl.1 (Nat.le_of_ble_eq_true rfl) rfl dX3_shapeReduced_1 (fun _ _ _ _ _ _ hp => hp.elim) (fun v9 u9 H locs hp hW => ?_)
  obtain ⟨rfl, hu9⟩ := hp
  rw [hu9] at hW
  refine W.eq (g2 := F0 m 4 ls [.int (bI (zTb x))]) rfl ?_
  refine lb_if_eq (tgt := 14) hx hb dX3_shapeReduced_4 (by decide) (fun h1 => ?_) (fun h1 => ?_)
  · skip
    refine lv_iconst (v := nI 0) hx hb dX3_shapeReduced_14 (by decide) ?_
    exact ar_iret C hr hW dX3_shapeReduced_15 (⟨congrArg (fun z => some (Value.int (nI z))) (by unfold zRed; rw [h1]; rfl), rfl⟩)
  · skip
    refine lv_iload_n hx hb dX3_shapeReduced_7 rfl (lv_at hl 0 rfl) ?_
    refine ar_callS (As := [.int (nI x)]) (rest := []) C hW (c_X4_lines hl9 _ x (by omega)) q477 q193 q7 q194 hd_X4_lines ⟨Nat.le_of_ble_eq_true rfl, Nat.le_of_ble_eq_true rfl⟩ hl.1 (Nat.le_of_ble_eq_true rfl) rfl dX3_shapeReduced_8 (fun _ _ _ _ _ _ hp => hp.elim) (fun v9 u9 H locs hp hW => ?_)
    obtain ⟨rfl, hu9⟩ := hp
    rw [hu9] at hW
    refine W.eq (g2 := F0 m 11 ls [.int (nI (zLn x))]) rfl ?_
    refine lv_goto (tgt := 15) hx hb dX3_shapeReduced_11 (by decide) ?_
    exact ar_iret C hr hW dX3_shapeReduced_15 (⟨congrArg (fun z => some (Value.int (nI z))) (by unfold zRed; rw [h1]; rfl), rfl⟩)
theorem hd_X3_shapeOfEach : yX3_shapeOfEach.cls ≠ "java/lang/invoke/MethodHandle" ∧ yX3_shapeOfEach.cls ≠ "java/lang/invoke/VarHandle" ∧ (parseMethodDescriptor yX3_shapeOfEach.desc).map (fun d => d.parameters.length) = some 2 := by decide +kernel
set_option maxHeartbeats 4000000 in
set_option maxRecDepth 100000 in
theorem c_X3_shapeOfEach {l : Launch} (hl9 : l.stackTraces = false) {D : va_G} {ct : Nat → ClassId} {S : Type} {wl : S → va_W} (u0 : S) (x y : Nat) (hx9 : x ≤ 792) (hy9 : y ≤ 792) : ar_M l yX3_shapeOfEach cX3_shapeOfEach 2 (some .int) 6 90 D ct wl [.int (nI x), .int (nI y)] u0 (fun v9 u9 => (zEach x y).1 = 0 ∧ v9 = some (.int (nI (zEach x y).2)) ∧ u9 = u0) (fun E9 u9 => (zEach x y).1 ≠ 0 ∧ E9 = zEc (zEach x y).1 ∧ u9 = u0) := by
  refine ar_ofW hl9 (by decide) (Nat.le_of_ble_eq_true rfl) ?_
  intro p e s m below meth c A ls C hr hnm hW hl
  have hx := C.1
  have hb := C.2.1
  have hown := C.2.2.2.1
  have hts := C.2.2.2.2.1
  have hl : lv_has ls 2 [(0, .int (nI x)), (1, .int (nI y))] := hl
  refine lv_iload_n hx hb dX3_shapeOfEach_0 rfl (lv_at hl 0 rfl) ?_
  refine lv_iload_n hx hb dX3_shapeOfEach_1 rfl (lv_at hl 1 rfl) ?_
  refine ln_icmp_eq (tgt := 23) hx hb dX3_shapeOfEach_2 (by decide) (by omega) (by omega) (fun h1 => ?_) (fun h1 => ?_)
  · skip
    refine lv_iload_n hx hb dX3_shapeOfEach_23 rfl (lv_at hl 0 rfl) ?_
    refine ln_if_ne (tgt := 31) hx hb dX3_shapeOfEach_24 (by decide) (by omega) (fun h2 => ?_) (fun h2 => ?_)
    · skip
      refine lv_iload_n hx hb dX3_shapeOfEach_31 rfl (lv_at hl 0 rfl) ?_
      exact ar_iret C hr hW dX3_shapeOfEach_32 ((fun hz : zEach x y = (0, x) => ⟨by rw [hz], by rw [hz], rfl⟩) (by unfold zEach; rw [if_neg (by omega)]; first | (exfalso; omega) | rw [if_pos (by omega)] | rw [if_neg (by omega)]))
    · skip
      refine lv_iload_n hx hb dX3_shapeOfEach_27 rfl (lv_at hl 1 rfl) ?_
      refine lv_goto (tgt := 32) hx hb dX3_shapeOfEach_28 (by decide) ?_
      exact ar_iret C hr hW dX3_shapeOfEach_32 ((fun hz : zEach x y = (0, y) => ⟨by rw [hz], by rw [hz], rfl⟩) (by unfold zEach; rw [if_neg (by omega)]; first | (exfalso; omega) | rw [if_pos (by omega)] | rw [if_neg (by omega)]))
  · skip
    refine lv_iload_n hx hb dX3_shapeOfEach_5 rfl (lv_at hl 0 rfl) ?_
    refine ln_if_eq (tgt := 23) hx hb dX3_shapeOfEach_6 (by decide) (by omega) (fun h3 => ?_) (fun h3 => ?_)
    · skip
      refine lv_iload_n hx hb dX3_shapeOfEach_23 rfl (lv_at hl 0 rfl) ?_
      refine ln_if_ne (tgt := 31) hx hb dX3_shapeOfEach_24 (by decide) (by omega) (fun h4 => ?_) (fun h4 => ?_)
      · skip
        refine lv_iload_n hx hb dX3_shapeOfEach_31 rfl (lv_at hl 0 rfl) ?_
        exact ar_iret C hr hW dX3_shapeOfEach_32 ((fun hz : zEach x y = (0, x) => ⟨by rw [hz], by rw [hz], rfl⟩) (by unfold zEach; rw [if_neg (by omega)]; first | (exfalso; omega) | rw [if_pos (by omega)] | rw [if_neg (by omega)]))
      · skip
        refine lv_iload_n hx hb dX3_shapeOfEach_27 rfl (lv_at hl 1 rfl) ?_
        refine lv_goto (tgt := 32) hx hb dX3_shapeOfEach_28 (by decide) ?_
        exact ar_iret C hr hW dX3_shapeOfEach_32 ((fun hz : zEach x y = (0, y) => ⟨by rw [hz], by rw [hz], rfl⟩) (by unfold zEach; rw [if_neg (by omega)]; first | (exfalso; omega) | rw [if_pos (by omega)] | rw [if_neg (by omega)]))
    · skip
      refine lv_iload_n hx hb dX3_shapeOfEach_9 rfl (lv_at hl 1 rfl) ?_
      refine ln_if_eq (tgt := 23) hx hb dX3_shapeOfEach_10 (by decide) (by omega) (fun h5 => ?_) (fun h5 => ?_)
      · skip
        refine lv_iload_n hx hb dX3_shapeOfEach_23 rfl (lv_at hl 0 rfl) ?_
        refine ln_if_ne (tgt := 31) hx hb dX3_shapeOfEach_24 (by decide) (by omega) (fun h6 => ?_) (fun h6 => ?_)
        · skip
          refine lv_iload_n hx hb dX3_shapeOfEach_31 rfl (lv_at hl 0 rfl) ?_
          exact ar_iret C hr hW dX3_shapeOfEach_32 ((fun hz : zEach x y = (0, x) => ⟨by rw [hz], by rw [hz], rfl⟩) (by unfold zEach; rw [if_neg (by omega)]; first | (exfalso; omega) | rw [if_pos (by omega)] | rw [if_neg (by omega)]))
        · skip
          refine lv_iload_n hx hb dX3_shapeOfEach_27 rfl (lv_at hl 1 rfl) ?_
          refine lv_goto (tgt := 32) hx hb dX3_shapeOfEach_28 (by decide) ?_
          exact ar_iret C hr hW dX3_shapeOfEach_32 ((fun hz : zEach x y = (0, y) => ⟨by rw [hz], by rw [hz], rfl⟩) (by unfold zEach; rw [if_neg (by omega)]; first | (exfalso; omega) | rw [if_pos (by omega)] | rw [if_neg (by omega)]))
      · skip
        exact ar_throw C hW ar_X_X3_101 hl.1 dX3_shapeOfEach_13 dX3_shapeOfEach_16 dX3_shapeOfEach_17 dX3_shapeOfEach_19 dX3_shapeOfEach_22 (Nat.le_of_ble_eq_true rfl) (Nat.le_of_ble_eq_true rfl) ((fun hz : zEach x y = (1, 0) => ⟨by rw [hz]; decide, by rw [hz]; rfl, rfl⟩) (if_pos ⟨by omega, by omega, by omega⟩))
theorem hd_X3_shapeJoined : yX3_shapeJoined.cls ≠ "java/lang/invoke/MethodHandle" ∧ yX3_shapeJoined.cls ≠ "java/lang/invoke/VarHandle" ∧ (parseMethodDescriptor yX3_shapeJoined.desc).map (fun d => d.parameters.length) = some 2 := by decide +kernel
set_option maxHeartbeats 4000000 in
set_option maxRecDepth 100000 in
theorem c_X3_shapeJoined {l : Launch} (hl9 : l.stackTraces = false) {D : va_G} {ct : Nat → ClassId} {S : Type} {wl : S → va_W} (u0 : S) (x y : Nat) (hx9 : x ≤ 792) (hy9 : y ≤ 792) (hx8 : zCt x ≤ 24) (hy8 : zCt y ≤ 24) : ar_M l yX3_shapeJoined cX3_shapeJoined 3 (some .int) 6 90 D ct wl [.int (nI x), .int (nI y)] u0 (fun v9 u9 => (zJoi x y).1 = 0 ∧ v9 = some (.int (nI (zJoi x y).2)) ∧ u9 = u0) (fun E9 u9 => (zJoi x y).1 ≠ 0 ∧ E9 = zEc (zJoi x y).1 ∧ u9 = u0) := by
  refine ar_ofW hl9 (by decide) (Nat.le_of_ble_eq_true rfl) ?_
  intro p e s m below meth c A ls C hr hnm hW hl
  have hx := C.1
  have hb := C.2.1
  have hown := C.2.2.2.1
  have hts := C.2.2.2.2.1
  have hl : lv_has ls 3 [(0, .int (nI x)), (1, .int (nI y))] := hl
  refine lv_iload_n hx hb dX3_shapeJoined_0 rfl (lv_at hl 0 rfl) ?_
  refine ar_callS (As := [.int (nI x)]) (rest := []) C hW (c_X4_isTable hl9 _ x (by omega)) q473 q474 q7 q475 hd_X4_isTable ⟨Nat.le_of_ble_eq_true rfl, Nat.le_of_ble_eq_true rfl⟩ hl.1 (Nat.le_of_ble_eq_true rfl) rfl dX3_shapeJoined_1 (fun _ _ _ _ _ _ hp => hp.elim) (fun v9 u9 H locs hp hW => ?_)
  obtain ⟨rfl, hu9⟩ := hp
  rw [hu9] at hW
  refine W.eq (g2 := F0 m 4 ls [.int (bI (zTb x))]) rfl ?_
  refine lb_if_ne (tgt := 14) hx hb dX3_shapeJoined_4 (by decide) (fun h1 => ?_) (fun h1 => ?_)
  · skip
    exact ar_throw C hW ar_X_X3_104 hl.1 dX3_shapeJoined_14 dX3_shapeJoined_17 dX3_shapeJoined_18 dX3_shapeJoined_20 dX3_shapeJoined_23 (Nat.le_of_ble_eq_true rfl) (Nat.le_of_ble_eq_true rfl) ((fun hz : zJoi x y = (1, 0) => ⟨by rw [hz]; decide, by rw [hz]; rfl, rfl⟩) (by unfold zJoi; first | rw [if_pos (Or.inl h1)] | rw [if_pos (Or.inr h2)]))
  · skip
    refine lv_iload_n hx hb dX3_shapeJoined_7 rfl (lv_at hl 1 rfl) ?_
    refine ar_callS (As := [.int (nI y)]) (rest := []) C hW (c_X4_isTable hl9 _ y (by omega)) q473 q474 q7 q475 hd_X4_isTable ⟨Nat.le_of_ble_eq_true rfl, Nat.le_of_ble_eq_true rfl⟩ hl.1 (Nat.le_of_ble_eq_true rfl) rfl dX3_shapeJoined_8 (fun _ _ _ _ _ _ hp => hp.elim) (fun v9 u9 H locs hp hW => ?_)
    obtain ⟨rfl, hu9⟩ := hp
    rw [hu9] at hW
    refine W.eq (g2 := F0 m 11 ls [.int (bI (zTb y))]) rfl ?_
    refine lb_if_eq (tgt := 24) hx hb dX3_shapeJoined_11 (by decide) (fun h2 => ?_) (fun h2 => ?_)
    · skip
      refine lv_iload_n hx hb dX3_shapeJoined_24 rfl (lv_at hl 0 rfl) ?_
      refine ar_callS (As := [.int (nI x)]) (rest := []) C hW (c_X4_elements hl9 _ x (by omega)) q505 q218 q7 q219 hd_X4_elements ⟨Nat.le_of_ble_eq_true rfl, Nat.le_of_ble_eq_true rfl⟩ hl.1 (Nat.le_of_ble_eq_true rfl) rfl dX3_shapeJoined_25 (fun _ _ _ _ _ _ hp => hp.elim) (fun v9 u9 H locs hp hW => ?_)
      obtain ⟨rfl, hu9⟩ := hp
      rw [hu9] at hW
      refine W.eq (g2 := F0 m 28 ls [.int (nI (zCt x))]) rfl ?_
      refine lv_iload_n hx hb dX3_shapeJoined_28 rfl (lv_at hl 1 rfl) ?_
      refine ar_callS (As := [.int (nI y)]) (rest := [.int (nI (zCt x))]) C hW (c_X4_elements hl9 _ y (by omega)) q505 q218 q7 q219 hd_X4_elements ⟨Nat.le_of_ble_eq_true rfl, Nat.le_of_ble_eq_true rfl⟩ hl.1 (Nat.le_of_ble_eq_true rfl) rfl dX3_shapeJoined_29 (fun _ _ _ _ _ _ hp => hp.elim) (fun v9 u9 H locs hp hW => ?_)
      obtain ⟨rfl, hu9⟩ := hp
      rw [hu9] at hW
      refine W.eq (g2 := F0 m 32 ls [.int (nI (zCt y)), .int (nI (zCt x))]) rfl ?_
      refine ln_iadd hx hb dX3_shapeJoined_32 ?_
      refine lv_istore_n (lv' := [(2, .int (nI ((zCt x) + (zCt y)))), (0, .int (nI x)), (1, .int (nI y))]) hx hb dX3_shapeJoined_33 rfl hl (by decide) rfl (fun ls hl => ?_)
      refine lv_iconst (v := nI 1) hx hb dX3_shapeJoined_34 (by decide) ?_
      refine lv_iload_n hx hb dX3_shapeJoined_35 rfl (lv_at hl 0 rfl) ?_
      refine ar_callS (As := [.int (nI 1), .int (nI ((zCt x) + (zCt y)))]) (rest := []) C hW (c_X4_fits hl9 _ 1 ((zCt x) + (zCt y)) (by omega) (by omega)) q453 q199 q7 q200 hd_X4_fits ⟨Nat.le_of_ble_eq_true rfl, Nat.le_of_ble_eq_true rfl⟩ hl.1 (Nat.le_of_ble_eq_true rfl) rfl dX3_shapeJoined_36 (fun _ _ _ _ _ _ hp => hp.elim) (fun v9 u9 H locs hp hW => ?_)
      obtain ⟨rfl, hu9⟩ := hp
      rw [hu9] at hW
      refine W.eq (g2 := F0 m 39 ls [.int (bI (zFit 1 ((zCt x) + (zCt y))))]) rfl ?_
      refine lb_if_ne (tgt := 52) hx hb dX3_shapeJoined_39 (by decide) (fun h3 => ?_) (fun h3 => ?_)
      · skip
        refine lv_iload_n hx hb dX3_shapeJoined_52 rfl (lv_at hl 0 rfl) ?_
        exact ar_iret C hr hW dX3_shapeJoined_53 ((fun hz : zJoi x y = (0, (zCt x) + (zCt y)) => ⟨by rw [hz], by rw [hz], rfl⟩) (by unfold zJoi; rw [if_neg (by rw [h1, h2]; decide), if_pos h3]))
      · skip
        exact ar_throw C hW ar_X_X3_109 hl.1 dX3_shapeJoined_42 dX3_shapeJoined_45 dX3_shapeJoined_46 dX3_shapeJoined_48 dX3_shapeJoined_51 (Nat.le_of_ble_eq_true rfl) (Nat.le_of_ble_eq_true rfl) ((fun hz : zJoi x y = (2, 0) => ⟨by rw [hz]; decide, by rw [hz]; rfl, rfl⟩) (by unfold zJoi; rw [if_neg (by rw [h1, h2]; decide), if_neg (by rw [h3]; decide)]))
    · skip
      exact ar_throw C hW ar_X_X3_104 hl.1 dX3_shapeJoined_14 dX3_shapeJoined_17 dX3_shapeJoined_18 dX3_shapeJoined_20 dX3_shapeJoined_23 (Nat.le_of_ble_eq_true rfl) (Nat.le_of_ble_eq_true rfl) ((fun hz : zJoi x y = (1, 0) => ⟨by rw [hz]; decide, by rw [hz]; rfl, rfl⟩) (by unfold zJoi; first | rw [if_pos (Or.inl h1)] | rw [if_pos (Or.inr h2)]))
theorem hd_X3_shapeAnew : yX3_shapeAnew.cls ≠ "java/lang/invoke/MethodHandle" ∧ yX3_shapeAnew.cls ≠ "java/lang/invoke/VarHandle" ∧ (parseMethodDescriptor yX3_shapeAnew.desc).map (fun d => d.parameters.length) = some 2 := by decide +kernel
set_option maxHeartbeats 4000000 in
set_option maxRecDepth 100000 in
theorem c_X3_shapeAnew {l : Launch} (hl9 : l.stackTraces = false) {D : va_G} {ct : Nat → ClassId} {ad : Nat → Nat} (sc sg sh : Nat → Int32) (el : Nat → Nat → UInt64) (nf : Nat → Nat → Int32) (lr : Nat → Nat → Option Nat) (k : Nat) (hk : k < 41) (kl : Nat) (hkl : kl ≤ 10) (hkd : nf 0 k = nI kl) (x : Nat) (hx9 : x ≤ 792) (hsh : sh (8 + k) = nI x) (v0 v1 cnt : Nat) (hv0 : v0 < 2 ^ 15) (hv1 : v1 < 2 ^ 15) (hct : cnt ≤ 24) (hcv : kl = 2 → el (8 + k) 0 = FP.i2d (nI v0) ∧ True ∧ (x ≠ 0 → el (8 + k) 1 = FP.i2d (nI v1) ∧ True)) : ar_M l yX3_shapeAnew cX3_shapeAnew 5 (some .int) 6 90 D ct (xL ad ct) [.ref (ad (104 + k)), .int (nI cnt)] (sc, sg, sh, el, nf, lr) (fun v9 u9 => (zAnw (decide (kl = 2)) x v0 v1 cnt).1 = 0 ∧ v9 = some (.int (nI (zAnw (decide (kl = 2)) x v0 v1 cnt).2)) ∧ u9 = (sc, sg, sh, el, nf, lr)) (fun E9 u9 => (zAnw (decide (kl = 2)) x v0 v1 cnt).1 ≠ 0 ∧ E9 = zEc (zAnw (decide (kl = 2)) x v0 v1 cnt).1 ∧ u9 = (sc, sg, sh, el, nf, lr)) := by
  refine ar_ofW hl9 (by decide) (Nat.le_of_ble_eq_true rfl) ?_
  intro p e s m below meth c A ls C hr hnm hW hl
  have hx := C.1
  have hb := C.2.1
  have hown := C.2.2.2.1
  have hts := C.2.2.2.2.1
  have hl : lv_has ls 5 [(0, .ref (ad (104 + k))), (1, .int (nI cnt))] := hl
  refine lv_aload_n hx hb dX3_shapeAnew_0 rfl (lv_at hl 0 rfl) ?_
  refine xg_kind (k := k) C hW q85 (by omega) dX3_shapeAnew_1 ?_
  refine ln_top (hkd) ?_
  refine lv_iconst (v := nI 2) hx hb dX3_shapeAnew_4 (by decide) ?_
  refine ln_icmp_ne (tgt := 19) hx hb dX3_shapeAnew_5 (by decide) (by omega) (by omega) (fun h1 => ?_) (fun h1 => ?_)
  · skip
    exact ar_throw C hW ar_X_X3_111 hl.1 dX3_shapeAnew_19 dX3_shapeAnew_22 dX3_shapeAnew_23 dX3_shapeAnew_25 dX3_shapeAnew_28 (Nat.le_of_ble_eq_true rfl) (Nat.le_of_ble_eq_true rfl) ((fun hz : zAnw (decide (kl = 2)) x v0 v1 cnt = (1, 0) => ⟨by rw [hz]; decide, by rw [hz]; rfl, rfl⟩) (by unfold zAnw; first | rw [if_pos (Or.inr h2)] | rw [if_pos (Or.inl (decide_eq_false h1))]))
  · skip
    have hc := hcv h1
    refine lv_aload_n hx hb dX3_shapeAnew_8 rfl (lv_at hl 0 rfl) ?_
    refine xg_result (k := k) C hW q104 (by omega) dX3_shapeAnew_9 ?_
    refine ar_callV (As := []) (rest := []) C hW (c_X1_count hl9 sc sg sh el nf lr (8 + k) (by omega) x (by omega) (hsh)) (xl_at (by omega) (xc_na (j := 8 + k) (by omega))) rfl q507 q214 q215 q2 q216 hd_X1_count ⟨Nat.le_of_ble_eq_true rfl, Nat.le_of_ble_eq_true rfl⟩ hl.1 (Nat.le_of_ble_eq_true rfl) rfl dX3_shapeAnew_12 (fun _ _ _ _ _ _ hp => hp.elim) (fun v9 u9 H locs hp hW => ?_)
    obtain ⟨rfl, hu9⟩ := hp
    rw [hu9] at hW
    refine W.eq (g2 := F0 m 15 ls [.int (nI (zCt x))]) rfl ?_
    refine lv_iconst (v := nI 2) hx hb dX3_shapeAnew_15 (by decide) ?_
    refine ln_icmp_le (tgt := 29) hx hb dX3_shapeAnew_16 (by decide) (by have := zCt_lt (x := x) (by omega); omega) (by decide) (fun h2 => ?_) (fun h2 => ?_)
    · skip
      refine lv_aload_n hx hb dX3_shapeAnew_29 rfl (lv_at hl 0 rfl) ?_
      refine xg_result (k := k) C hW q104 (by omega) dX3_shapeAnew_30 ?_
      refine xg_shape (j := 8 + k) C hW q37 (by omega) dX3_shapeAnew_33 ?_
      refine ln_top (hsh) ?_
      refine ln_if_ne (tgt := 43) hx hb dX3_shapeAnew_36 (by decide) (by omega) (fun h3 => ?_) (fun h3 => ?_)
      · skip
        refine lv_iconst (v := nI 0) hx hb dX3_shapeAnew_43 (by decide) ?_
        refine lv_istore_n (lv' := [(2, .int (nI 0)), (0, .ref (ad (104 + k))), (1, .int (nI cnt))]) hx hb dX3_shapeAnew_44 rfl hl (by decide) rfl (fun ls hl => ?_)
        refine lv_iload_n hx hb dX3_shapeAnew_45 rfl (lv_at hl 0 rfl) ?_
        refine ln_if_eq (tgt := 53) hx hb dX3_shapeAnew_46 (by decide) (by decide) (fun _ => ?_) (fun h4 => absurd h4 (by decide))
        refine lv_aload_n hx hb dX3_shapeAnew_53 rfl (lv_at hl 1 rfl) ?_
        refine xg_result (k := k) C hW q104 (by omega) dX3_shapeAnew_54 ?_
        refine xg_elements (j := 8 + k) C hW q45 (by omega) dX3_shapeAnew_57 ?_
        refine lv_iconst (v := nI 0) hx hb dX3_shapeAnew_60 (by decide) ?_
        refine xl_elements (j := 8 + k) (i := 0) C hW (by omega) (by omega) dX3_shapeAnew_61 ?_
        refine lv_d2i hx hb dX3_shapeAnew_62 ?_
        rw [hc.1, d2i_nI]
        refine lv_istore_n (lv' := [(3, .int (nI v0)), (2, .int (nI 0)), (0, .ref (ad (104 + k))), (1, .int (nI cnt))]) hx hb dX3_shapeAnew_63 rfl hl (by decide) rfl (fun ls hl => ?_)
        refine lv_aload_n hx hb dX3_shapeAnew_64 rfl (lv_at hl 2 rfl) ?_
        refine xg_result (k := k) C hW q104 (by omega) dX3_shapeAnew_65 ?_
        refine xg_elements (j := 8 + k) C hW q45 (by omega) dX3_shapeAnew_68 ?_
        refine lv_iload_n hx hb dX3_shapeAnew_71 rfl (lv_at hl 1 rfl) ?_
        refine ln_if_eq (tgt := 79) hx hb dX3_shapeAnew_72 (by decide) (by decide) (fun _ => ?_) (fun h5 => absurd h5 (by decide))
        refine lv_iconst (v := nI 1) hx hb dX3_shapeAnew_79 (by decide) ?_
        refine xl_elements (j := 8 + k) (i := 1) C hW (by omega) (by omega) dX3_shapeAnew_80 ?_
        refine lv_d2i hx hb dX3_shapeAnew_81 ?_
        rw [(hc.2.2 h3).1, d2i_nI]
        refine lv_istore (lv' := [(4, .int (nI v1)), (3, .int (nI v0)), (2, .int (nI 0)), (0, .ref (ad (104 + k))), (1, .int (nI cnt))]) hx hb dX3_shapeAnew_82 hl (by decide) rfl (fun ls hl => ?_)
        refine lv_iload_n hx hb dX3_shapeAnew_84 rfl (lv_at hl 1 rfl) ?_
        refine lv_iload hx hb dX3_shapeAnew_85 (lv_at hl 0 rfl) ?_
        refine ar_callS (As := [.int (nI v0), .int (nI v1)]) (rest := []) C hW (c_X4_fits hl9 _ v0 v1 (by omega) (by omega)) q453 q199 q7 q200 hd_X4_fits ⟨Nat.le_of_ble_eq_true rfl, Nat.le_of_ble_eq_true rfl⟩ hl.1 (Nat.le_of_ble_eq_true rfl) rfl dX3_shapeAnew_87 (fun _ _ _ _ _ _ hp => hp.elim) (fun v9 u9 H locs hp hW => ?_)
        obtain ⟨rfl, hu9⟩ := hp
        rw [hu9] at hW
        refine W.eq (g2 := F0 m 90 ls [.int (bI (zFit v0 v1))]) rfl ?_
        refine lb_if_ne (tgt := 103) hx hb dX3_shapeAnew_90 (by decide) (fun h6 => ?_) (fun h6 => ?_)
        · skip
          have hfit := h6
          refine lv_iload_n hx hb dX3_shapeAnew_103 rfl (lv_at hl 1 rfl) ?_
          refine lv_iload hx hb dX3_shapeAnew_104 (lv_at hl 0 rfl) ?_
          refine ln_imul hx hb dX3_shapeAnew_106 ?_
          refine lv_iload_n hx hb dX3_shapeAnew_107 rfl (lv_at hl 4 rfl) ?_
          refine ln_icmp_ge (tgt := 121) hx hb dX3_shapeAnew_108 (by decide) (by have := Nat.mul_lt_mul'' hv0 hv1; omega) (by omega) (fun h7 => ?_) (fun h7 => ?_)
          · skip
            refine lv_iload_n hx hb dX3_shapeAnew_121 rfl (lv_at hl 2 rfl) ?_
            refine ln_if_eq (tgt := 130) hx hb dX3_shapeAnew_122 (by decide) (by decide) (fun _ => ?_) (fun h8 => absurd h8 (by decide))
            refine lv_iload_n hx hb dX3_shapeAnew_130 rfl (lv_at hl 1 rfl) ?_
            refine lv_iload hx hb dX3_shapeAnew_131 (lv_at hl 0 rfl) ?_
            refine ar_callS (As := [.int (nI v0), .int (nI v1)]) (rest := []) C hW (c_X4_tableOf hl9 _ v0 v1 (by omega)) q478 q190 q7 q191 hd_X4_tableOf ⟨Nat.le_of_ble_eq_true rfl, Nat.le_of_ble_eq_true rfl⟩ hl.1 (Nat.le_of_ble_eq_true rfl) rfl dX3_shapeAnew_133 (fun _ _ _ _ _ _ hp => hp.elim) (fun v9 u9 H locs hp hW => ?_)
            obtain ⟨rfl, hu9⟩ := hp
            rw [hu9] at hW
            refine W.eq (g2 := F0 m 136 ls [.int (nI (v0 * 32 + v1))]) rfl ?_
            exact ar_iret C hr hW dX3_shapeAnew_136 ((fun hz : zAnw (decide (kl = 2)) x v0 v1 cnt = (0, v0 * 32 + v1) => ⟨by rw [hz], by rw [hz], rfl⟩) (by unfold zAnw; rw [if_neg (by simp [h1]; omega), if_neg (by first | (rw [if_pos h3, if_pos h3, hfit]; decide) | (rw [if_neg h3, if_neg h3, hfit]; decide)), if_neg (by first | (rw [if_pos h3, if_pos h3]; omega) | (rw [if_neg h3, if_neg h3]; omega))]; first | rw [if_pos h3] | rw [if_neg h3]))
          · skip
            exact ar_throw C hW ar_X_X3_118 hl.1 dX3_shapeAnew_111 dX3_shapeAnew_114 dX3_shapeAnew_115 dX3_shapeAnew_117 dX3_shapeAnew_120 (Nat.le_of_ble_eq_true rfl) (Nat.le_of_ble_eq_true rfl) ((fun hz : zAnw (decide (kl = 2)) x v0 v1 cnt = (1, 0) => ⟨by rw [hz]; decide, by rw [hz]; rfl, rfl⟩) (by unfold zAnw; rw [if_neg (by simp [h1]; omega), if_neg (by first | (rw [if_pos h3, if_pos h3, hfit]; decide) | (rw [if_neg h3, if_neg h3, hfit]; decide)), if_pos (by first | (rw [if_pos h3, if_pos h3]; omega) | (rw [if_neg h3, if_neg h3]; assumption))]))
        · skip
          have hfit := h6
          exact ar_throw C hW ar_X_X3_116 hl.1 dX3_shapeAnew_93 dX3_shapeAnew_96 dX3_shapeAnew_97 dX3_shapeAnew_99 dX3_shapeAnew_102 (Nat.le_of_ble_eq_true rfl) (Nat.le_of_ble_eq_true rfl) ((fun hz : zAnw (decide (kl = 2)) x v0 v1 cnt = (2, 0) => ⟨by rw [hz]; decide, by rw [hz]; rfl, rfl⟩) (by unfold zAnw; rw [if_neg (by simp [h1]; omega), if_pos (by first | (rw [if_pos h3, if_pos h3]; exact hfit) | (rw [if_neg h3, if_neg h3]; exact hfit))]))
      · skip
        refine lv_iconst (v := nI 1) hx hb dX3_shapeAnew_39 (by decide) ?_
        refine lv_goto (tgt := 44) hx hb dX3_shapeAnew_40 (by decide) ?_
        refine lv_istore_n (lv' := [(2, .int (nI 1)), (0, .ref (ad (104 + k))), (1, .int (nI cnt))]) hx hb dX3_shapeAnew_44 rfl hl (by decide) rfl (fun ls hl => ?_)
        refine lv_iload_n hx hb dX3_shapeAnew_45 rfl (lv_at hl 0 rfl) ?_
        refine ln_if_eq (tgt := 53) hx hb dX3_shapeAnew_46 (by decide) (by decide) (fun h9 => absurd h9 (by decide)) (fun _ => ?_)
        refine lv_iconst (v := nI 1) hx hb dX3_shapeAnew_49 (by decide) ?_
        refine lv_goto (tgt := 63) hx hb dX3_shapeAnew_50 (by decide) ?_
        refine lv_istore_n (lv' := [(3, .int (nI 1)), (2, .int (nI 1)), (0, .ref (ad (104 + k))), (1, .int (nI cnt))]) hx hb dX3_shapeAnew_63 rfl hl (by decide) rfl (fun ls hl => ?_)
        refine lv_aload_n hx hb dX3_shapeAnew_64 rfl (lv_at hl 2 rfl) ?_
        refine xg_result (k := k) C hW q104 (by omega) dX3_shapeAnew_65 ?_
        refine xg_elements (j := 8 + k) C hW q45 (by omega) dX3_shapeAnew_68 ?_
        refine lv_iload_n hx hb dX3_shapeAnew_71 rfl (lv_at hl 1 rfl) ?_
        refine ln_if_eq (tgt := 79) hx hb dX3_shapeAnew_72 (by decide) (by decide) (fun h10 => absurd h10 (by decide)) (fun _ => ?_)
        refine lv_iconst (v := nI 0) hx hb dX3_shapeAnew_75 (by decide) ?_
        refine lv_goto (tgt := 80) hx hb dX3_shapeAnew_76 (by decide) ?_
        refine xl_elements (j := 8 + k) (i := 0) C hW (by omega) (by omega) dX3_shapeAnew_80 ?_
        refine lv_d2i hx hb dX3_shapeAnew_81 ?_
        rw [hc.1, d2i_nI]
        refine lv_istore (lv' := [(4, .int (nI v0)), (3, .int (nI 1)), (2, .int (nI 1)), (0, .ref (ad (104 + k))), (1, .int (nI cnt))]) hx hb dX3_shapeAnew_82 hl (by decide) rfl (fun ls hl => ?_)
        refine lv_iload_n hx hb dX3_shapeAnew_84 rfl (lv_at hl 1 rfl) ?_
        refine lv_iload hx hb dX3_shapeAnew_85 (lv_at hl 0 rfl) ?_
        refine ar_callS (As := [.int (nI 1), .int (nI v0)]) (rest := []) C hW (c_X4_fits hl9 _ 1 v0 (by omega) (by omega)) q453 q199 q7 q200 hd_X4_fits ⟨Nat.le_of_ble_eq_true rfl, Nat.le_of_ble_eq_true rfl⟩ hl.1 (Nat.le_of_ble_eq_true rfl) rfl dX3_shapeAnew_87 (fun _ _ _ _ _ _ hp => hp.elim) (fun v9 u9 H locs hp hW => ?_)
        obtain ⟨rfl, hu9⟩ := hp
        rw [hu9] at hW
        refine W.eq (g2 := F0 m 90 ls [.int (bI (zFit 1 v0))]) rfl ?_
        refine lb_if_ne (tgt := 103) hx hb dX3_shapeAnew_90 (by decide) (fun h11 => ?_) (fun h11 => ?_)
        · skip
          have hfit := h11
          refine lv_iload_n hx hb dX3_shapeAnew_103 rfl (lv_at hl 1 rfl) ?_
          refine lv_iload hx hb dX3_shapeAnew_104 (lv_at hl 0 rfl) ?_
          refine ln_imul hx hb dX3_shapeAnew_106 ?_
          refine lv_iload_n hx hb dX3_shapeAnew_107 rfl (lv_at hl 4 rfl) ?_
          refine ln_icmp_ge (tgt := 121) hx hb dX3_shapeAnew_108 (by decide) (by have := Nat.mul_lt_mul'' hv0 hv1; omega) (by omega) (fun h12 => ?_) (fun h12 => ?_)
          · skip
            refine lv_iload_n hx hb dX3_shapeAnew_121 rfl (lv_at hl 2 rfl) ?_
            refine ln_if_eq (tgt := 130) hx hb dX3_shapeAnew_122 (by decide) (by decide) (fun h13 => absurd h13 (by decide)) (fun _ => ?_)
            refine lv_iload hx hb dX3_shapeAnew_125 (lv_at hl 0 rfl) ?_
            refine lv_goto (tgt := 136) hx hb dX3_shapeAnew_127 (by decide) ?_
            exact ar_iret C hr hW dX3_shapeAnew_136 ((fun hz : zAnw (decide (kl = 2)) x v0 v1 cnt = (0, v0) => ⟨by rw [hz], by rw [hz], rfl⟩) (by unfold zAnw; rw [if_neg (by simp [h1]; omega), if_neg (by first | (rw [if_pos h3, if_pos h3, hfit]; decide) | (rw [if_neg h3, if_neg h3, hfit]; decide)), if_neg (by first | (rw [if_pos h3, if_pos h3]; omega) | (rw [if_neg h3, if_neg h3]; omega))]; first | rw [if_pos h3] | rw [if_neg h3]))
          · skip
            exact ar_throw C hW ar_X_X3_118 hl.1 dX3_shapeAnew_111 dX3_shapeAnew_114 dX3_shapeAnew_115 dX3_shapeAnew_117 dX3_shapeAnew_120 (Nat.le_of_ble_eq_true rfl) (Nat.le_of_ble_eq_true rfl) ((fun hz : zAnw (decide (kl = 2)) x v0 v1 cnt = (1, 0) => ⟨by rw [hz]; decide, by rw [hz]; rfl, rfl⟩) (by unfold zAnw; rw [if_neg (by simp [h1]; omega), if_neg (by first | (rw [if_pos h3, if_pos h3, hfit]; decide) | (rw [if_neg h3, if_neg h3, hfit]; decide)), if_pos (by first | (rw [if_pos h3, if_pos h3]; omega) | (rw [if_neg h3, if_neg h3]; assumption))]))
        · skip
          have hfit := h11
          exact ar_throw C hW ar_X_X3_116 hl.1 dX3_shapeAnew_93 dX3_shapeAnew_96 dX3_shapeAnew_97 dX3_shapeAnew_99 dX3_shapeAnew_102 (Nat.le_of_ble_eq_true rfl) (Nat.le_of_ble_eq_true rfl) ((fun hz : zAnw (decide (kl = 2)) x v0 v1 cnt = (2, 0) => ⟨by rw [hz]; decide, by rw [hz]; rfl, rfl⟩) (by unfold zAnw; rw [if_neg (by simp [h1]; omega), if_pos (by first | (rw [if_pos h3, if_pos h3]; exact hfit) | (rw [if_neg h3, if_neg h3]; exact hfit))]))
    · skip
      exact ar_throw C hW ar_X_X3_111 hl.1 dX3_shapeAnew_19 dX3_shapeAnew_22 dX3_shapeAnew_23 dX3_shapeAnew_25 dX3_shapeAnew_28 (Nat.le_of_ble_eq_true rfl) (Nat.le_of_ble_eq_true rfl) ((fun hz : zAnw (decide (kl = 2)) x v0 v1 cnt = (1, 0) => ⟨by rw [hz]; decide, by rw [hz]; rfl, rfl⟩) (by unfold zAnw; first | rw [if_pos (Or.inr h2)] | rw [if_pos (Or.inl (decide_eq_false h1))]))
