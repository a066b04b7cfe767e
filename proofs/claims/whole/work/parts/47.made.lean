section AI0
variable {p : Program} {l : Launch} {e : Env} {s : State} {m : MethodId} {args : Array Value} {below : List Frame} {meth : Method} {c : Code} {H : Heap} {locs : List Loc} {cc : ByteArray} {n : Nat} {own : String} {D : va_G} {ct : Nat → ClassId} {A : Nat → Prop} {R : Room} {cells slots : Nat}
variable {pc : Nat} {ls : Array Slot} {rest : List Value} {Q : State → Prop} {ws : va_W} {a q0 : Nat}
theorem ai_new {Cn : String} {T : u_T} {N ci index : Nat} {ty : Nat → FieldType} {fs : List Value} (C : ar_C p l s m meth c cc n own args D ct A) (hW : ar_W D A s.heap H locs ws) (hin : ∀ w ∈ u_ws Cn T N, w ∈ lw_all) (hty : ∀ k, k < N → parseFieldDescriptor (T k).2.2.1 = some (ty k)) (q1 : Cond.classLink own index Cn ∈ lw_all) (q2 : Cond.instantiable Cn N ∈ lw_all) (q3 : Cond.initialized Cn ∈ lw_all) (hc : vwCl[ci]? = some (Cn, T, N)) (hfs : ∀ j, j < N → defaultValue (ty j) = vp_V fs j) (hcells : cells + 1 ≤ R.cells) (hslots : slots + N ≤ R.slots) (hdg : decode cc pc = .ok (.new index, 3))
    (kk : ∀ (q : Nat) (H1 : Heap), ar_W D A s.heap H1 locs (ws ++ [(q, .inr (ci, fs))]) → W p l e R s m args below meth c H1 locs (cells + 1) (slots + N) Q (F0 m (pc + 3) ls (.ref q :: rest))) : W p l e R s m args below meth c H locs cells slots Q (F0 m pc ls rest) :=
  va_new C.1 C.2.1 C.2.2.2.2.1 hin ty hty C.2.2.2.1 (C.2.2.2.2.1 _ q1) (C.2.2.2.2.1 _ q2) (C.2.2.2.2.1 _ q3) C.2.2.2.2.2.1 hW.1 hW.2.1 hW.2.2 C.2.2.2.2.2.2.2.2.1 hc hfs hcells hslots hdg (fun q H1 h1 h2 h3 => kk q H1 ⟨h1, h2, h3⟩)
theorem ai_ct {cA cB : ClassId} {ty : FieldType} (h1 : va_RA s cA ty) (h2 : va_RA s cB ty) : cA = cB := by
  cases ty with
  | object C =>
    obtain ⟨k1, c1, -, -, -, e1⟩ := h1
    obtain ⟨k2, c2, -, -, -, e2⟩ := h2
    exact Option.some.inj (e1.symm.trans e2)
  | _ =>
    have e1 : s.vm.findClass _ = some cA := h1
    have e2 : s.vm.findClass _ = some cB := h2
    exact Option.some.inj (e1.symm.trans e2)
theorem ai_newa {atype : ArrayType} {ty : FieldType} {x : Int32} {N' k : Nat} {a0 : vp_A} {cK : ClassId} (C : ar_C p l s m meth c cc n own args D ct A) (hW : ar_W D A s.heap H locs ws) (harr : Cond.arrayClass ty ∈ lw_all) (hty : newarray.typeOf atype = ty) (hk : (ar_T ct)[k]? = some (cK, ty)) (ha : ∀ cA : ClassId, vp_cell cA a0 = arrV cA N' (fun _ => defaultValue ty)) (hn : ¬ x < 0) (hN : x.toNatClampNeg = N') (hbytes : N' * componentBytes ty ≤ 536870912) (hcells : cells + 1 ≤ R.cells) (hslots : slots + N' ≤ R.slots) (hdg : decode cc pc = .ok (.newarray atype, 2))
    (kk : ∀ (q : Nat) (H1 : Heap), ar_W D A s.heap H1 locs (ws ++ [(q, .inl (cK, a0))]) → W p l e R s m args below meth c H1 locs (cells + 1) (slots + N') Q (F0 m (pc + 2) ls (.ref q :: rest))) : W p l e R s m args below meth c H locs cells slots Q (F0 m pc ls (.int x :: rest)) := by
  refine va_newa C.1 C.2.1 (atype := atype) (by rw [hty]; exact C.2.2.2.2.1 _ harr) hty C.2.2.2.2.2.1 hW.1 hW.2.1 hW.2.2 C.2.2.2.2.2.2.2.2.1 ha hn hN hbytes hcells hslots hdg (fun q cA H1 hK h1 h2 h3 => ?_)
  have e1 : cA = cK := ai_ct (hK.2 6 (cA, ty) rfl).2 (C.2.2.2.2.2.1.2 k (cK, ty) hk).2
  subst e1
  exact kk q H1 ⟨h1, h2, h3⟩
theorem ai_newq {Cn : String} {index : Nat} {x : Int32} {N' k : Nat} {cK : ClassId} (C : ar_C p l s m meth c cc n own args D ct A) (hW : ar_W D A s.heap H locs ws) (q1 : Cond.classLink own index Cn ∈ lw_all) (hover : va_AO Cn s) (hk : (ar_T ct)[k]? = some (cK, .object Cn)) (hn : ¬ x < 0) (hN : x.toNatClampNeg = N') (hbytes : N' * 4 ≤ 536870912) (hcells : cells + 1 ≤ R.cells) (hslots : slots + N' ≤ R.slots) (hdg : decode cc pc = .ok (.anewarray index, 3))
    (kk : ∀ (q : Nat) (H1 : Heap), ar_W D A s.heap H1 locs (ws ++ [(q, .inl (cK, N', .inr (.inr (.inr (.inr (fun _ => none))))))]) → W p l e R s m args below meth c H1 locs (cells + 1) (slots + N') Q (F0 m (pc + 3) ls (.ref q :: rest))) : W p l e R s m args below meth c H locs cells slots Q (F0 m pc ls (.int x :: rest)) := by
  refine va_newq C.1 C.2.1 C.2.2.2.1 (C.2.2.2.2.1 _ q1) hover C.2.2.2.2.2.1 hW.1 hW.2.1 hW.2.2 C.2.2.2.2.2.2.2.2.1 hn hN hbytes hcells hslots hdg (fun q cA H1 hK h1 h2 h3 => ?_)
  have e1 : cA = cK := ai_ct (hK.2 6 (cA, .object Cn) rfl).2 (C.2.2.2.2.2.1.2 k (cK, .object Cn) hk).2
  subst e1
  exact kk q H1 ⟨h1, h2, h3⟩
theorem ai_putF {Cn : String} {T : u_T} {N ci index k : Nat} {fs : List Value} {v : Value} {ty0 : Nat → FieldType} {ty : FieldType} (C : ar_C p l s m meth c cc n own args D ct A) (hnm9 : meth.name = "<init>") (hW : ar_W D A s.heap H locs ws) (hin : ∀ w ∈ u_ws Cn T N, w ∈ lw_all) (hty : ∀ k, k < N → parseFieldDescriptor (T k).2.2.1 = some (ty0 k)) (hnm : ∀ a, a < N → ∀ b, b < N → a ≠ b → (T a).2.1 ≠ (T b).2.1) (he : ws[q0]? = some (a, .inr (ci, fs))) (hc : vwCl[ci]? = some (Cn, T, N)) (hk : k < N) (hl : Cond.fieldLink own index (T k).1 (T k).2.1 (T k).2.2.1 ∈ lw_all) (hfin : (T k).2.2.2 = true) (hdecl : (T k).1 = own) (hd : parseFieldDescriptor (T k).2.2.1 = some ty) (hn : narrow ty v = v) (hfit : fits ty v = true) (hlen : k < fs.length) (hdg : decode cc pc = .ok (.putfield index, 3))
    (kk : ∀ (H1 : Heap) (locs1 : List Loc), ar_W D A s.heap H1 locs1 (ws.set q0 (a, .inr (ci, fs.set k v))) → W p l e R s m args below meth c H1 locs1 cells slots Q (F0 m (pc + 3) ls rest)) : W p l e R s m args below meth c H locs cells slots Q (F0 m pc ls (v :: .ref a :: rest)) :=
  va_putF C.1 C.2.1 C.2.2.2.2.1 hin ty0 hty hnm C.2.2.2.1 C.2.2.2.2.2.1 hW.1 hW.2.1 hW.2.2 q0 he hc k hk (C.2.2.2.2.1 _ hl) (fun _ h => h) hfin hnm9 hdecl hd hn hfit hlen hdg (fun H1 locs1 h1 h2 h3 => kk H1 locs1 ⟨h1, h2, h3⟩)
end AI0
def ai_X (U : State) : Prop := va_AO "ArrayText$Node" U ∧ va_AO "ArrayText$NumberArray" U
theorem ai_X.warm {s U : State} (h : ai_X s) (hW : s.WarmedH U.vm) : ai_X U := ⟨h.1.moved hW.alike, h.2.moved hW.alike⟩
/-- the cells that constructors make -/
abbrev iZ : Nat → Int32 := fun _ => nI 0
abbrev iZd : Nat → UInt64 := fun _ => FP.dconst0
abbrev kNA (ct : Nat → ClassId) (h q : Nat) : va_W := [(h, .inr (3, [.int (nI 0), .ref q])), (q, .inl (ct 1, 24, .inr (.inr (.inr (.inl iZd)))))]
abbrev kNd (ct : Nat → ClassId) (h : Nat) (x : Nat × Nat) : va_W := (h, .inr (2, [.int (nI 0), .int (nI 0), .int (nI 0), .null, .null, .ref x.1])) :: kNA ct x.1 x.2
abbrev kTx (ct : Nat → ClassId) (h q : Nat) : va_W := [(h, .inr (4, [.ref q, .int (nI 0), .int (nI 0)])), (q, .inl (ct 0, 40, .inl iZ))]
def kO {T : Type} (b : va_W) (f : T → va_W) : Option T → va_W := fun o => match o with | none => b | some x => f x
theorem hd_X1_init : yX1_init.cls ≠ "java/lang/invoke/MethodHandle" ∧ yX1_init.cls ≠ "java/lang/invoke/VarHandle" ∧ (parseMethodDescriptor yX1_init.desc).map (fun d => d.parameters.length) = some 0 := by decide +kernel
set_option maxHeartbeats 4000000 in
set_option maxRecDepth 100000 in
theorem c_X1_init {l : Launch} (hl9 : l.stackTraces = false) {D : va_G} {ct : Nat → ClassId} (h : Nat) : ag_M l yX1_init (ar_ws yX1_init cX1_init 1 none) { frames := 1, cells := 1, slots := 24, locals := 20 } 1 24 ai_X D ct (kO (T := Nat) ([(h, .inr (3, [.int (nI 0), .null]))]) (kNA ct h)) [.ref h] none (fun v9 u9 => v9 = none ∧ ∃ x, u9 = some x) (fun _ _ => False) := by
  refine ag_ofW hl9 (by decide) (Nat.le_of_ble_eq_true rfl) ?_
  intro p e s m below meth c A ls C hX hr hnm hW hl
  have hx := C.1
  have hb := C.2.1
  have hown := C.2.2.2.1
  have hts := C.2.2.2.2.1
  have hl : lv_has ls 1 [(0, .ref h)] := hl
  have hW : ar_W D A s.heap s.heap [] [(h, .inr (3, [.int (nI 0), .null]))] := hW
  refine lv_aload_n hx hb dX1_init_0 rfl (lv_at hl 0 rfl) ?_
  refine W.objInit hx hb hown (hts _ q35) (hts _ q27) (hts _ q28) rfl (by rw [C.2.2.1]; exact hl.1) rfl dX1_init_1 (Nat.le_of_ble_eq_true rfl) (Nat.le_of_ble_eq_true rfl) ?_
  refine W.eq (g2 := F0 m 4 ls []) rfl ?_
  refine lv_aload_n hx hb dX1_init_4 rfl (lv_at hl 0 rfl) ?_
  refine lv_iconst (v := nI 0) hx hb dX1_init_5 (by decide) ?_
  refine ar_put (q0 := 0) (ci := 3) (k := 0) (fs := [.int (nI 0), .null]) C hW ar_in1 tyX1_ok nmX1 rfl rfl (by decide) q36 rfl (tyX1_ok 0 (by decide)) rfl rfl (by decide) dX1_init_6 (fun H locs hW => ?_)
  have hW : ar_W D A s.heap H locs [(h, .inr (3, [.int (nI 0), .null]))] := hW
  refine lv_aload_n hx hb dX1_init_9 rfl (lv_at hl 0 rfl) ?_
  refine lv_bipush (v := nI 24) hx hb dX1_init_10 (by decide) ?_
  refine ai_newa (atype := .double) (ty := .double) (N' := 24) (k := 1) (a0 := (24, .inr (.inr (.inr (.inl iZd))))) C hW q51 rfl rfl (fun _ => rfl) (by decide) (by decide) (by decide) (by show _ ≤ 1; omega) (by show _ ≤ 24; omega) dX1_init_12 (fun q H hW => ?_)
  have hW : ar_W D A s.heap H _ ([(h, .inr (3, [.int (nI 0), .null])), (q, .inl (ct 1, 24, .inr (.inr (.inr (.inl iZd)))))]) := hW
  refine ai_putF (q0 := 0) (ci := 3) (k := 1) (fs := [.int (nI 0), .null]) C hnm hW ar_in1 tyX1_ok nmX1 rfl rfl (by decide) q41 rfl rfl (tyX1_ok 1 (by decide)) rfl rfl (Nat.le_of_ble_eq_true rfl) dX1_init_14 (fun H locs hW => ?_)
  have hW : ar_W D A s.heap H _ (kNA ct h q) := hW
  exact ag_vret (u := some q) C.g hr hW dX1_init_17 ⟨rfl, q, rfl⟩ (by decide) (by decide)
theorem hd_X0_init : yX0_init.cls ≠ "java/lang/invoke/MethodHandle" ∧ yX0_init.cls ≠ "java/lang/invoke/VarHandle" ∧ (parseMethodDescriptor yX0_init.desc).map (fun d => d.parameters.length) = some 0 := by decide +kernel
set_option maxHeartbeats 4000000 in
set_option maxRecDepth 100000 in
theorem c_X0_init {l : Launch} (hl9 : l.stackTraces = false) {D : va_G} {ct : Nat → ClassId} (h : Nat) : ag_M l yX0_init (ar_ws yX0_init cX0_init 1 none) { frames := 2, cells := 2, slots := 26, locals := 60 } 2 26 ai_X D ct (kO (T := Nat × Nat) ([(h, .inr (2, [.int (nI 0), .int (nI 0), .int (nI 0), .null, .null, .null]))]) (kNd ct h)) [.ref h] none (fun v9 u9 => v9 = none ∧ ∃ x, u9 = some x) (fun _ _ => False) := by
  refine ag_ofW hl9 (by decide) (Nat.le_of_ble_eq_true rfl) ?_
  intro p e s m below meth c A ls C hX hr hnm hW hl
  have hx := C.1
  have hb := C.2.1
  have hown := C.2.2.2.1
  have hts := C.2.2.2.2.1
  have hl : lv_has ls 1 [(0, .ref h)] := hl
  have hW : ar_W D A s.heap s.heap [] [(h, .inr (2, [.int (nI 0), .int (nI 0), .int (nI 0), .null, .null, .null]))] := hW
  refine lv_aload_n hx hb dX0_init_0 rfl (lv_at hl 0 rfl) ?_
  refine W.objInit hx hb hown (hts _ q81) (hts _ q27) (hts _ q28) rfl (by rw [C.2.2.1]; exact hl.1) rfl dX0_init_1 (Nat.le_of_ble_eq_true rfl) (Nat.le_of_ble_eq_true rfl) ?_
  refine W.eq (g2 := F0 m 4 ls []) rfl ?_
  refine lv_aload_n hx hb dX0_init_4 rfl (lv_at hl 0 rfl) ?_
  refine ai_new (ci := 3) (fs := [.int (nI 0), .null]) C hW ar_in1 tyX1_ok q82 q31 q2 rfl (by decide) (by show _ ≤ 2; omega) (by show _ ≤ 26; omega) dX0_init_5 (fun q H hW => ?_)
  refine lv_dup hx hb dX0_init_8 rfl ?_
  refine ag_call (rest := [.ref q, .ref h]) (maxL := 1) (u0 := none) (wl := fun u => [(h, .inr (2, [.int (nI 0), .int (nI 0), .int (nI 0), .null, .null, .null]))] ++ kO ([(q, .inr (3, [.int (nI 0), .null]))]) (kNA ct q) u) C.g hW (ag_frameL ([(h, .inr (2, [.int (nI 0), .int (nI 0), .int (nI 0), .null, .null, .null]))]) (c_X1_init hl9 q)) (ag_stIN (As := []) (b := q) C.g rfl (by decide +kernel) q33 q34 hd_X1_init rfl dX0_init_9) (fun U h9 => hX.warm h9) ⟨Nat.le_of_ble_eq_true rfl, Nat.le_of_ble_eq_true rfl, by show _ + 1 ≤ 2; omega, by show _ + 24 ≤ 26; omega⟩ (fun w hw => (List.mem_cons.mp hw).elim (fun e => by rw [e]; exact q34) id) (ag_cd hts q34) q2 hl.1 (Nat.le_of_ble_eq_true rfl) dX0_init_9 (fun _ _ _ _ _ _ h9 => h9.elim) (fun v9 u9 H locs hp hW => ?_)
  obtain ⟨rfl, x, rfl⟩ := hp
  refine W.eq (g2 := F0 m 12 ls [.ref q, .ref h]) rfl ?_
  refine ai_putF (q0 := 0) (ci := 2) (k := 5) (fs := [.int (nI 0), .int (nI 0), .int (nI 0), .null, .null, .null]) C hnm hW ar_in0 tyX0_ok nmX0 rfl rfl (by decide) q103 rfl rfl (tyX0_ok 5 (by decide)) rfl rfl (Nat.le_of_ble_eq_true rfl) dX0_init_12 (fun H locs hW => ?_)
  have hW : ar_W D A s.heap H _ (kNd ct h (q, x)) := hW
  exact ag_vret (u := some (q, x)) C.g hr hW dX0_init_15 ⟨rfl, (q, x), rfl⟩ (by decide) (by decide)
theorem hd_X5_init : yX5_init.cls ≠ "java/lang/invoke/MethodHandle" ∧ yX5_init.cls ≠ "java/lang/invoke/VarHandle" ∧ (parseMethodDescriptor yX5_init.desc).map (fun d => d.parameters.length) = some 0 := by decide +kernel
set_option maxHeartbeats 4000000 in
set_option maxRecDepth 100000 in
theorem c_X5_init {l : Launch} (hl9 : l.stackTraces = false) {D : va_G} {ct : Nat → ClassId} (h : Nat) : ag_M l yX5_init (ar_ws yX5_init cX5_init 1 none) { frames := 1, cells := 1, slots := 40, locals := 20 } 1 40 ai_X D ct (kO (T := Nat) ([(h, .inr (4, [.null, .int (nI 0), .int (nI 0)]))]) (kTx ct h)) [.ref h] none (fun v9 u9 => v9 = none ∧ ∃ x, u9 = some x) (fun _ _ => False) := by
  refine ag_ofW hl9 (by decide) (Nat.le_of_ble_eq_true rfl) ?_
  intro p e s m below meth c A ls C hX hr hnm hW hl
  have hx := C.1
  have hb := C.2.1
  have hown := C.2.2.2.1
  have hts := C.2.2.2.2.1
  have hl : lv_has ls 1 [(0, .ref h)] := hl
  have hW : ar_W D A s.heap s.heap [] [(h, .inr (4, [.null, .int (nI 0), .int (nI 0)]))] := hW
  refine lv_aload_n hx hb dX5_init_0 rfl (lv_at hl 0 rfl) ?_
  refine W.objInit hx hb hown (hts _ q57) (hts _ q27) (hts _ q28) rfl (by rw [C.2.2.1]; exact hl.1) rfl dX5_init_1 (Nat.le_of_ble_eq_true rfl) (Nat.le_of_ble_eq_true rfl) ?_
  refine W.eq (g2 := F0 m 4 ls []) rfl ?_
  refine lv_aload_n hx hb dX5_init_4 rfl (lv_at hl 0 rfl) ?_
  refine lv_bipush (v := nI 40) hx hb dX5_init_5 (by decide) ?_
  refine ai_newa (atype := .char) (ty := .char) (N' := 40) (k := 0) (a0 := (40, .inl iZ)) C hW q68 rfl rfl (fun _ => rfl) (by decide) (by decide) (by decide) (by show _ ≤ 1; omega) (by show _ ≤ 40; omega) dX5_init_7 (fun q H hW => ?_)
  have hW : ar_W D A s.heap H _ ([(h, .inr (4, [.null, .int (nI 0), .int (nI 0)])), (q, .inl (ct 0, 40, .inl iZ))]) := hW
  refine ai_putF (q0 := 0) (ci := 4) (k := 0) (fs := [.null, .int (nI 0), .int (nI 0)]) C hnm hW ar_in5 tyX5_ok nmX5 rfl rfl (by decide) q58 rfl rfl (tyX5_ok 0 (by decide)) rfl rfl (Nat.le_of_ble_eq_true rfl) dX5_init_9 (fun H locs hW => ?_)
  have hW : ar_W D A s.heap H _ (kTx ct h q) := hW
  exact ag_vret (u := some q) C.g hr hW dX5_init_12 ⟨rfl, q, rfl⟩ (by decide) (by decide)
theorem iRow {L : List (Nat × Nat × Nat)} {x : Nat × Nat × Nat} : va_up (fun j => (L[j]?).map (·.1)) L.length (some x.1) = fun j => ((L ++ [x])[j]?).map (·.1) := by
  funext j
  unfold va_up
  by_cases h : j = L.length
  · rw [if_pos h, h, List.getElem?_append_right (Nat.le_refl _), Nat.sub_self]; rfl
  · rw [if_neg h]
    by_cases h2 : j < L.length
    · rw [List.getElem?_append_left h2]
    · show (L[j]?).map (·.1) = ((L ++ [x])[j]?).map (·.1)
      rw [List.getElem?_eq_none (l := L) (by omega), List.getElem?_eq_none (l := L ++ [x]) (by rw [List.length_append]; show L.length + 1 ≤ j; omega)]
theorem iRow2 {L : List (Nat × Nat)} {x : Nat × Nat} : va_up (fun j => (L[j]?).map (·.1)) L.length (some x.1) = fun j => ((L ++ [x])[j]?).map (·.1) := by
  funext j
  unfold va_up
  by_cases h : j = L.length
  · rw [if_pos h, h, List.getElem?_append_right (Nat.le_refl _), Nat.sub_self]; rfl
  · rw [if_neg h]
    by_cases h2 : j < L.length
    · rw [List.getElem?_append_left h2]
    · show (L[j]?).map (·.1) = ((L ++ [x])[j]?).map (·.1)
      rw [List.getElem?_eq_none (l := L) (by omega), List.getElem?_eq_none (l := L ++ [x]) (by rw [List.length_append]; show L.length + 1 ≤ j; omega)]
theorem iFlat {α : Type} {f : α → va_W} {d : Nat} (hf : ∀ x, (f x).length = d) (L : List α) : (L.flatMap f).length = d * L.length := by
  induction L with
  | nil => rfl
  | cons x L ih => rw [List.flatMap_cons, List.length_append, hf, ih, List.length_cons, Nat.mul_succ, Nat.add_comm]
theorem iFlatAt {α : Type} {f : α → va_W} {d : Nat} (hf : ∀ x, (f x).length = d) {r : Nat} (hr : r < d) : ∀ (L : List α) (k : Nat) (x : α), L[k]? = some x → (L.flatMap f)[d * k + r]? = (f x)[r]? := by
  intro L
  induction L with
  | nil => intro k x h; simp at h
  | cons y L ih =>
    intro k x h
    cases k with
    | zero =>
      simp at h
      subst h
      rw [List.flatMap_cons, Nat.mul_zero, Nat.zero_add, List.getElem?_append_left (by rw [hf]; exact hr)]
    | succ k =>
      rw [List.flatMap_cons, List.getElem?_append_right (by rw [hf, Nat.mul_succ]; omega), hf, show d * (k + 1) + r - d = d * k + r by rw [Nat.mul_succ]; omega]
      exact ih k x (by simpa using h)
abbrev kTh (ct : Nat → ClassId) (h r : Nat) (L : List (Nat × Nat × Nat)) : va_W := [(h, .inr (5, [.ref r, .int (nI 0)])), (r, .inl (ct 4, 41, .inr (.inr (.inr (.inr (fun j => (L[j]?).map (·.1)))))))]
abbrev kNs (ct : Nat → ClassId) (L : List (Nat × Nat × Nat)) : va_W := L.flatMap (fun x => kNd ct x.1 x.2)
abbrev kTr (ct : Nat → ClassId) (h : Nat) (x : Nat × List (Nat × Nat × Nat)) : va_W := kTh ct h x.1 x.2 ++ kNs ct x.2
abbrev kVh (ct : Nat → ClassId) (h r : Nat) (L : List (Nat × Nat)) (tx tr : Value) : va_W := [(h, .inr (6, [.ref r, tx, tr, .int (nI 0), .int (nI 0)])), (r, .inl (ct 5, 8, .inr (.inr (.inr (.inr (fun j => (L[j]?).map (·.1)))))))]
abbrev kVs (ct : Nat → ClassId) (L : List (Nat × Nat)) : va_W := L.flatMap (fun x => kNA ct x.1 x.2)
theorem kNs_app {ct : Nat → ClassId} {L : List (Nat × Nat × Nat)} {x : Nat × Nat × Nat} : kNs ct (L ++ [x]) = kNs ct L ++ kNd ct x.1 x.2 := by simp [kNs]
theorem kVs_app {ct : Nat → ClassId} {L : List (Nat × Nat)} {x : Nat × Nat} : kVs ct (L ++ [x]) = kVs ct L ++ kNA ct x.1 x.2 := by simp [kVs]
theorem hd_X6_init : yX6_init.cls ≠ "java/lang/invoke/MethodHandle" ∧ yX6_init.cls ≠ "java/lang/invoke/VarHandle" ∧ (parseMethodDescriptor yX6_init.desc).map (fun d => d.parameters.length) = some 0 := by decide +kernel
set_option maxHeartbeats 4000000 in
set_option maxRecDepth 100000 in
theorem c_X6_init {l : Launch} (hl9 : l.stackTraces = false) {D : va_G} {ct : Nat → ClassId} (h : Nat) : ag_M l yX6_init (ar_ws yX6_init cX6_init 2 none) { frames := 3, cells := 124, slots := 1353, locals := 100 } 124 1353 ai_X D ct (kO (T := Nat × List (Nat × Nat × Nat)) ([(h, .inr (5, [.null, .int (nI 0)]))]) (kTr ct h)) [.ref h] none (fun v9 u9 => v9 = none ∧ ∃ x, u9 = some x ∧ x.2.length = 41) (fun _ _ => False) := by
  refine ag_ofW hl9 (by decide) (Nat.le_of_ble_eq_true rfl) ?_
  intro p e s m below meth c A ls C hX hr hnm hW hl
  have hx := C.1
  have hb := C.2.1
  have hown := C.2.2.2.1
  have hts := C.2.2.2.2.1
  have hl : lv_has ls 2 [(0, .ref h)] := hl
  have hW : ar_W D A s.heap s.heap [] [(h, .inr (5, [.null, .int (nI 0)]))] := hW
  refine lv_aload_n hx hb dX6_init_0 rfl (lv_at hl 0 rfl) ?_
  refine W.objInit hx hb hown (hts _ q74) (hts _ q27) (hts _ q28) rfl (by rw [C.2.2.1]; exact hl.1) rfl dX6_init_1 (Nat.le_of_ble_eq_true rfl) (Nat.le_of_ble_eq_true rfl) ?_
  refine W.eq (g2 := F0 m 4 ls []) rfl ?_
  refine lv_aload_n hx hb dX6_init_4 rfl (lv_at hl 0 rfl) ?_
  refine lv_bipush (v := nI 41) hx hb dX6_init_5 (by decide) ?_
  refine ai_newq (N' := 41) (k := 4) (cK := ct 4) C hW q75 hX.1 rfl (by decide) (by decide) (by decide) (by show _ ≤ 124; omega) (by show _ ≤ 1353; omega) dX6_init_7 (fun r H hW => ?_)
  have hW : ar_W D A s.heap H _ ([(h, .inr (5, [.null, .int (nI 0)])), (r, .inl (ct 4, 41, .inr (.inr (.inr (.inr (fun _ => none))))))]) := hW
  refine ai_putF (q0 := 0) (ci := 5) (k := 0) (fs := [.null, .int (nI 0)]) C hnm hW ar_in6 tyX6_ok nmX6 rfl rfl (by decide) q121 rfl rfl (tyX6_ok 0 (by decide)) rfl rfl (Nat.le_of_ble_eq_true rfl) dX6_init_10 (fun H locs hW => ?_)
  have hW : ar_W D A s.heap H _ (kTh ct h r [] ++ kNs ct []) := hW
  have lp : ∀ (N9 : Nat) (L : List (Nat × Nat × Nat)) (H : Heap) (locs : List Loc) (ls : Array Slot), 41 - L.length < N9 → L.length ≤ 41 → ar_W D A s.heap H locs (kTh ct h r L ++ kNs ct L) → lv_has ls 2 [(1, .int (nI L.length)), (0, .ref h)] → W p l e { frames := 3, cells := 124, slots := 1353, locals := 100 } s m [.ref h].toArray below meth c H locs (1 + 3 * L.length) (41 + 32 * L.length) (ar_E below (ag_Q 124 1353 D ct (kO (T := Nat × List (Nat × Nat × Nat)) ([(h, .inr (5, [.null, .int (nI 0)]))]) (kTr ct h)) A (fun v9 u9 => v9 = none ∧ ∃ x, u9 = some x ∧ x.2.length = 41) (fun _ _ => False)) [.ref h].toArray s) (F0 m 15 ls []) := by
    intro N9
    induction N9 with
    | zero => intro L H locs ls h9; omega
    | succ N9 ih =>
      intro L H locs ls h9 hL hW hl
      refine lv_iload_n hx hb dX6_init_15 rfl (lv_at hl 0 rfl) ?_
      refine lv_bipush (v := nI 41) hx hb dX6_init_16 (by decide) ?_
      refine lv_icmp_ge (tgt := 40) hx hb dX6_init_18 (by decide) (fun h1 => ?_) (fun h1 => ?_)
      · have hL9 : L.length = 41 := by have := (nI_leI (by decide) (by omega)).mp h1; omega
        exact ag_vret (u := some (r, L)) C.g hr hW dX6_init_40 ⟨rfl, (r, L), rfl, hL9⟩ (by omega) (by omega)
      · have hL9 : L.length < 41 := by rcases Nat.lt_or_ge L.length 41 with q | q; exact q; exact absurd (nI_le q (by omega)) h1
        refine lv_aload_n hx hb dX6_init_21 rfl (lv_at hl 1 rfl) ?_
        refine ar_get (q0 := 0) (k := 0) C hW ar_in6 rfl rfl (by decide) q121 rfl dX6_init_22 ?_
        refine lv_iload_n hx hb dX6_init_25 rfl (lv_at hl 0 rfl) ?_
        refine ai_new (ci := 2) (fs := [.int (nI 0), .int (nI 0), .int (nI 0), .null, .null, .null]) C hW ar_in0 tyX0_ok q75 q77 q5 rfl (by decide) (by show _ ≤ 124; omega) (by show _ ≤ 1353; omega) dX6_init_26 (fun q H hW => ?_)
        refine lv_dup hx hb dX6_init_29 rfl ?_
        refine ag_call (rest := [.ref q, .int (nI L.length), .ref r]) (maxL := 1) (u0 := none) (wl := fun u => (kTh ct h r L ++ kNs ct L) ++ kO ([(q, .inr (2, [.int (nI 0), .int (nI 0), .int (nI 0), .null, .null, .null]))]) (kNd ct q) u) C.g hW (ag_frameL ((kTh ct h r L ++ kNs ct L)) (c_X0_init hl9 q)) (ag_stIN (As := []) (b := q) C.g rfl (by decide +kernel) q79 q80 hd_X0_init rfl dX6_init_30) (fun U h9 => hX.warm h9) ⟨Nat.le_of_ble_eq_true rfl, Nat.le_of_ble_eq_true rfl, by show _ + 2 ≤ 124; omega, by show _ + 26 ≤ 1353; omega⟩ (fun w hw => (List.mem_cons.mp hw).elim (fun e => by rw [e]; exact q80) id) (ag_cd hts q80) q5 hl.1 (Nat.le_of_ble_eq_true rfl) dX6_init_30 (fun _ _ _ _ _ _ h9 => h9.elim) (fun v9 u9 H locs hp hW => ?_)
        obtain ⟨rfl, x, rfl⟩ := hp
        refine W.eq (g2 := F0 m 33 ls [.ref q, .int (nI L.length), .ref r]) rfl ?_
        have hpos : (kTh ct h r L ++ kNs ct L ++ kO ([(q, .inr (2, [.int (nI 0), .int (nI 0), .int (nI 0), .null, .null, .null]))]) (kNd ct q) (some x))[3 * L.length + 2]? = some (q, .inr (2, [.int (nI 0), .int (nI 0), .int (nI 0), .null, .null, .ref x.1])) := by
          rw [List.getElem?_append_right (by rw [List.length_append, iFlat (d := 3) (fun _ => rfl)]; show 2 + _ ≤ _; omega), List.length_append, iFlat (d := 3) (fun _ => rfl)]
          rw [show 3 * L.length + 2 - (List.length (kTh ct h r L) + 3 * L.length) = 0 from (by show 3 * L.length + 2 - (2 + 3 * L.length) = 0; omega)]; rfl
        refine va_astq hx hb C.2.2.2.2.2.1 hW.1 hW.2.1 hW.2.2 1 4 (3 * L.length + 2) 2 (r := (RX0, TX0, 6)) rfl rfl hpos rfl (ar_cl (j := L.length) (N := 41) hL9 (by decide)).1 dX6_init_33 (fun H locs h2 h3 h4 => ?_)
        rw [(ar_cl (j := L.length) (N := 41) hL9 (by decide)).2, show some q = some ((q, x) : Nat × Nat × Nat).1 from rfl, iRow] at h2 h3
        have hW : ar_W D A s.heap H locs (kTh ct h r (L ++ [(q, x)]) ++ kNs ct (L ++ [(q, x)])) := by
          refine ⟨?_, ?_, h4⟩
          · rw [kNs_app, ← List.append_assoc]; exact h2
          · rw [kNs_app, ← List.append_assoc]; exact h3
        have hlen9 : (L ++ [(q, x)]).length = L.length + 1 := by simp
        refine lv_iinc (v := nI (L.length + 1)) (lv' := [(1, .int (nI (L.length + 1))), (0, .ref h)]) (k := 0) hx hb dX6_init_34 hl rfl (nI_1 _) (by decide) rfl (fun ls hl => ?_)
        refine lv_goto (tgt := 15) hx hb dX6_init_37 (by decide) ?_
        refine W.widen (k := 1 + 3 * (L ++ [(q, x)]).length) (n := 41 + 32 * (L ++ [(q, x)]).length) (by rw [hlen9]; omega) (by rw [hlen9]; omega) ?_
        exact ih (L ++ [(q, x)]) H locs ls (by rw [hlen9]; omega) (by rw [hlen9]; omega) hW (by rw [hlen9]; exact hl)
  refine lv_iconst (v := nI 0) hx hb dX6_init_13 (by decide) ?_
  refine lv_istore_n (lv' := [(1, .int (nI 0)), (0, .ref h)]) hx hb dX6_init_14 rfl hl (by decide) rfl (fun ls hl => ?_)
  exact lp 42 [] H locs ls (by decide) (by decide) hW hl
/-- the whole of a new ArrayText: its row, the variables, the text, the tree -/
abbrev kAll (ct : Nat → ClassId) (h : Nat) (x : Nat × List (Nat × Nat) × (Nat × Nat) × Nat × Nat × List (Nat × Nat × Nat)) : va_W := ((kVh ct h x.1 x.2.1 (.ref x.2.2.1.1) (.ref x.2.2.2.1) ++ kVs ct x.2.1) ++ kTx ct x.2.2.1.1 x.2.2.1.2) ++ kTr ct x.2.2.2.1 x.2.2.2.2
theorem hd_X8_init : yX8_init.cls ≠ "java/lang/invoke/MethodHandle" ∧ yX8_init.cls ≠ "java/lang/invoke/VarHandle" ∧ (parseMethodDescriptor yX8_init.desc).map (fun d => d.parameters.length) = some 0 := by decide +kernel
set_option maxHeartbeats 4000000 in
set_option maxRecDepth 100000 in
theorem c_X8_init {l : Launch} (hl9 : l.stackTraces = false) {D : va_G} {ct : Nat → ClassId} (h : Nat) : ag_M l yX8_init (ar_ws yX8_init cX8_init 2 none) { frames := 4, cells := 144, slots := 1614, locals := 150 } 144 1614 ai_X D ct (kO (T := Nat × List (Nat × Nat) × (Nat × Nat) × Nat × Nat × List (Nat × Nat × Nat)) ([(h, .inr (6, [.null, .null, .null, .int (nI 0), .int (nI 0)]))]) (kAll ct h)) [.ref h] none (fun v9 u9 => v9 = none ∧ ∃ x, u9 = some x ∧ x.2.1.length = 8 ∧ x.2.2.2.2.2.length = 41) (fun _ _ => False) := by
  refine ag_ofW hl9 (by decide) (Nat.le_of_ble_eq_true rfl) ?_
  intro p e s m below meth c A ls C hX hr hnm hW hl
  have hx := C.1
  have hb := C.2.1
  have hown := C.2.2.2.1
  have hts := C.2.2.2.2.1
  have hl : lv_has ls 2 [(0, .ref h)] := hl
  have hW : ar_W D A s.heap s.heap [] [(h, .inr (6, [.null, .null, .null, .int (nI 0), .int (nI 0)]))] := hW
  refine lv_aload_n hx hb dX8_init_0 rfl (lv_at hl 0 rfl) ?_
  refine W.objInit hx hb hown (hts _ q26) (hts _ q27) (hts _ q28) rfl (by rw [C.2.2.1]; exact hl.1) rfl dX8_init_1 (Nat.le_of_ble_eq_true rfl) (Nat.le_of_ble_eq_true rfl) ?_
  refine W.eq (g2 := F0 m 4 ls []) rfl ?_
  refine lv_aload_n hx hb dX8_init_4 rfl (lv_at hl 0 rfl) ?_
  refine lv_bipush (v := nI 8) hx hb dX8_init_5 (by decide) ?_
  refine ai_newq (N' := 8) (k := 5) (cK := ct 5) C hW q29 hX.2 rfl (by decide) (by decide) (by decide) (by show _ ≤ 144; omega) (by show _ ≤ 1614; omega) dX8_init_7 (fun r H hW => ?_)
  have hW : ar_W D A s.heap H _ ([(h, .inr (6, [.null, .null, .null, .int (nI 0), .int (nI 0)])), (r, .inl (ct 5, 8, .inr (.inr (.inr (.inr (fun _ => none))))))]) := hW
  refine ai_putF (q0 := 0) (ci := 6) (k := 0) (fs := [.null, .null, .null, .int (nI 0), .int (nI 0)]) C hnm hW ar_in8 tyX8_ok nmX8 rfl rfl (by decide) q132 rfl rfl (tyX8_ok 0 (by decide)) rfl rfl (Nat.le_of_ble_eq_true rfl) dX8_init_10 (fun H locs hW => ?_)
  have hW : ar_W D A s.heap H _ (kVh ct h r [] .null .null ++ kVs ct []) := hW
  have lp : ∀ (N9 : Nat) (L : List (Nat × Nat)) (H : Heap) (locs : List Loc) (ls : Array Slot), 8 - L.length < N9 → L.length ≤ 8 → ar_W D A s.heap H locs (kVh ct h r L .null .null ++ kVs ct L) → lv_has ls 2 [(1, .int (nI L.length)), (0, .ref h)] → W p l e { frames := 4, cells := 144, slots := 1614, locals := 150 } s m [.ref h].toArray below meth c H locs (1 + 2 * L.length) (8 + 26 * L.length) (ar_E below (ag_Q 144 1614 D ct (kO (T := Nat × List (Nat × Nat) × (Nat × Nat) × Nat × Nat × List (Nat × Nat × Nat)) ([(h, .inr (6, [.null, .null, .null, .int (nI 0), .int (nI 0)]))]) (kAll ct h)) A (fun v9 u9 => v9 = none ∧ ∃ x, u9 = some x ∧ x.2.1.length = 8 ∧ x.2.2.2.2.2.length = 41) (fun _ _ => False)) [.ref h].toArray s) (F0 m 15 ls []) := by
    intro N9
    induction N9 with
    | zero => intro L H locs ls h9; omega
    | succ N9 ih =>
      intro L H locs ls h9 hL hW hl
      refine lv_iload_n hx hb dX8_init_15 rfl (lv_at hl 0 rfl) ?_
      refine lv_bipush (v := nI 8) hx hb dX8_init_16 (by decide) ?_
      refine lv_icmp_ge (tgt := 40) hx hb dX8_init_18 (by decide) (fun h1 => ?_) (fun h1 => ?_)
      · have hL9 : L.length = 8 := by have := (nI_leI (by decide) (by omega)).mp h1; omega
        refine lv_aload_n hx hb dX8_init_40 rfl (lv_at hl 1 rfl) ?_
        refine ai_new (ci := 4) (fs := [.null, .int (nI 0), .int (nI 0)]) C hW ar_in5 tyX5_ok q52 q53 q3 rfl (by decide) (by show _ ≤ 144; omega) (by show _ ≤ 1614; omega) dX8_init_41 (fun q H hW => ?_)
        refine lv_dup hx hb dX8_init_44 rfl ?_
        refine ag_call (rest := [.ref q, .ref h]) (maxL := 1) (u0 := none) (wl := fun u => (kVh ct h r L .null .null ++ kVs ct L) ++ kO ([(q, .inr (4, [.null, .int (nI 0), .int (nI 0)]))]) (kTx ct q) u) C.g hW (ag_frameL ((kVh ct h r L .null .null ++ kVs ct L)) (c_X5_init hl9 q)) (ag_stIN (As := []) (b := q) C.g rfl (by decide +kernel) q55 q56 hd_X5_init rfl dX8_init_45) (fun U h9 => hX.warm h9) ⟨Nat.le_of_ble_eq_true rfl, Nat.le_of_ble_eq_true rfl, by show _ + 1 ≤ 144; omega, by show _ + 40 ≤ 1614; omega⟩ (fun w hw => (List.mem_cons.mp hw).elim (fun e => by rw [e]; exact q56) id) (ag_cd hts q56) q3 hl.1 (Nat.le_of_ble_eq_true rfl) dX8_init_45 (fun _ _ _ _ _ _ h9 => h9.elim) (fun v9 u9 H locs hp hW => ?_)
        obtain ⟨rfl, x, rfl⟩ := hp
        refine W.eq (g2 := F0 m 48 ls [.ref q, .ref h]) rfl ?_
        refine ai_putF (q0 := 0) (ci := 6) (k := 1) (fs := [.ref r, .null, .null, .int (nI 0), .int (nI 0)]) C hnm hW ar_in8 tyX8_ok nmX8 rfl rfl (by decide) q133 rfl rfl (tyX8_ok 1 (by decide)) rfl rfl (Nat.le_of_ble_eq_true rfl) dX8_init_48 (fun H locs hW => ?_)
        have hW : ar_W D A s.heap H _ ((kVh ct h r L (.ref q) .null ++ kVs ct L) ++ kTx ct q x) := hW
        refine lv_aload_n hx hb dX8_init_51 rfl (lv_at hl 1 rfl) ?_
        refine ai_new (ci := 5) (fs := [.null, .int (nI 0)]) C hW ar_in6 tyX6_ok q69 q70 q4 rfl (by decide) (by show _ ≤ 144; omega) (by show _ ≤ 1614; omega) dX8_init_52 (fun q2 H hW => ?_)
        refine lv_dup hx hb dX8_init_55 rfl ?_
        refine ag_call (rest := [.ref q2, .ref h]) (maxL := 2) (u0 := none) (wl := fun u => ((kVh ct h r L (.ref q) .null ++ kVs ct L) ++ kTx ct q x) ++ kO ([(q2, .inr (5, [.null, .int (nI 0)]))]) (kTr ct q2) u) C.g hW (ag_frameL (((kVh ct h r L (.ref q) .null ++ kVs ct L) ++ kTx ct q x)) (c_X6_init hl9 q2)) (ag_stI (As := []) (b := q2) C.g rfl q71 q72 q73 hd_X6_init rfl dX8_init_56) (fun U h9 => hX.warm h9) ⟨Nat.le_of_ble_eq_true rfl, Nat.le_of_ble_eq_true rfl, by show _ + 124 ≤ 144; omega, by show _ + 1353 ≤ 1614; omega⟩ (fun w hw => (List.mem_cons.mp hw).elim (fun e => by rw [e]; exact q73) id) (ag_cd hts q73) q4 hl.1 (Nat.le_of_ble_eq_true rfl) dX8_init_56 (fun _ _ _ _ _ _ h9 => h9.elim) (fun v9 u9 H locs hp hW => ?_)
        obtain ⟨rfl, y, rfl, hy⟩ := hp
        refine W.eq (g2 := F0 m 59 ls [.ref q2, .ref h]) rfl ?_
        refine ai_putF (q0 := 0) (ci := 6) (k := 2) (fs := [.ref r, .ref q, .null, .int (nI 0), .int (nI 0)]) C hnm hW ar_in8 tyX8_ok nmX8 rfl rfl (by decide) q134 rfl rfl (tyX8_ok 2 (by decide)) rfl rfl (Nat.le_of_ble_eq_true rfl) dX8_init_59 (fun H locs hW => ?_)
        have hW : ar_W D A s.heap H _ (((kVh ct h r L (.ref q) (.ref q2) ++ kVs ct L) ++ kTx ct q x) ++ kTr ct q2 y) := hW
        exact ag_vret (u := some (r, L, (q, x), q2, y)) C.g hr hW dX8_init_62 ⟨rfl, (r, L, (q, x), q2, y), rfl, hL9, hy⟩ (by omega) (by omega)
      · have hL9 : L.length < 8 := by rcases Nat.lt_or_ge L.length 8 with q | q; exact q; exact absurd (nI_le q (by omega)) h1
        refine lv_aload_n hx hb dX8_init_21 rfl (lv_at hl 1 rfl) ?_
        refine ar_get (q0 := 0) (k := 0) C hW ar_in8 rfl rfl (by decide) q132 rfl dX8_init_22 ?_
        refine lv_iload_n hx hb dX8_init_25 rfl (lv_at hl 0 rfl) ?_
        refine ai_new (ci := 3) (fs := [.int (nI 0), .null]) C hW ar_in1 tyX1_ok q29 q31 q2 rfl (by decide) (by show _ ≤ 144; omega) (by show _ ≤ 1614; omega) dX8_init_26 (fun q H hW => ?_)
        refine lv_dup hx hb dX8_init_29 rfl ?_
        refine ag_call (rest := [.ref q, .int (nI L.length), .ref r]) (maxL := 1) (u0 := none) (wl := fun u => (kVh ct h r L .null .null ++ kVs ct L) ++ kO ([(q, .inr (3, [.int (nI 0), .null]))]) (kNA ct q) u) C.g hW (ag_frameL ((kVh ct h r L .null .null ++ kVs ct L)) (c_X1_init hl9 q)) (ag_stIN (As := []) (b := q) C.g rfl (by decide +kernel) q33 q34 hd_X1_init rfl dX8_init_30) (fun U h9 => hX.warm h9) ⟨Nat.le_of_ble_eq_true rfl, Nat.le_of_ble_eq_true rfl, by show _ + 1 ≤ 144; omega, by show _ + 24 ≤ 1614; omega⟩ (fun w hw => (List.mem_cons.mp hw).elim (fun e => by rw [e]; exact q34) id) (ag_cd hts q34) q2 hl.1 (Nat.le_of_ble_eq_true rfl) dX8_init_30 (fun _ _ _ _ _ _ h9 => h9.elim) (fun v9 u9 H locs hp hW => ?_)
        obtain ⟨rfl, x, rfl⟩ := hp
        refine W.eq (g2 := F0 m 33 ls [.ref q, .int (nI L.length), .ref r]) rfl ?_
        have hpos : (kVh ct h r L .null .null ++ kVs ct L ++ kO ([(q, .inr (3, [.int (nI 0), .null]))]) (kNA ct q) (some x))[2 * L.length + 2]? = some (q, .inr (3, [.int (nI 0), .ref x])) := by
          rw [List.getElem?_append_right (by rw [List.length_append, iFlat (d := 2) (fun _ => rfl)]; show 2 + _ ≤ _; omega), List.length_append, iFlat (d := 2) (fun _ => rfl)]
          rw [show 2 * L.length + 2 - (List.length (kVh ct h r L .null .null) + 2 * L.length) = 0 from (by show 2 * L.length + 2 - (2 + 2 * L.length) = 0; omega)]; rfl
        refine va_astq hx hb C.2.2.2.2.2.1 hW.1 hW.2.1 hW.2.2 1 5 (2 * L.length + 2) 3 (r := (RX1, TX1, 2)) rfl rfl hpos rfl (ar_cl (j := L.length) (N := 8) hL9 (by decide)).1 dX8_init_33 (fun H locs h2 h3 h4 => ?_)
        rw [(ar_cl (j := L.length) (N := 8) hL9 (by decide)).2, show some q = some ((q, x) : Nat × Nat).1 from rfl, iRow2] at h2 h3
        have hW : ar_W D A s.heap H locs (kVh ct h r (L ++ [(q, x)]) .null .null ++ kVs ct (L ++ [(q, x)])) := by
          refine ⟨?_, ?_, h4⟩
          · rw [kVs_app, ← List.append_assoc]; exact h2
          · rw [kVs_app, ← List.append_assoc]; exact h3
        have hlen9 : (L ++ [(q, x)]).length = L.length + 1 := by simp
        refine lv_iinc (v := nI (L.length + 1)) (lv' := [(1, .int (nI (L.length + 1))), (0, .ref h)]) (k := 0) hx hb dX8_init_34 hl rfl (nI_1 _) (by decide) rfl (fun ls hl => ?_)
        refine lv_goto (tgt := 15) hx hb dX8_init_37 (by decide) ?_
        refine W.widen (k := 1 + 2 * (L ++ [(q, x)]).length) (n := 8 + 26 * (L ++ [(q, x)]).length) (by rw [hlen9]; omega) (by rw [hlen9]; omega) ?_
        exact ih (L ++ [(q, x)]) H locs ls (by rw [hlen9]; omega) (by rw [hlen9]; omega) hW (by rw [hlen9]; exact hl)
  refine lv_iconst (v := nI 0) hx hb dX8_init_13 (by decide) ?_
  refine lv_istore_n (lv' := [(1, .int (nI 0)), (0, .ref h)]) hx hb dX8_init_14 rfl hl (by decide) rfl (fun ls hl => ?_)
  exact lp 9 [] H locs ls (by decide) (by decide) hW hl
