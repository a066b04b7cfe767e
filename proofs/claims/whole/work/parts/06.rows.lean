section AR4
variable {p : Program} {l : Launch} {e : Env} {s : State} {m : MethodId} {args : Array Value} {below : List Frame} {meth : Method} {c : Code} {H : Heap} {locs : List Loc} {cc : ByteArray} {n : Nat} {own : String} {D : va_G} {ct : Nat → ClassId} {A : Nat → Prop}
variable {S : Type} {wl : S → va_W} {Post : Option Value → S → Prop} {PX : String → S → Prop} {pc f k : Nat} {ls : Array Slot} {rest st0 : List Value} {Q : State → Prop}
/-- thrown over this frame: it goes on to the caller -/
theorem ar_out {E : String} {ce : Cell} {q : Addr} {u : S} {R : Room} (C : ar_C p l s m meth c cc n own args D ct A) (hW : ar_W D A s.heap H locs (wl u)) (h1 : H[q]? = some ce) (h2 : ce.vm = .none) (h3 : s.vm.findClass E = some ce.cls) (hp : PX E u) :
    vx_W p l e R s m args below meth c H locs 1 6 (ar_E below (ar_Q D ct wl A Post PX) args s) (F0 m pc ls rest) q := by
  obtain ⟨hx, hb, hml, hown, hts, hK, hV, hH, hA, hlocks, htab, hl⟩ := C
  intro T hT X
  obtain ⟨t, a1, o, b1, b2, b3⟩ := vx_out (Qc := fun _ _ _ _ => False) (XC := fun E9 st t => E9 = E ∧ s.vm.Alike t.vm ∧ t.heap = H) (free := A) (mc := 1) (ms := 6) (pc := pc) (ls := ls) (rest := rest) (fun x hx => (htab x hx).elim) hlocks h1 h2 h3 (fun t h1 h2 => ⟨rfl, h2, h1⟩) hW.2.2.2.2 (Nat.le_refl _) (Nat.le_refl _) T hT X
  refine ⟨t, a1, o, b1, b2, ?_⟩
  rcases b3 with ⟨b3, -⟩ | ⟨q9, h4, E9, ce9, L, ⟨rfl, g1, g2⟩, h5, h6, h7, h8, h9, h10⟩
  · exact b3.elim
  · exact Or.inr ⟨q9, E9, ce9, u, h4, hp, ⟨by rw [g2]; exact hW.1, va_K.moved g1 hK, hW.2.1⟩, hW.2.2.F g2, h5, h6, h7, h8, L, h9, h10⟩
theorem ar_pre {u0 : S} {U : State} (C : ar_C p l s m meth c cc n own args D ct A) (hW : ar_W D A s.heap H locs (wl u0)) (hU : U.heap = H) (hvm : s.WarmedH U.vm) : ar_P D ct (wl u0) H.size U := by
  obtain ⟨hx, hb, hml, hown, hts, hK, hV, hH, hA, hlocks, htab, hl⟩ := C
  refine ⟨by rw [hU], by rw [hU]; exact hW.1, va_K.moved hvm.alike hK, hW.2.1.weaken (fun _ _ _ _ => trivial), hV.warm hvm, ?_⟩
  rw [hU]
  exact ((hH.kept hW.2.2.2.1).moved hvm.alike).narrow (ar_free hW hA)
/-- a call done: what comes behind it -/
theorem ar_fin {u0 : S} {y : MethodName} {Post9 : Option Value → S → Prop} {PX9 : String → S → Prop} {T : State} (C : ar_C p l s m meth c cc n own args D ct A) (hW : ar_W D A s.heap H locs (wl u0))
    (hB : ar_Bk p l e (ar_rm f k) s m args below meth c H locs D ct wl (va_A (wl u0) H.size) Post9 PX9 T (F0 m pc ls rest)) {T0 : State} (hst : ∀ t, Steps p.tables e below T t → Steps p.tables e below T0 t)
    (kx : ∀ (E : String) (ce : Cell) (q : Addr) (u : S) (H1 : Heap) (locs1 : List Loc), PX9 E u → ar_W D A s.heap H1 locs1 (wl u) → H1[q]? = some ce → ce.vm = .none → s.vm.findClass E = some ce.cls → vx_W p l e (ar_rm f k) s m args below meth c H1 locs1 1 6 Q (F0 m pc ls rest) q)
    (kk : ∀ (v : Option Value) (u : S) (H1 : Heap) (locs1 : List Loc), Post9 v u → ar_W D A s.heap H1 locs1 (wl u) → W p l e (ar_rm f k) s m args below meth c H1 locs1 0 0 Q (F0 m (pc + 3) ls (v.toList ++ rest))) : ∃ t, Steps p.tables e below T0 t ∧ Q t := by
  have hfr := ar_free hW C.2.2.2.2.2.2.2.2.1
  have hWn : ∀ (u : S) (t : State) (L : List Loc), ar_B D ct (wl u) (va_A (wl u0) H.size) t → H.size ≤ t.heap.size → (∀ q : Nat, q < H.size → ¬ va_A (wl u0) H.size q → t.heap[q]? = H[q]?) → (∀ q ∈ L, va_A (wl u0) H.size q.base) → ar_W D A s.heap t.heap (locs ++ L) (wl u) := by
    intro u t L b1 b2 b3 b4
    refine ⟨b1.1, b1.2.2.weaken (fun k q _ h => hfr _ h), Nat.le_trans hW.2.2.1 b2, fun q h1 h2 => ?_, fun q hq => ?_⟩
    · rw [b3 q (Nat.lt_of_lt_of_le h1 hW.2.2.1) (fun z => h2 (hfr q z))]
      exact hW.2.2.2.1 q h1 h2
    · rcases List.mem_append.mp hq with h | h
      · exact hW.2.2.2.2 q h
      · exact hfr _ (b4 q h)
  rcases hB with ⟨v, u, t, T', L, X', hL, e1, hp, hB9, hal, hz, hkp, st⟩ | ⟨q, E, ce, u, t, T', L, X', hL, e1, hp, hB9, hal, hz, hkp, hce, hcv, hcl, st⟩
  · obtain ⟨t2, a1, b1⟩ := kk v u t.heap (locs ++ L) hp (hWn u t L hB9 hz hkp hL) T' e1 X'
    exact ⟨t2, hst _ (st.trans a1), b1⟩
  · obtain ⟨t2, a1, b1⟩ := kx E ce q u t.heap (locs ++ L) hp (hWn u t L hB9 hz hkp hL) hce hcv hcl T' e1 X'
    exact ⟨t2, hst _ (st.trans a1), b1⟩
/-- a static call -/
theorem ar_callS {u0 : S} {y : MethodName} {bytes : ByteArray} {maxL f9 k9 index : Nat} {ret : Option FieldType} {As : List Value} {Post9 : Option Value → S → Prop} {PX9 : String → S → Prop} (C : ar_C p l s m meth c cc n own args D ct A) (hW : ar_W D A s.heap H locs (wl u0)) (hM : ar_M l y bytes maxL ret f9 k9 D ct wl As u0 Post9 PX9)
    (q1 : Cond.methodLink own index y ∈ lw_all) (q2 : Cond.static y ∈ lw_all) (q3 : Cond.initialized y.cls ∈ lw_all) (q4 : Cond.code y bytes maxL ret ∈ lw_all)
    (hd : y.cls ≠ "java/lang/invoke/MethodHandle" ∧ y.cls ≠ "java/lang/invoke/VarHandle" ∧ (parseMethodDescriptor y.desc).map (fun d => d.parameters.length) = some As.length) (hR : f9 + 1 ≤ f ∧ 8 + (maxL + 11) + k9 ≤ k) (hls : ls.size = n) (hrest : (rest.map fun v => v.category).sum ≤ 8) (hst : st0 = As.reverse ++ rest) (hdg : decode cc pc = .ok (.invokestatic index, 3))
    (kx : ∀ (E : String) (ce : Cell) (q : Addr) (u : S) (H1 : Heap) (locs1 : List Loc), PX9 E u → ar_W D A s.heap H1 locs1 (wl u) → H1[q]? = some ce → ce.vm = .none → s.vm.findClass E = some ce.cls → vx_W p l e (ar_rm f k) s m args below meth c H1 locs1 1 6 Q (F0 m pc ls rest) q)
    (kk : ∀ (v : Option Value) (u : S) (H1 : Heap) (locs1 : List Loc), Post9 v u → ar_W D A s.heap H1 locs1 (wl u) → W p l e (ar_rm f k) s m args below meth c H1 locs1 0 0 Q (F0 m (pc + 3) ls (v.toList ++ rest))) : W p l e (ar_rm f k) s m args below meth c H locs 0 0 Q (F0 m pc ls st0) := by
  obtain ⟨hx, hb, hml, hown, hts, hK, hV, hH, hA, hlocks, htab, hl⟩ := id C
  intro T hT X
  have hcode := hts _ q4
  obtain ⟨mk, hnamed⟩ := Cond.code_named hcode
  obtain ⟨methM, cM, hmethM, -, -, -, -, -, -, hsigM⟩ := Cond.code_spec hnamed hcode
  have hstatic : methM.isStatic = true := Cond.static_spec hnamed hmethM (hts _ q2)
  obtain ⟨kP, hkP, -⟩ := className_of_methodNamed hnamed
  have hinitP : kP.init = .initialized := Cond.initialized_spec (findClass_of_methodNamed hnamed) hkP (hts _ q3)
  have hlen : As.length = methM.sig.parameters.length := by
    have h2 := hd.2.2
    rw [hsigM] at h2
    exact (Option.some.inj h2).symm
  obtain ⟨vm₁, X₁, hstep₁⟩ := X.invokestatic hx hown (hts _ q1) hnamed hmethM hstatic hkP hinitP ⟨hd.1, hd.2.1⟩ (g := F0 m pc ls st0) rfl (argsL := As) (rest := rest) hlen hst (by rw [hb]; exact hdg)
  have hB := ar_back (R := ar_rm f k) (hM H.size) hR.1 hR.2 (Nat.le_refl _) (Nat.le_refl _) hts q4 q3 X₁ (ar_pre C hW (U := T.setVm vm₁) hT X₁.warmed) (g := F0 m pc ls rest) (ig := .invokestatic index) (mk := mk) rfl (hls.trans hml.symm) (by rw [hb]; exact hdg) (by show 2 * 0 + (rest.map fun v => v.category).sum ≤ 8; omega) (X₁.named hnamed)
  rw [show (T.setVm vm₁).heap = H from hT] at hB
  exact ar_fin (y := y) C hW hB (fun t h => hstep₁ _ fun acts => by rw [doInvoke_state]; exact h) kx kk
/-- a static call of a nest mate's private method -/
theorem ar_callN {u0 : S} {y : MethodName} {bytes : ByteArray} {maxL f9 k9 index : Nat} {ret : Option FieldType} {As : List Value} {Post9 : Option Value → S → Prop} {PX9 : String → S → Prop} (C : ar_C p l s m meth c cc n own args D ct A) (hW : ar_W D A s.heap H locs (wl u0)) (hM : ar_M l y bytes maxL ret f9 k9 D ct wl As u0 Post9 PX9)
    (q1 : (own, index, y) ∈ ar_nests) (q2 : Cond.static y ∈ lw_all) (q3 : Cond.initialized y.cls ∈ lw_all) (q4 : Cond.code y bytes maxL ret ∈ lw_all)
    (hd : y.cls ≠ "java/lang/invoke/MethodHandle" ∧ y.cls ≠ "java/lang/invoke/VarHandle" ∧ (parseMethodDescriptor y.desc).map (fun d => d.parameters.length) = some As.length) (hR : f9 + 1 ≤ f ∧ 8 + (maxL + 11) + k9 ≤ k) (hls : ls.size = n) (hrest : (rest.map fun v => v.category).sum ≤ 8) (hst : st0 = As.reverse ++ rest) (hdg : decode cc pc = .ok (.invokestatic index, 3))
    (kx : ∀ (E : String) (ce : Cell) (q : Addr) (u : S) (H1 : Heap) (locs1 : List Loc), PX9 E u → ar_W D A s.heap H1 locs1 (wl u) → H1[q]? = some ce → ce.vm = .none → s.vm.findClass E = some ce.cls → vx_W p l e (ar_rm f k) s m args below meth c H1 locs1 1 6 Q (F0 m pc ls rest) q)
    (kk : ∀ (v : Option Value) (u : S) (H1 : Heap) (locs1 : List Loc), Post9 v u → ar_W D A s.heap H1 locs1 (wl u) → W p l e (ar_rm f k) s m args below meth c H1 locs1 0 0 Q (F0 m (pc + 3) ls (v.toList ++ rest))) : W p l e (ar_rm f k) s m args below meth c H locs 0 0 Q (F0 m pc ls st0) := by
  obtain ⟨hx, hb, hml, hown, hts, hK, hV, hH, hA, hlocks, htab, hl⟩ := id C
  intro T hT X
  have hcode := hts _ q4
  obtain ⟨mk, hnamed⟩ := Cond.code_named hcode
  obtain ⟨methM, cM, hmethM, -, -, -, -, -, -, hsigM⟩ := Cond.code_spec hnamed hcode
  have hstatic : methM.isStatic = true := Cond.static_spec hnamed hmethM (hts _ q2)
  obtain ⟨kP, hkP, -⟩ := className_of_methodNamed hnamed
  have hinitP : kP.init = .initialized := Cond.initialized_spec (findClass_of_methodNamed hnamed) hkP (hts _ q3)
  have hlen : As.length = methM.sig.parameters.length := by
    have h2 := hd.2.2
    rw [hsigM] at h2
    exact (Option.some.inj h2).symm
  obtain ⟨vm₁, X₁, hstep₁⟩ := X.invokestaticNest hx hown (va_Nw.use rfl (hV.1 _ q1)) hnamed hmethM hstatic hkP hinitP ⟨hd.1, hd.2.1⟩ (g := F0 m pc ls st0) rfl (argsL := As) (rest := rest) hlen hst (by rw [hb]; exact hdg)
  have hB := ar_back (R := ar_rm f k) (hM H.size) hR.1 hR.2 (Nat.le_refl _) (Nat.le_refl _) hts q4 q3 X₁ (ar_pre C hW (U := T.setVm vm₁) hT X₁.warmed) (g := F0 m pc ls rest) (ig := .invokestatic index) (mk := mk) rfl (hls.trans hml.symm) (by rw [hb]; exact hdg) (by show 2 * 0 + (rest.map fun v => v.category).sum ≤ 8; omega) (X₁.named hnamed)
  rw [show (T.setVm vm₁).heap = H from hT] at hB
  exact ar_fin (y := y) C hW hB (fun t h => hstep₁ _ fun acts => by rw [doInvoke_state]; exact h) kx kk
/-- a call on an object of the method's own class -/
theorem ar_callV {u0 : S} {y : MethodName} {bytes : ByteArray} {maxL f9 k9 index b q0 ci N9 : Nat} {T9 : u_T} {fs : List Value} {ret : Option FieldType} {As : List Value} {Post9 : Option Value → S → Prop} {PX9 : String → S → Prop} (C : ar_C p l s m meth c cc n own args D ct A) (hW : ar_W D A s.heap H locs (wl u0)) (hM : ar_M l y bytes maxL ret f9 k9 D ct wl (.ref b :: As) u0 Post9 PX9)
    (he : (wl u0)[q0]? = some (b, .inr (ci, fs))) (hc9 : vwCl[ci]? = some (y.cls, T9, N9))
    (q1 : Cond.methodLink own index y ∈ lw_all) (q2 : Cond.instanceMethod y ∈ lw_all) (q5 : Cond.selects y.cls y y ∈ lw_all) (q3 : Cond.initialized y.cls ∈ lw_all) (q4 : Cond.code y bytes maxL ret ∈ lw_all)
    (hd : y.cls ≠ "java/lang/invoke/MethodHandle" ∧ y.cls ≠ "java/lang/invoke/VarHandle" ∧ (parseMethodDescriptor y.desc).map (fun d => d.parameters.length) = some As.length) (hR : f9 + 1 ≤ f ∧ 8 + (maxL + 11) + k9 ≤ k) (hls : ls.size = n) (hrest : (rest.map fun v => v.category).sum ≤ 8) (hst : st0 = As.reverse ++ .ref b :: rest) (hdg : decode cc pc = .ok (.invokevirtual index, 3))
    (kx : ∀ (E : String) (ce : Cell) (q : Addr) (u : S) (H1 : Heap) (locs1 : List Loc), PX9 E u → ar_W D A s.heap H1 locs1 (wl u) → H1[q]? = some ce → ce.vm = .none → s.vm.findClass E = some ce.cls → vx_W p l e (ar_rm f k) s m args below meth c H1 locs1 1 6 Q (F0 m pc ls rest) q)
    (kk : ∀ (v : Option Value) (u : S) (H1 : Heap) (locs1 : List Loc), Post9 v u → ar_W D A s.heap H1 locs1 (wl u) → W p l e (ar_rm f k) s m args below meth c H1 locs1 0 0 Q (F0 m (pc + 3) ls (v.toList ++ rest))) : W p l e (ar_rm f k) s m args below meth c H locs 0 0 Q (F0 m pc ls st0) := by
  obtain ⟨hx, hb, hml, hown, hts, hK, hV, hH, hA, hlocks, htab, hl⟩ := id C
  intro T hT X
  obtain ⟨cellB, hcB, hobj, hcls⟩ := va_recv hK hW.1 hc9 he
  have hcode := hts _ q4
  obtain ⟨mk, methM, hnamed, hmethM, hstM, habM⟩ := Cond.instanceMethod_spec (hts _ q2)
  obtain ⟨methM', cM, hmethM', -, -, -, -, -, -, hsigM⟩ := Cond.code_spec hnamed hcode
  cases hmethM.symm.trans hmethM'
  obtain ⟨c2, r2, m2, z1, z2, z3, z4, kP, hkP, hkPi⟩ := Cond.selects_spec (hts _ q5)
  cases hcls.symm.trans z1
  cases (State.methodFound?_of_named hnamed ⟨hd.1, hd.2.1⟩).symm.trans z2
  cases hnamed.symm.trans z3
  have hselP : selectMethod e.platform s.vm cellB.cls mk = .method mk := by rw [Launch.admits_selectMethod X.admits]; exact z4
  have hlen : As.length = methM.sig.parameters.length := by
    have h2 := hd.2.2
    rw [hsigM] at h2
    exact (Option.some.inj h2).symm
  obtain ⟨vm₁, X₁, hstep₁⟩ := X.invokevirtual hx hown (hts _ q1) hnamed hmethM hstM hkP hkPi ⟨hd.1, hd.2.1⟩ (a := b) (cell := cellB) (by rw [hT]; exact hcB)
    (fun z h => by rw [h] at hobj; cases hobj) hselP hmethM habM hkP hkPi (g := F0 m pc ls st0) rfl (argsL := As) (rest := rest) hlen hst (by rw [hb]; exact hdg)
  have hB := ar_back (R := ar_rm f k) (hM H.size) hR.1 hR.2 (Nat.le_refl _) (Nat.le_refl _) hts q4 q3 X₁ (ar_pre C hW (U := T.setVm vm₁) hT X₁.warmed) (g := F0 m pc ls rest) (ig := .invokevirtual index) (mk := mk) rfl (hls.trans hml.symm) (by rw [hb]; exact hdg) (by show 2 * 0 + (rest.map fun v => v.category).sum ≤ 8; omega) (X₁.named hnamed)
  rw [show (T.setVm vm₁).heap = H from hT] at hB
  exact ar_fin (y := y) C hW hB (fun t h => hstep₁ _ fun acts => by rw [doInvoke_state]; exact h) kx kk
end AR4
