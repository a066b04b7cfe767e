/-! throws and calls -/
abbrev ar_up : List String := ["java/lang/RuntimeException", "java/lang/Exception"]
theorem ar_in {L : List Cond} (h : ∀ w ∈ L.filter goodWord, w ∈ lw_tbl) : ∀ w ∈ L.filter goodWord, w ∈ lw_all := fun w hw => List.mem_filter.mpr ⟨h w hw, (List.mem_filter.mp hw).2⟩
/-- what a throw of 'cls' in 'own' asks of the tables -/
def ar_X (own : String) (ik is ic : Nat) (cls text : String) : Prop := Cond.classLink own ik cls ∈ lw_all ∧ Cond.initialized cls ∈ lw_all ∧ (∀ w ∈ (vx_atS own ic cls ar_up).filter goodWord, w ∈ lw_tbl) ∧ (∀ w ∈ (vx_atS own ic cls ar_up).filter (fun w => !goodWord w), w ∈ Cond.castable cls cls :: ar_decls.map Cond.declares) ∧ (∀ w ∈ Cond.classLink own ik cls :: Cond.initialized cls :: vx_atS own ic cls ar_up, vx_ot w = true) ∧ (own, is, text) ∈ ar_texts ∧ (cls, cls) ∈ ar_casts ∧ Bundle.fit cls = true
set_option maxRecDepth 20000 in
theorem ar_X_add : ar_X "ArrayText$Tree" 22 24 26 "java/lang/IllegalArgumentException" "more parts than a text can hold" := ⟨by decide +kernel, by decide +kernel, by decide +kernel, by decide +kernel, by decide +kernel, by decide +kernel, by decide +kernel, by decide +kernel⟩
section AR2
variable {p : Program} {l : Launch} {e : Env} {s : State} {m : MethodId} {args : Array Value} {below : List Frame} {meth : Method} {c : Code} {H : Heap} {locs : List Loc} {cc : ByteArray} {n : Nat} {own : String} {D : va_G} {ct : Nat → ClassId} {A : Nat → Prop}
variable {S : Type} {wl : S → va_W} {Post : Option Value → S → Prop} {PX : String → S → Prop} {pc : Nat} {ls : Array Slot}
theorem ar_throw {cls text : String} {ik is ic f k : Nat} {rest : List Value} {u : S} (C : ar_C p l s m meth c cc n own args D ct A) (hW : ar_W D A s.heap H locs (wl u)) (hX : ar_X own ik is ic cls text) (hsize : ls.size = n)
    (d0 : decode cc pc = .ok (.new ik, 3)) (d3 : decode cc (pc + 3) = .ok (.dup, 1)) (d4 : decode cc (pc + 4) = .ok (.ldc is, 2)) (d6 : decode cc (pc + 6) = .ok (.invokespecial ic, 3)) (d9 : decode cc (pc + 9) = .ok (.athrow, 1))
    (hf : 6 ≤ f) (hk9 : (rest.map fun v => v.category).sum + 82 ≤ k) (hp : PX cls u) :
    W p l e (ar_rm f k) s m args below meth c H locs 0 0 (ar_E below (ar_Q D ct wl A Post PX) args s) (F0 m pc ls rest) := by
  obtain ⟨hx, hb, hml, hown, hts, hK, hV, hH, hA, hlocks, htab, hl⟩ := C
  obtain ⟨x1, x2, x3, x4, x5, x6, x7, x8⟩ := hX
  obtain ⟨sa, hsa⟩ := hV.2.2.1 _ x6
  have hat : ∀ w ∈ vx_atS own ic cls ar_up, w.before args s = true := vx_hat (fun w hw => hts w (ar_in x3 w hw)) x4 (vx_c (va_Nw.use rfl (hV.2.1 _ x7)) (fun w hw => by
    obtain ⟨z, hz, rfl⟩ := List.mem_map.mp hw
    exact va_Nw.use rfl (hV.2.2.2 _ hz)))
  refine ar_mono ?_ (vx_throwS (Qc := fun _ _ _ _ => False) (XC := fun E st t => E = cls ∧ s.vm.Alike t.vm ∧ H.size ≤ t.heap.size ∧ ∀ q : Nat, q < H.size → t.heap[q]? = H[q]?) (free := A) (mc := 1) (ms := 6) (A := A) (names := ar_up) hx hb hl hown x8 (by decide) (hts _ x1) (hts _ x2) hsa hat x5 hH.1 hH.2 hW.2.2 (by rw [hml]; exact hsize) d0 d3 d4 d6 d9 (fun x hx => (htab x hx).elim) (by show 2 + 3 < f; omega) (by show (rest.map fun v => v.category).sum + (13 * (2 + 1) + 43) ≤ k; omega) (Nat.le_refl _) (Nat.le_refl _) hlocks (fun t h1 h2 h3 => ⟨rfl, h1, h2, h3⟩) hW.2.2.2.2 (Nat.le_refl _) (Nat.le_refl _))
  rintro t ⟨o, h1, h2, ⟨h3, -⟩ | ⟨q, h3, E, ce, L, ⟨rfl, g1, g2, g3⟩, h5, h6, h7, h8, h9, h10⟩⟩
  · exact h3.elim
  · refine ⟨o, h1, h2, Or.inr ⟨q, E, ce, u, h3, hp, ⟨hW.1.kept (fun k q hq => g3 _ (hW.1 k q hq).lt), va_K.moved g1 hK, hW.2.1⟩, ⟨Nat.le_trans hW.2.2.1 g2, fun q h11 h12 => ?_⟩, h5, h6, h7, h8, L, h9, h10⟩⟩
    rw [g3 q (Nat.lt_of_lt_of_le h11 hW.2.2.1)]
    exact hW.2.2.2.1 q h11 h12
end AR2
section AR3
variable {l : Launch} {p : Program} {e : Env} {below : List Frame} {s : State} {args : Array Value} {m : MethodId} {meth : Method} {c : Code} {R : Room} {T : State} {H : Heap} {locs : List Loc}
variable {y : MethodName} {bytes : ByteArray} {maxL : Nat} {ret : Option FieldType} {f k : Nat} {D : va_G} {ct : Nat → ClassId} {S : Type} {wl : S → va_W} {As : List Value} {u0 : S} {Post : Option Value → S → Prop} {PX : String → S → Prop}
/-- behind a call: returned, or thrown -/
def ar_Bk (p : Program) (l : Launch) (e : Env) (R : Room) (s : State) (m : MethodId) (args : Array Value) (below : List Frame) (meth : Method) (c : Code) (H : Heap) (locs : List Loc) (D : va_G) (ct : Nat → ClassId) {S : Type} (wl : S → va_W) (A1 : Nat → Prop) (Post : Option Value → S → Prop) (PX : String → S → Prop) (s0 : State) (g : JFrame) : Prop :=
  (∃ (v : Option Value) (u : S) (t T' : State) (L : List Loc), Stand p l e R s m args below meth c T' (locs ++ L) 0 0 ∧ (∀ q ∈ L, A1 q.base) ∧ T'.heap = t.heap ∧ Post v u ∧ ar_B D ct (wl u) A1 t ∧ s.vm.Alike t.vm ∧ H.size ≤ t.heap.size ∧ (∀ q : Nat, q < H.size → ¬ A1 q → t.heap[q]? = H[q]?) ∧
    Steps p.tables e below s0 (T'.setTop { g with pc := g.pc + 3, stack := v.toList ++ g.stack })) ∨
  (∃ (q : Addr) (E : String) (ce : Cell) (u : S) (t T' : State) (L : List Loc), Stand p l e R s m args below meth c T' (locs ++ L) 1 6 ∧ (∀ q ∈ L, A1 q.base) ∧ T'.heap = t.heap ∧ PX E u ∧ ar_B D ct (wl u) A1 t ∧ s.vm.Alike t.vm ∧ H.size ≤ t.heap.size ∧ (∀ q : Nat, q < H.size → ¬ A1 q → t.heap[q]? = H[q]?) ∧ t.heap[q]? = some ce ∧ ce.vm = .none ∧ s.vm.findClass E = some ce.cls ∧
    Steps p.tables e below s0 ((T'.setTop g).pushFrame (.throwing q)))
theorem ar_back {U : State} {sz : Nat} (hM : MetFree l y (headSpec (ar_ws y bytes maxL ret) (ar_rm f k)) (va_Pc As (ar_P D ct (wl u0) sz)) (fun _ _ _ _ _ => True) (ar_Q D ct wl (va_A (wl u0) sz) Post PX))
    (hframes : f + 1 ≤ R.frames) (hlocals : 8 + (maxL + 11) + k ≤ R.locals) (hc1 : 1 ≤ R.cells) (hs1 : 6 ≤ R.slots)
    (hts : ∀ w ∈ lw_all, w.before args s = true) (hcode : Cond.code y bytes maxL ret ∈ lw_all) (hinit : Cond.initialized y.cls ∈ lw_all)
    (X : Stand p l e R s m args below meth c U locs 0 0) (hP : ar_P D ct (wl u0) sz U) {g : JFrame} {ig : Instr} {mk : MethodId} (hg : g.method = m) (hsize : g.locals.size = c.maxLocals) (hdg : decode c.code g.pc = .ok (ig, 3)) (hW9 : 2 * g.monitorRoom + (g.stack.map fun v => v.category).sum ≤ 8) (hn : U.methodNamed? y = some mk) :
    ar_Bk p l e R s m args below meth c U.heap locs D ct wl (va_A (wl u0) sz) Post PX (doInvoke e (U.setTop g) [] mk As.toArray).1 g := by
  have hws : ∀ w ∈ lw_all, ∀ a' : Array Value, w.before a' U = true := fun w hw a' => word_at X.warmed (lw_allGood hw) (hts w hw)
  have h1 : (headSpec (ar_ws y bytes maxL ret) (ar_rm f k)).pre.before As.toArray U = true := atoms_intro fun w hw => (List.mem_cons.mp hw).elim (fun e => by rw [e]; exact hws _ hcode _) (fun h => hws w h _)
  have h2 : (Cond.code y bytes maxL ret).before As.toArray U = true := hws _ hcode _
  have h3 : (Cond.initialized y.cls).before As.toArray U = true := hws _ hinit _
  have hPc : va_Pc As (ar_P D ct (wl u0) sz) As.toArray (U.calling g mk As.toArray) := by
    obtain ⟨q1, q2, q3, q4, q5, q6⟩ := hP
    exact ⟨rfl, q1, q2, va_K.moved (u := U) (U := U.calling g mk As.toArray) (Vm.Alike.refl U.vm) q3, q4, ar_V.same (u := U) rfl q5, ar_H.moved (u := U) (Vm.Alike.refl U.vm) q6⟩
  obtain ⟨methY, cY, hmY, hcY, -, hlY, -, -, -, -⟩ := Cond.code_spec hn h2
  obtain ⟨kY, hkY, -⟩ := className_of_methodNamed hn
  have hinitY : kY.init = .initialized := Cond.initialized_spec (findClass_of_methodNamed hn) hkY h3
  have h : At U g.method c below := by rw [hg]; exact X.here
  have happ : (headSpec (ar_ws y bytes maxL ret) (ar_rm f k)).appliesLoose y e.platform (U.calling g mk As.toArray) = true :=
    Spec.appliesLoose_calling (g := g) h hdg hn hkY hinitY
      (X.room_calling (g := g) (R' := (headSpec (ar_ws y bytes maxL ret) (ar_rm f k)).room) hsize hmY hcY hframes (by rw [hlY]; show _ + k ≤ _; omega) (by show 0 + 1 ≤ R.cells; omega) (by show 0 + 6 ≤ R.slots; omega)) h1
  obtain ⟨mid, hmid⟩ := h.above
  have hfr : (U.setTop g).frames = (.java g :: mid) ++ below := by rw [State.frames_setTop' g h.top, hmid]; rfl
  obtain ⟨o, s₂, hsteps, -, hend, hq⟩ := Steps.callFree hM p X.admits X.cas X.clock (acts := []) hfr happ hPc trivial
  have hq' : ar_Q D ct wl (va_A (wl u0) sz) Post PX As.toArray (U.calling g mk As.toArray) o s₂ := hq
  rw [State.frames_setTop' g h.top] at hend
  obtain ⟨g₀, hg0⟩ := Option.isSome_iff_exists.mp h.top
  obtain ⟨r, hr⟩ := State.topJava?_eq_some.mp hg0
  have hr' : (({ U with heap := s₂.heap, slotsUsed := s₂.slotsUsed } : State).setVm s₂.vm).frames = .java g₀ :: r := hr
  rcases hq' with ⟨v, u, rfl, hpo, hB, hF, L, hfe, hL⟩ | ⟨q, E, ce, u, rfl, hpo, hB, hF, hce, hcv, hcl, hW₂, L, hsm, hL⟩
  · obtain ⟨-, hW₂, e2, q2, q3, q4, q5, q6⟩ := id hfe
    have e3 : s₂ = ({ (U.calling g mk As.toArray).setFrames s₂.frames with heap := s₂.heap, slotsUsed := s₂.slotsUsed } : State).setVm s₂.vm := by
      have : s₂ = ({ s₂ with vm := (U.calling g mk As.toArray).vm } : State).setVm s₂.vm := rfl
      rw [e2] at this
      exact this
    obtain ⟨c₂, i₂, len₂, hc₂, hd₂, hf₂⟩ := hend
    have hW' : U.WarmedH s₂.vm := hW₂
    have hcc : c₂ = c := by
      have h1 : s₂.code? g.method = U.code? g.method := by
        rw [State.code?_eq, State.code?_eq, hW'.alike.method?]
      exact Option.some.inj (hc₂.symm.trans (h1.trans h.code))
    subst hcc
    have hlen : len₂ = 3 := by rw [hdg] at hd₂; cases hd₂; rfl
    subst hlen
    have hs₂ : s₂ = (({ U with heap := s₂.heap, slotsUsed := s₂.slotsUsed } : State).setVm s₂.vm).setTop { g with pc := g.pc + 3, stack := v.toList ++ g.stack } := by
      refine e3.trans ?_
      rw [hf₂, State.calling_eq h.top, State.setFrames_setFrames, State.setTop_of_frames _ hr', hr]
      rfl
    have hsame : U.sameButNew ({ U with heap := s₂.heap, slotsUsed := s₂.slotsUsed } : State) L 0 0 := by
      refine ⟨?_, q2, q3, q4, q5, q6⟩
      obtain ⟨t, ht, -⟩ := State.frames_cons hr
      show ({ U with heap := s₂.heap, slotsUsed := s₂.slotsUsed } : State) = { U.setFrames U.frames with heap := s₂.heap, slotsUsed := s₂.slotsUsed }
      rw [State.setFrames_self ht]
    subst hg
    refine Or.inl ⟨v, u, s₂, (({ U with heap := s₂.heap, slotsUsed := s₂.slotsUsed } : State).setVm s₂.vm), L,
      ⟨X.admits, X.cas, X.clock, X.frames, X.room, X.hears, X.method, X.code, (X.here.setHeapUsed s₂.heap s₂.slotsUsed).setVm hW'.alike, X.tail, State.WarmedH.trans X.warmed hW', X.limits, X.bytes, X.same.trans (hsame.setVm s.vm)⟩,
      hL, rfl, hpo, hB, (State.WarmedH.trans X.warmed hW').alike, hF.1, hF.2, ?_⟩
    show Steps p.tables e below _ ((({ U with heap := s₂.heap, slotsUsed := s₂.slotsUsed } : State).setVm s₂.vm).setTop { g with pc := g.pc + 3, stack := v.toList ++ g.stack })
    rw [← hs₂]
    exact hsteps
  · obtain ⟨e2, q2, q3, q4, q5, q6⟩ := id hsm
    have e3 : s₂ = ({ (U.calling g mk As.toArray).setFrames s₂.frames with heap := s₂.heap, slotsUsed := s₂.slotsUsed } : State).setVm s₂.vm := by
      have : s₂ = ({ s₂ with vm := (U.calling g mk As.toArray).vm } : State).setVm s₂.vm := rfl
      rw [e2] at this
      exact this
    have hf₂ : s₂.frames = .throwing q :: .java g :: U.frames.tail := hend
    have hW' : U.WarmedH s₂.vm := hW₂
    have hs₂ : s₂ = ((({ U with heap := s₂.heap, slotsUsed := s₂.slotsUsed } : State).setVm s₂.vm).setTop g).pushFrame (.throwing q) := by
      refine e3.trans ?_
      rw [hf₂, State.calling_eq h.top, State.setFrames_setFrames, State.pushFrame, State.frames_setTop _ hr', State.setTop_of_frames _ hr', State.setFrames_setFrames, hr]
      rfl
    have hsame : U.sameButNew ({ U with heap := s₂.heap, slotsUsed := s₂.slotsUsed } : State) L 1 6 := by
      refine ⟨?_, q2, q3, q4, q5, q6⟩
      obtain ⟨t, ht, -⟩ := State.frames_cons hr
      show ({ U with heap := s₂.heap, slotsUsed := s₂.slotsUsed } : State) = { U.setFrames U.frames with heap := s₂.heap, slotsUsed := s₂.slotsUsed }
      rw [State.setFrames_self ht]
    subst hg
    have hclU : U.vm.findClass E = some ce.cls := hcl
    refine Or.inr ⟨q, E, ce, u, s₂, (({ U with heap := s₂.heap, slotsUsed := s₂.slotsUsed } : State).setVm s₂.vm), L,
      ⟨X.admits, X.cas, X.clock, X.frames, X.room, X.hears, X.method, X.code, (X.here.setHeapUsed s₂.heap s₂.slotsUsed).setVm hW'.alike, X.tail, State.WarmedH.trans X.warmed hW', X.limits, X.bytes, X.same.trans (hsame.setVm s.vm)⟩,
      hL, rfl, hpo, hB, (State.WarmedH.trans X.warmed hW').alike, hF.1, hF.2, hce, hcv, ?_, ?_⟩
    · rw [X.warmed.alike.findClass] at hclU
      exact hclU
    · show Steps p.tables e below _ (((({ U with heap := s₂.heap, slotsUsed := s₂.slotsUsed } : State).setVm s₂.vm).setTop g).pushFrame (.throwing q))
      rw [← hs₂]
      exact hsteps
end AR3
