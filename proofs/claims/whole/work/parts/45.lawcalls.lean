abbrev hhR : List (Nat × Nat × Nat × Nat) := [(0, 9, 12, 13), (0, 9, 15, 15), (0, 9, 18, 17), (0, 9, 21, 19), (0, 9, 24, 21)]
abbrev hhL : List (Nat × Nat × Nat × Nat) := [(0, 8, 11, 15), (0, 8, 14, 17), (0, 8, 17, 19)]
theorem q243 : Cond.codeWith yL_run cL_run 4 (some .int) hhR ∈ lw_all := qm 243 (by decide +kernel) (by decide +kernel)
theorem q576 : Cond.codeWith yL_look cL_look 3 (some .int) hhL ∈ lw_all := qm 576 (by decide +kernel) (by decide +kernel)
section AH0
variable {p : Program} {l : Launch} {e : Env} {s : State} {m : MethodId} {args : Array Value} {below : List Frame} {meth : Method} {c : Code} {H : Heap} {locs : List Loc} {cc : ByteArray} {n : Nat} {own : String} {A : Nat → Prop} {R : Room} {cells slots : Nat} {r : Option FieldType}
variable {y : MethodName} {rm : Room} {mc ms : Nat} {X9 : State → Prop} {D : va_G} {ct : Nat → ClassId} {S : Type} {wl : S → va_W} {As : List Value} {u0 : S} {Post : Option Value → S → Prop} {PX : String → S → Prop} {pc : Nat} {ls : Array Slot}
theorem ag_end {v : Option Value} {u : S} {g : JFrame} (C : ag_C p s m meth c cc n own args D ct A) (hW : ar_W D A s.heap H locs (wl u)) (hp : Post v u)
    (k : ∀ (Qc : Array Value → State → Outcome → State → Prop), (∀ t : State, t.heap = H → s.WarmedH t.vm → Qc args s (.returned v) t) → W p l e R s m args below meth c H locs mc ms (MQ below Qc args s mc ms A) g) (h1 : cells ≤ mc) (h2 : slots ≤ ms) :
    W p l e R s m args below meth c H locs cells slots (ar_E below (ag_Q mc ms D ct wl A Post PX) args s) g := by
  refine W.widen h1 h2 (ar_mono ?_ (k (fun _ st o t => ∃ (v : Option Value) (u : S), o = .returned v ∧ Post v u ∧ ar_B D ct (wl u) A t ∧ va_F A st t) (fun t ht hW9 => ⟨v, u, rfl, hp, ⟨by rw [ht]; exact hW.1, va_K.moved hW9.alike C.2.2.2.2.2.1, hW.2.1⟩, hW.2.2.F ht⟩)))
  rintro t ⟨o, h1, h2, ⟨v9, u9, h3, h4, h5, h6⟩, L, h7, h8⟩
  exact ⟨o, h1, h2, Or.inl ⟨v9, u9, h3, h4, h5, h6, L, h7, h8⟩⟩
theorem ag_iret {v : Int32} {u : S} (C : ag_C p s m meth c cc n own args D ct A) (hr : meth.sig.returnType = some .int) (hW : ar_W D A s.heap H locs (wl u)) (hdg : decode cc pc = .ok (.ireturn, 1)) (hp : Post (some (.int v)) u) (h1 : cells ≤ mc) (h2 : slots ≤ ms) :
    W p l e R s m args below meth c H locs cells slots (ar_E below (ag_Q mc ms D ct wl A Post PX) args s) (F0 m pc ls [.int v]) :=
  ag_end C hW hp (fun Qc hq => W.iret C.1 C.2.1 hr hq hW.2.2.2.2 hdg (hlocks := C.2.2.2.2.2.2.2.2.2)) h1 h2
theorem ag_vret {u : S} (C : ag_C p s m meth c cc n own args D ct A) (hr : meth.sig.returnType = none) (hW : ar_W D A s.heap H locs (wl u)) (hdg : decode cc pc = .ok (.return_, 1)) (hp : Post none u) (h1 : cells ≤ mc) (h2 : slots ≤ ms) :
    W p l e R s m args below meth c H locs cells slots (ar_E below (ag_Q mc ms D ct wl A Post PX) args s) (F0 m pc ls []) :=
  ag_end C hW hp (fun Qc hq => W.vret C.1 C.2.1 hr hq hW.2.2.2.2 hdg (hlocks := C.2.2.2.2.2.2.2.2.2)) h1 h2
/-- the walk of a body without a table gives the contract -/
theorem ag_ofW (hl : l.stackTraces = false) (hy : plainName y.cls = true) (hn : (lg_sl As).length ≤ n)
    (body : ∀ (p : Program) (e : Env) (s : State) (m : MethodId) (below : List Frame) (meth : Method) (c : Code) (A : Nat → Prop) (ls : Array Slot), ar_C p l s m meth c cc n y.cls As.toArray D ct A → X9 s → meth.sig.returnType = r → meth.name = y.name → ar_W D A s.heap s.heap [] (wl u0) → lv_has ls n (lv_args 0 As) →
      W p l e rm s m As.toArray below meth c s.heap [] 0 0 (ar_E below (ag_Q mc ms D ct wl A Post PX) As.toArray s) (F0 m 0 ls [])) : ag_M l y (ar_ws y cc n r) rm mc ms X9 D ct wl As u0 Post PX := by
  intro sz
  refine MetFree.of_bodyS (code := cc) (maxLocals := n) (ret := r) hy ?_ ?_
  · intro args s m h hn
    obtain ⟨meth, c, h1, h2, h3, h4, h5, h6, -, -⟩ := Cond.code_spec hn (atoms_spec (ws := ar_ws y cc n r) h _ List.mem_cons_self)
    exact ⟨meth, c, h1, h2, h3, h4, h5, h6⟩
  · intro p e s m args below meth c s₁ B hml hP _
    obtain ⟨rfl, ⟨hsz, hP, hK, hD, hV, hH⟩, hX⟩ := hP
    subst hsz
    have hh0 : s₁.heap = s.heap := by rw [B.state]; rfl
    have hts := atoms_spec (ws := ar_ws y cc n r) B.pre
    have ht : ∀ x ∈ c.exceptionTable.toList, False := by
      obtain ⟨meth9, c9, h1, h2, -, -, -, -, h7, -⟩ := Cond.code_spec B.named (hts _ List.mem_cons_self)
      cases Option.some.inj (h1.symm.trans B.method)
      cases Option.some.inj (h2.symm.trans (Stand.of_body B).code)
      intro x hx
      rw [Array.isEmpty_iff.mp h7] at hx
      cases hx
    have hl0 := lv_entry As (n := n) hn
    have K := body p e s m below meth c (va_A (wl u0) s.heap.size) _ ⟨B.exec, B.bytes, hml, findClass_of_methodNamed B.named, fun w h => hts w (List.mem_cons_of_mem _ h), hK, hV, hH, fun q h => Or.inr h, B.notSynchronized, ht, hl⟩ hX B.returns (name_of_methodNamed B.named B.method).1 ⟨hP, hD.self, va_S.rf⟩ hl0
    rw [← lg_entry_eq] at K
    obtain ⟨t, a1, o, b1, b2, b3⟩ := K s₁ hh0 (Stand.of_body B)
    exact ⟨t, o, a1, b1, b2, b3⟩
theorem ag_ofWH {hh : List (Nat × Nat × Nat × Nat)} (hy : plainName y.cls = true) (hn : (lg_sl As).length ≤ n)
    (body : ∀ (p : Program) (e : Env) (s : State) (m : MethodId) (below : List Frame) (meth : Method) (c : Code) (A : Nat → Prop) (ls : Array Slot), ag_C p s m meth c cc n y.cls As.toArray D ct A → c.exceptionTable.toList = tableOf hh → X9 s → meth.sig.returnType = r → ar_W D A s.heap s.heap [] (wl u0) → lv_has ls n (lv_args 0 As) →
      W p l e rm s m As.toArray below meth c s.heap [] 0 0 (ar_E below (ag_Q mc ms D ct wl A Post PX) As.toArray s) (F0 m 0 ls [])) : ag_M l y (.codeWith y cc n r hh :: lw_all) rm mc ms X9 D ct wl As u0 Post PX := by
  intro sz
  refine MetFree.of_bodyS (code := cc) (maxLocals := n) (ret := r) hy ?_ ?_
  · intro args s m h hn
    obtain ⟨m9, meth, c, h0, h1, h2, h3, h4, -, h5, h6, -⟩ := Cond.codeWith_spec (atoms_spec (ws := Cond.codeWith y cc n r hh :: lw_all) h _ List.mem_cons_self)
    cases Option.some.inj (h0.symm.trans hn)
    exact ⟨meth, c, h1, h2, h3, h4, h5, h6⟩
  · intro p e s m args below meth c s₁ B hml hP _
    obtain ⟨rfl, ⟨hsz, hP, hK, hD, hV, hH⟩, hX⟩ := hP
    subst hsz
    have hh0 : s₁.heap = s.heap := by rw [B.state]; rfl
    have hts := atoms_spec (ws := Cond.codeWith y cc n r hh :: lw_all) B.pre
    have ht : c.exceptionTable.toList = tableOf hh := vx_table (x := y) B (hts _ List.mem_cons_self)
    have hl0 := lv_entry As (n := n) hn
    have K := body p e s m below meth c (va_A (wl u0) s.heap.size) _ ⟨B.exec, B.bytes, hml, findClass_of_methodNamed B.named, fun w h => hts w (List.mem_cons_of_mem _ h), hK, hV, hH, fun q h => Or.inr h, B.notSynchronized⟩ ht hX B.returns ⟨hP, hD.self, va_S.rf⟩ hl0
    rw [← lg_entry_eq] at K
    obtain ⟨t, a1, o, b1, b2, b3⟩ := K s₁ hh0 (Stand.of_body B)
    exact ⟨t, o, a1, b1, b2, b3⟩
end AH0
