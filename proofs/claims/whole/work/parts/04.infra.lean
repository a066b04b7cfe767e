section AR0
variable {p : Program} {l : Launch} {e : Env} {R : Room} {s : State} {m : MethodId} {args : Array Value} {below : List Frame} {meth : Method} {c : Code} {H : Heap} {locs : List Loc} {cells slots : Nat} {Q Q9 : State → Prop}
theorem ar_mono {g : JFrame} (h : ∀ t, Q t → Q9 t) (k : W p l e R s m args below meth c H locs cells slots Q g) : W p l e R s m args below meth c H locs cells slots Q9 g := fun T hT X => by
  obtain ⟨t, a, b⟩ := k T hT X
  exact ⟨t, a, h t b⟩
end AR0
/-- the words of a method: its own code, and all good words of the tables -/
abbrev ar_ws (y : MethodName) (cc : ByteArray) (n : Nat) (r : Option FieldType) : List Cond := .code y cc n r :: lw_all
theorem ar_good {y : MethodName} {cc : ByteArray} {n : Nat} {r : Option FieldType} (hc : Cond.code y cc n r ∈ lw_all) : GoodIn lw_all (ar_ws y cc n r) := fun w h => (List.mem_cons.mp h).elim (fun e => by rw [e]; exact ⟨hc, lw_allGood hc⟩) (fun h => ⟨h, lw_allGood h⟩)
/-- the classes of arrays -/
abbrev ar_T (ct : Nat → ClassId) : List (ClassId × FieldType) := [(ct 0, .char), (ct 1, .double), (ct 2, .int), (ct 3, .long), (ct 4, .object "ArrayText$Node"), (ct 5, .object "ArrayText$NumberArray")]
/-- words that are no good words: nest mates, casts, texts -/
def ar_nests : List (String × Nat × MethodName) := [("ArrayText", 15, ⟨"ArrayText$NumberArray", "<init>", "()V"⟩), ("ArrayText", 18, ⟨"ArrayText$Text", "<init>", "()V"⟩), ("ArrayText$Tree", 17, ⟨"ArrayText$Node", "<init>", "()V"⟩), ("ArrayText$Node", 11, ⟨"ArrayText$NumberArray", "<init>", "()V"⟩), ("ArrayText$Parser", 67, ⟨"ArrayText", "isVariable", "(I)Z"⟩), ("ArrayText$Worker", 116, ⟨"ArrayText", "isInRange", "(D)Z"⟩)]
def ar_casts : List (String × String) := [("java/lang/ArithmeticException", "java/lang/ArithmeticException"), ("java/lang/IndexOutOfBoundsException", "java/lang/IndexOutOfBoundsException"), ("java/lang/IllegalArgumentException", "java/lang/IllegalArgumentException"), ("java/lang/UnsupportedOperationException", "java/lang/UnsupportedOperationException"), ("java/lang/IllegalStateException", "java/lang/IllegalStateException")]
def ar_texts : List (String × Nat × String) := [("ArrayText", 71, "no such variable"), ("ArrayText$Parser", 36, "deeper than a text can be"), ("ArrayText$Tree", 24, "more parts than a text can hold"), ("ArrayText$Parser", 119, "no sign to reduce or run by"), ("ArrayText$Parser", 65, "no closing parenthesis"), ("ArrayText$Parser", 105, "no part or number"), ("ArrayText$Parser", 31, "more than an expression"), ("ArrayText$ShapeFinder", 81, "no elements or too many behind i"), ("ArrayText$ShapeFinder", 101, "shapes that do not fit"), ("ArrayText$ShapeFinder", 104, "a table joined"), ("ArrayText$ShapeFinder", 109, "too many elements joined"), ("ArrayText$ShapeFinder", 111, "no constant of one number or two before #"), ("ArrayText$ShapeFinder", 116, "no elements or too many by #"), ("ArrayText$ShapeFinder", 118, "fewer elements by # than there are"), ("ArrayText$Worker", 122, "a result out of range")]
def ar_decls : List MethodName := [⟨"java/lang/RuntimeException", "<init>", "(Ljava/lang/String;)V"⟩, ⟨"java/lang/Exception", "<init>", "(Ljava/lang/String;)V"⟩, ⟨"java/lang/Throwable", "<init>", "(Ljava/lang/String;)V"⟩]
def ar_V (U : State) : Prop := (∀ x ∈ ar_nests, va_Nw (.methodLinkNest x.1 x.2.1 x.2.2 "ArrayText") U) ∧ (∀ x ∈ ar_casts, va_Nw (.castable x.1 x.2) U) ∧ (∀ x ∈ ar_texts, ∃ sa : Nat, vk_R x.1 x.2.1 x.2.2 sa U) ∧ (∀ x ∈ ar_decls, va_Nw (.declares x) U)
theorem ar_V.warm {s U : State} (hW : s.WarmedH U.vm) (h : ar_V s) : ar_V U :=
  ⟨fun x hx => va_Nw.warmM hW (h.1 x hx), fun x hx => va_Nw.warmC hW (h.2.1 x hx), fun x hx => by obtain ⟨sa, q⟩ := h.2.2.1 x hx; exact ⟨sa, vk_R.warm hW q⟩, fun x hx => va_Nw.warmD hW (h.2.2.2 x hx)⟩
theorem ar_V.same {u U : State} (hv : u.vm = U.vm) (h : ar_V u) : ar_V U :=
  ⟨fun x hx => va_Nw.same rfl hv (h.1 x hx), fun x hx => va_Nw.same rfl hv (h.2.1 x hx), fun x hx => by obtain ⟨sa, q⟩ := h.2.2.1 x hx; exact ⟨sa, vk_R.same hv.symm q⟩, fun x hx => va_Nw.same rfl hv (h.2.2.2 x hx)⟩
def ar_H (A : Nat → Prop) (U : State) (H : Heap) : Prop := vx_Zq Bundle.tN "UNASSIGNED_STACK" Bundle.steD A U H ∧ vx_Zq Bundle.tN "SUPPRESSED_SENTINEL" Bundle.listD A U H
theorem ar_H.moved {A : Nat → Prop} {u U : State} {H : Heap} (hvm : u.vm.Alike U.vm) (h : ar_H A u H) : ar_H A U H := ⟨h.1.moved hvm, h.2.moved hvm⟩
theorem ar_H.kept {A : Nat → Prop} {U : State} {H H1 : Heap} (h : ar_H A U H) (hq : ∀ a : Nat, a < H.size → ¬ A a → H1[a]? = H[a]?) : ar_H A U H1 := ⟨h.1.kept hq, h.2.kept hq⟩
theorem ar_H.narrow {A B : Nat → Prop} {U : State} {H : Heap} (h : ar_H A U H) (hAB : ∀ q, B q → A q) : ar_H B U H := ⟨h.1.narrow hAB, h.2.narrow hAB⟩
/-- the world behind a method -/
def ar_B (D : va_G) (ct : Nat → ClassId) (ws : va_W) (A : Nat → Prop) (t : State) : Prop := va_P D vwCl ws t.heap ∧ va_K D vwCl (ar_T ct) t ∧ va_D A ws
/-- a method's end: it returned and made nothing, or it threw and made the one object -/
def ar_Q (D : va_G) (ct : Nat → ClassId) {S : Type} (wl : S → va_W) (A : Nat → Prop) (Post : Option Value → S → Prop) (PX : String → S → Prop) : Array Value → State → Outcome → State → Prop := fun _ st o t =>
  (∃ (v : Option Value) (u : S), o = .returned v ∧ Post v u ∧ ar_B D ct (wl u) A t ∧ va_F A st t ∧ ∃ L, FrameEnd st o t L 0 0 ∧ ∀ q ∈ L, A q.base) ∨
  (∃ (q : Addr) (E : String) (ce : Cell) (u : S), o = .threw q ∧ PX E u ∧ ar_B D ct (wl u) A t ∧ va_F A st t ∧ t.heap[q]? = some ce ∧ ce.vm = .none ∧ st.vm.findClass E = some ce.cls ∧ st.WarmedH t.vm ∧ ∃ L, st.sameButNew ({ t with vm := st.vm } : State) L 1 6 ∧ ∀ z ∈ L, A z.base)
/-- a method's start -/
def ar_P (D : va_G) (ct : Nat → ClassId) (ws : va_W) (sz : Nat) : State → Prop := fun U => U.heap.size = sz ∧ va_P D vwCl ws U.heap ∧ va_K D vwCl (ar_T ct) U ∧ va_D (fun _ => True) ws ∧ ar_V U ∧ ar_H (va_A ws sz) U U.heap
def ar_rm (f k : Nat) : Room := { frames := f, cells := 1, slots := 6, locals := k }
/-- THE CONTRACT of a method: from the world wl u0, with the arguments As -/
def ar_M (l : Launch) (y : MethodName) (cc : ByteArray) (n : Nat) (r : Option FieldType) (f k : Nat) (D : va_G) (ct : Nat → ClassId) {S : Type} (wl : S → va_W) (As : List Value) (u0 : S) (Post : Option Value → S → Prop) (PX : String → S → Prop) : Prop :=
  ∀ sz : Nat, MetFree l y (headSpec (ar_ws y cc n r) (ar_rm f k)) (va_Pc As (ar_P D ct (wl u0) sz)) (fun _ _ _ _ _ => True) (ar_Q D ct wl (va_A (wl u0) sz) Post PX)
def ar_E (below : List Frame) (Qc : Array Value → State → Outcome → State → Prop) (a : Array Value) (s : State) : State → Prop := fun t => ∃ o, t.status = .running ∧ Ended t below o ∧ Qc a s o t
/-- what stands fast in a walk -/
def ar_C (p : Program) (l : Launch) (s : State) (m : MethodId) (meth : Method) (c : Code) (cc : ByteArray) (n : Nat) (own : String) (args : Array Value) (D : va_G) (ct : Nat → ClassId) (A : Nat → Prop) : Prop :=
  p.tables.exec = Jvm.exec ∧ c.code = cc ∧ c.maxLocals = n ∧ s.vm.findClass own = some m.cls ∧ (∀ w ∈ lw_all, w.before args s = true) ∧ va_K D vwCl (ar_T ct) s ∧ ar_V s ∧ ar_H A s s.heap ∧ (∀ q : Nat, s.heap.size ≤ q → A q) ∧ meth.locks = false ∧ (∀ x ∈ c.exceptionTable.toList, False) ∧ l.stackTraces = false
/-- the world in a walk -/
def ar_W (D : va_G) (A : Nat → Prop) (H0 H : Heap) (locs : List Loc) (ws : va_W) : Prop := va_P D vwCl ws H ∧ va_D A ws ∧ va_S A H0 H locs
theorem ar_free {D : va_G} {A : Nat → Prop} {H0 H : Heap} {locs : List Loc} {ws : va_W} (h : ar_W D A H0 H locs ws) (hA : ∀ q : Nat, H0.size ≤ q → A q) : ∀ q, va_A ws H.size q → A q := by
  intro q hq
  rcases hq with ⟨k, e, hq⟩ | hq
  · exact h.2.1.2 k (q, e) hq
  · exact hA q (Nat.le_trans h.2.2.1 hq)
/-- THE WALK OF A BODY gives the contract -/
theorem ar_ofW {l : Launch} {y : MethodName} {cc : ByteArray} {n : Nat} {r : Option FieldType} {f k : Nat} {D : va_G} {ct : Nat → ClassId} {S : Type} {wl : S → va_W} {As : List Value} {u0 : S} {Post : Option Value → S → Prop} {PX : String → S → Prop}
    (hl : l.stackTraces = false) (hy : plainName y.cls = true) (hn : (lg_sl As).length ≤ n)
    (body : ∀ (p : Program) (e : Env) (s : State) (m : MethodId) (below : List Frame) (meth : Method) (c : Code) (A : Nat → Prop) (ls : Array Slot), ar_C p l s m meth c cc n y.cls As.toArray D ct A → meth.sig.returnType = r → meth.name = y.name → ar_W D A s.heap s.heap [] (wl u0) → lv_has ls n (lv_args 0 As) →
      W p l e (ar_rm f k) s m As.toArray below meth c s.heap [] 0 0 (ar_E below (ar_Q D ct wl A Post PX) As.toArray s) (F0 m 0 ls [])) : ar_M l y cc n r f k D ct wl As u0 Post PX := by
  intro sz
  refine MetFree.of_bodyS (code := cc) (maxLocals := n) (ret := r) hy ?_ ?_
  · intro args s m h hn
    obtain ⟨meth, c, h1, h2, h3, h4, h5, h6, -, -⟩ := Cond.code_spec hn (atoms_spec (ws := ar_ws y cc n r) h _ List.mem_cons_self)
    exact ⟨meth, c, h1, h2, h3, h4, h5, h6⟩
  · intro p e s m args below meth c s₁ B hml hP _
    obtain ⟨rfl, hsz, hP, hK, hD, hV, hH⟩ := hP
    subst hsz
    have hh0 : s₁.heap = s.heap := by rw [B.state]; rfl
    have hts := atoms_spec (ws := ar_ws y cc n r) B.pre
    have ht : ∀ x ∈ c.exceptionTable.toList, False := by
      obtain ⟨meth9, c9, h1, h2, -, -, -, -, h7, -⟩ := Cond.code_spec B.named (hts _ List.mem_cons_self)
      cases Option.some.inj (h1.symm.trans B.method)
      cases Option.some.inj (h2.symm.trans (Stand.of_body B).code)
      intro x hx
      rw [Array.isEmpty_iff.mp h7] at hx
      cases hx
    have hl0 := lv_entry As (n := n) hn
    have K := body p e s m below meth c (va_A (wl u0) s.heap.size) _ ⟨B.exec, B.bytes, hml, findClass_of_methodNamed B.named, fun w h => hts w (List.mem_cons_of_mem _ h), hK, hV, hH, fun q h => Or.inr h, B.notSynchronized, ht, hl⟩ B.returns (name_of_methodNamed B.named B.method).1 ⟨hP, hD.self, va_S.rf⟩ hl0
    rw [← lg_entry_eq] at K
    obtain ⟨t, a1, o, b1, b2, b3⟩ := K s₁ hh0 (Stand.of_body B)
    exact ⟨t, o, a1, b1, b2, b3⟩
section AR1
variable {p : Program} {l : Launch} {e : Env} {s : State} {m : MethodId} {args : Array Value} {below : List Frame} {meth : Method} {c : Code} {H : Heap} {locs : List Loc} {cc : ByteArray} {n : Nat} {own : String} {D : va_G} {ct : Nat → ClassId} {A : Nat → Prop} {R : Room}
variable {S : Type} {wl : S → va_W} {Post : Option Value → S → Prop} {PX : String → S → Prop} {pc : Nat} {ls : Array Slot}
theorem ar_end {v : Option Value} {u : S} {g : JFrame} (C : ar_C p l s m meth c cc n own args D ct A) (hW : ar_W D A s.heap H locs (wl u)) (hp : Post v u)
    (k : ∀ (Qc : Array Value → State → Outcome → State → Prop), (∀ t : State, t.heap = H → s.WarmedH t.vm → Qc args s (.returned v) t) → W p l e R s m args below meth c H locs 0 0 (MQ below Qc args s 0 0 A) g) :
    W p l e R s m args below meth c H locs 0 0 (ar_E below (ar_Q D ct wl A Post PX) args s) g := by
  refine ar_mono ?_ (k (fun _ st o t => ∃ (v : Option Value) (u : S), o = .returned v ∧ Post v u ∧ ar_B D ct (wl u) A t ∧ va_F A st t) (fun t ht hW9 => ⟨v, u, rfl, hp, ⟨by rw [ht]; exact hW.1, va_K.moved hW9.alike C.2.2.2.2.2.1, hW.2.1⟩, hW.2.2.F ht⟩))
  rintro t ⟨o, h1, h2, ⟨v9, u9, h3, h4, h5, h6⟩, L, h7, h8⟩
  exact ⟨o, h1, h2, Or.inl ⟨v9, u9, h3, h4, h5, h6, L, h7, h8⟩⟩
theorem ar_iret {v : Int32} {u : S} (C : ar_C p l s m meth c cc n own args D ct A) (hr : meth.sig.returnType = some .int) (hW : ar_W D A s.heap H locs (wl u)) (hdg : decode cc pc = .ok (.ireturn, 1)) (hp : Post (some (.int v)) u) :
    W p l e R s m args below meth c H locs 0 0 (ar_E below (ar_Q D ct wl A Post PX) args s) (F0 m pc ls [.int v]) :=
  ar_end C hW hp fun Qc hq => W.iret C.1 C.2.1 hr hq hW.2.2.2.2 hdg (hlocks := C.2.2.2.2.2.2.2.2.2.1)
theorem ar_zret {v : Int32} {u : S} {ty : FieldType} (C : ar_C p l s m meth c cc n own args D ct A) (hr : meth.sig.returnType = some ty) (hn9 : narrow ty (.int v) = .int v) (hW : ar_W D A s.heap H locs (wl u)) (hdg : decode cc pc = .ok (.ireturn, 1)) (hp : Post (some (.int v)) u) :
    W p l e R s m args below meth c H locs 0 0 (ar_E below (ar_Q D ct wl A Post PX) args s) (F0 m pc ls [.int v]) :=
  ar_end C hW hp fun Qc hq => W.zret C.1 C.2.1 hr hn9 hq hW.2.2.2.2 hdg (hlocks := C.2.2.2.2.2.2.2.2.2.1)
theorem ar_vret {u : S} (C : ar_C p l s m meth c cc n own args D ct A) (hr : meth.sig.returnType = none) (hW : ar_W D A s.heap H locs (wl u)) (hdg : decode cc pc = .ok (.return_, 1)) (hp : Post none u) :
    W p l e R s m args below meth c H locs 0 0 (ar_E below (ar_Q D ct wl A Post PX) args s) (F0 m pc ls []) :=
  ar_end C hW hp fun Qc hq => W.vret C.1 C.2.1 hr hq hW.2.2.2.2 hdg (hlocks := C.2.2.2.2.2.2.2.2.2.1)
theorem ar_dret {v : UInt64} {u : S} (C : ar_C p l s m meth c cc n own args D ct A) (hr : meth.sig.returnType = some .double) (hW : ar_W D A s.heap H locs (wl u)) (hdg : decode cc pc = .ok (.dreturn, 1)) (hp : Post (some (.double v)) u) :
    W p l e R s m args below meth c H locs 0 0 (ar_E below (ar_Q D ct wl A Post PX) args s) (F0 m pc ls [.double v]) :=
  ar_end C hW hp fun Qc hq => W.dret C.1 C.2.1 hr hq hW.2.2.2.2 hdg (hlocks := C.2.2.2.2.2.2.2.2.2.1)
theorem ar_aret {a : Nat} {nm : String} {u : S} (C : ar_C p l s m meth c cc n own args D ct A) (hr : meth.sig.returnType = some (.object nm)) (hW : ar_W D A s.heap H locs (wl u)) (hdg : decode cc pc = .ok (.areturn, 1)) (hp : Post (some (.ref a)) u) :
    W p l e R s m args below meth c H locs 0 0 (ar_E below (ar_Q D ct wl A Post PX) args s) (F0 m pc ls [.ref a]) :=
  ar_end C hW hp fun Qc hq => W.aret C.1 C.2.1 hr (Or.inl ⟨nm, rfl⟩) (Or.inr ⟨a, rfl⟩) hq hW.2.2.2.2 hdg (hlocks := C.2.2.2.2.2.2.2.2.2.1)
end AR1
