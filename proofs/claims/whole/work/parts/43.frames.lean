/-! calls from a frame that has made cells, from a larger world, and a catch -/
def ag_C (p : Program) (s : State) (m : MethodId) (meth : Method) (c : Code) (cc : ByteArray) (n : Nat) (own : String) (args : Array Value) (D : va_G) (ct : Nat → ClassId) (A : Nat → Prop) : Prop :=
  p.tables.exec = Jvm.exec ∧ c.code = cc ∧ c.maxLocals = n ∧ s.vm.findClass own = some m.cls ∧ (∀ w ∈ lw_all, w.before args s = true) ∧ va_K D vwCl (ar_T ct) s ∧ ar_V s ∧ ar_H A s s.heap ∧ (∀ q : Nat, s.heap.size ≤ q → A q) ∧ meth.locks = false
theorem ar_C.g {p : Program} {l : Launch} {s : State} {m : MethodId} {meth : Method} {c : Code} {cc : ByteArray} {n : Nat} {own : String} {args : Array Value} {D : va_G} {ct : Nat → ClassId} {A : Nat → Prop} (C : ar_C p l s m meth c cc n own args D ct A) : ag_C p s m meth c cc n own args D ct A :=
  ⟨C.1, C.2.1, C.2.2.1, C.2.2.2.1, C.2.2.2.2.1, C.2.2.2.2.2.1, C.2.2.2.2.2.2.1, C.2.2.2.2.2.2.2.1, C.2.2.2.2.2.2.2.2.1, C.2.2.2.2.2.2.2.2.2.1⟩
/-- a method's end: it returned and made mc cells of ms slots at most, or it threw and made one object -/
def ag_Q (mc ms : Nat) (D : va_G) (ct : Nat → ClassId) {S : Type} (wl : S → va_W) (A : Nat → Prop) (Post : Option Value → S → Prop) (PX : String → S → Prop) : Array Value → State → Outcome → State → Prop := fun _ st o t =>
  (∃ (v : Option Value) (u : S), o = .returned v ∧ Post v u ∧ ar_B D ct (wl u) A t ∧ va_F A st t ∧ ∃ L, FrameEnd st o t L mc ms ∧ ∀ q ∈ L, A q.base) ∨
  (∃ (q : Addr) (E : String) (ce : Cell) (u : S), o = .threw q ∧ PX E u ∧ ar_B D ct (wl u) A t ∧ va_F A st t ∧ t.heap[q]? = some ce ∧ ce.vm = .none ∧ st.vm.findClass E = some ce.cls ∧ st.WarmedH t.vm ∧ ∃ L, st.sameButNew ({ t with vm := st.vm } : State) L 1 6 ∧ ∀ z ∈ L, A z.base)
def ag_M (l : Launch) (y : MethodName) (ws : List Cond) (rm : Room) (mc ms : Nat) (X9 : State → Prop) (D : va_G) (ct : Nat → ClassId) {S : Type} (wl : S → va_W) (As : List Value) (u0 : S) (Post : Option Value → S → Prop) (PX : String → S → Prop) : Prop :=
  ∀ sz : Nat, MetFree l y (headSpec ws rm) (va_Pc As (fun U => ar_P D ct (wl u0) sz U ∧ X9 U)) (fun _ _ _ _ _ => True) (ag_Q mc ms D ct wl (va_A (wl u0) sz) Post PX)
section AG1
variable {l : Launch} {y : MethodName} {ws : List Cond} {rm : Room} {mc ms : Nat} {X9 : State → Prop} {D : va_G} {ct : Nat → ClassId} {S S9 : Type} {wl : S → va_W} {As : List Value} {u0 : S} {Post : Option Value → S → Prop} {PX : String → S → Prop}
theorem ag_of {cc : ByteArray} {n f k : Nat} {r : Option FieldType} (h : ar_M l y cc n r f k D ct wl As u0 Post PX) : ag_M l y (ar_ws y cc n r) (ar_rm f k) 0 0 (fun _ => True) D ct wl As u0 Post PX := by
  intro sz p e ha hc hk s m args below hf happ hP hK
  obtain ⟨h0, h1, -⟩ := hP
  exact h sz p e ha hc hk s m args below hf happ ⟨h0, h1⟩ hK
theorem ag_map {wl9 : S9 → va_W} (F : S → S9) (hF : ∀ u, wl9 (F u) = wl u) (h : ag_M l y ws rm mc ms X9 D ct wl As u0 Post PX) : ag_M l y ws rm mc ms X9 D ct wl9 As (F u0) (fun v u => ∃ u1, u = F u1 ∧ Post v u1) (fun E u => ∃ u1, u = F u1 ∧ PX E u1) := by
  intro sz
  have h9 := h sz
  rw [← hF u0] at h9
  intro p e ha hc hk s m args below hf happ hP hK
  obtain ⟨n, o, h1, h2, h3, hQ⟩ := h9 p e ha hc hk s m args below hf happ hP hK
  refine ⟨n, o, h1, h2, h3, ?_⟩
  rcases hQ with ⟨v, u, q1, q2, q3, q4⟩ | ⟨q, E, ce, u, q1, q2, q3, q4⟩
  · exact Or.inl ⟨v, F u, q1, ⟨u, rfl, q2⟩, by rw [hF]; exact q3, q4⟩
  · exact Or.inr ⟨q, E, ce, F u, q1, ⟨u, rfl, q2⟩, by rw [hF]; exact q3, q4⟩
theorem va_P.left {cl : List vw_C} {w1 w2 : va_W} {H : Heap} (h : va_P D cl (w1 ++ w2) H) : va_P D cl w1 H := fun k q hk => h k q (by rw [List.getElem?_append_left (List.getElem?_eq_some_iff.mp hk).1]; exact hk)
theorem va_P.right {cl : List vw_C} {w1 w2 : va_W} {H : Heap} (h : va_P D cl (w1 ++ w2) H) : va_P D cl w2 H := fun k q hk => h (w1.length + k) q (by rw [List.getElem?_append_right (by omega), Nat.add_sub_cancel_left]; exact hk)
theorem va_D.left {A : Nat → Prop} {w1 w2 : va_W} (h : va_D A (w1 ++ w2)) : va_D A w1 := ⟨fun i j p q hi hj => h.1 i j p q (by rw [List.getElem?_append_left (List.getElem?_eq_some_iff.mp hi).1]; exact hi) (by rw [List.getElem?_append_left (List.getElem?_eq_some_iff.mp hj).1]; exact hj), fun k q hk => h.2 k q (by rw [List.getElem?_append_left (List.getElem?_eq_some_iff.mp hk).1]; exact hk)⟩
theorem va_D.right {A : Nat → Prop} {w1 w2 : va_W} (h : va_D A (w1 ++ w2)) : va_D A w2 := ⟨fun i j p q hi hj e => by
  have := h.1 (w1.length + i) (w1.length + j) p q (by rw [List.getElem?_append_right (by omega), Nat.add_sub_cancel_left]; exact hi) (by rw [List.getElem?_append_right (by omega), Nat.add_sub_cancel_left]; exact hj) e
  omega, fun k q hk => h.2 (w1.length + k) q (by rw [List.getElem?_append_right (by omega), Nat.add_sub_cancel_left]; exact hk)⟩
theorem va_D.cross {A : Nat → Prop} {w1 w2 : va_W} (h : va_D A (w1 ++ w2)) {i j : Nat} {p q : Nat × va_E} (hi : w1[i]? = some p) (hj : w2[j]? = some q) (e : p.1 = q.1) : False := by
  have h1 := (List.getElem?_eq_some_iff.mp hi).1
  have := h.1 i (w1.length + j) p q (by rw [List.getElem?_append_left h1]; exact hi) (by rw [List.getElem?_append_right (by omega), Nat.add_sub_cancel_left]; exact hj) e
  omega
theorem va_A_l {w1 w2 : va_W} {sz q : Nat} (h : va_A w1 sz q) : va_A (w1 ++ w2) sz q := by
  rcases h with ⟨k, e, h⟩ | h
  · exact Or.inl ⟨k, e, by rw [List.getElem?_append_left (List.getElem?_eq_some_iff.mp h).1]; exact h⟩
  · exact Or.inr h
theorem va_A_r {w1 w2 : va_W} {sz q : Nat} (h : va_A w2 sz q) : va_A (w1 ++ w2) sz q := by
  rcases h with ⟨k, e, h⟩ | h
  · exact Or.inl ⟨w1.length + k, e, by rw [List.getElem?_append_right (by omega), Nat.add_sub_cancel_left]; exact h⟩
  · exact Or.inr h
/-- what stays beside a callee's world -/
theorem ag_beside {wc wr w1 : va_W} {sz : Nat} {st t : State} (hB : ar_B D ct w1 (va_A wc sz) t) (hF : va_F (va_A wc sz) st t) (hsz : st.heap.size = sz) (hPr : va_P D vwCl wr st.heap) (hDr : va_D (fun _ => True) wr) (hdis : ∀ (k : Nat) (q : Nat × va_E), wr[k]? = some q → ¬ va_A wc sz q.1) :
    va_P D vwCl wr t.heap ∧ (∀ (i j : Nat) (x z : Nat × va_E), w1[i]? = some x → wr[j]? = some z → x.1 = z.1 → False) := by
  refine ⟨fun k q hk => (hPr k q hk).kept (hF.2 q.1 (hPr k q hk).lt (hdis k q hk)), fun i j x z hx hz e => hdis j z hz ?_⟩
  rw [← e]
  exact hB.2.2.2 i x hx
theorem ag_frameR (wr : va_W) (h : ag_M l y ws rm mc ms X9 D ct wl As u0 Post PX) : ag_M l y ws rm mc ms X9 D ct (fun u => wl u ++ wr) As u0 Post PX := by
  intro sz p e ha hc hk s m args below hf happ hP hK9
  obtain ⟨h0, ⟨hsz, hP, hK, hD, hV, hH⟩, hX⟩ := hP
  obtain ⟨n, o, h1, h2, h3, hQ⟩ := h sz p e ha hc hk s m args below hf happ ⟨h0, ⟨hsz, hP.left, hK, hD.left, hV, hH.narrow (fun q h => va_A_l h)⟩, hX⟩ hK9
  have hdis : ∀ (k : Nat) (q : Nat × va_E), wr[k]? = some q → ¬ va_A (wl u0) sz q.1 := by
    intro k q hq hA
    rcases hA with ⟨i, e9, hi⟩ | hA
    · exact hD.cross hi hq rfl
    · have := (hP.right k q hq).lt
      omega
  have key : ∀ (u : S) (t : State), ar_B D ct (wl u) (va_A (wl u0) sz) t → va_F (va_A (wl u0) sz) s t → ar_B D ct (wl u ++ wr) (va_A (wl u0 ++ wr) sz) t ∧ va_F (va_A (wl u0 ++ wr) sz) s t := by
    intro u t hB hF
    obtain ⟨b1, b2⟩ := ag_beside hB hF hsz hP.right hD.right hdis
    exact ⟨⟨hB.1.app b1, hB.2.1, va_D.app (hB.2.2.weaken (fun _ _ _ h => va_A_l h)) ⟨hD.right.1, fun k q hk => va_A_r (va_A.in hk)⟩ b2⟩, hF.1, fun q g1 g2 => hF.2 q g1 (fun g3 => g2 (va_A_l g3))⟩
  refine ⟨n, o, h1, h2, h3, ?_⟩
  rcases hQ with ⟨v, u, q1, q2, q3, q4, L, q5, q6⟩ | ⟨q, E, ce, u, q1, q2, q3, q4, q5, q6, q7, q8, L, q9, q10⟩
  · exact Or.inl ⟨v, u, q1, q2, (key u _ q3 q4).1, (key u _ q3 q4).2, L, q5, fun z hz => va_A_l (q6 z hz)⟩
  · exact Or.inr ⟨q, E, ce, u, q1, q2, (key u _ q3 q4).1, (key u _ q3 q4).2, q5, q6, q7, q8, L, q9, fun z hz => va_A_l (q10 z hz)⟩
theorem ag_frameL (wr : va_W) (h : ag_M l y ws rm mc ms X9 D ct wl As u0 Post PX) : ag_M l y ws rm mc ms X9 D ct (fun u => wr ++ wl u) As u0 Post PX := by
  intro sz p e ha hc hk s m args below hf happ hP hK9
  obtain ⟨h0, ⟨hsz, hP, hK, hD, hV, hH⟩, hX⟩ := hP
  obtain ⟨n, o, h1, h2, h3, hQ⟩ := h sz p e ha hc hk s m args below hf happ ⟨h0, ⟨hsz, hP.right, hK, hD.right, hV, hH.narrow (fun q h => va_A_r h)⟩, hX⟩ hK9
  have hdis : ∀ (k : Nat) (q : Nat × va_E), wr[k]? = some q → ¬ va_A (wl u0) sz q.1 := by
    intro k q hq hA
    rcases hA with ⟨i, e9, hi⟩ | hA
    · exact hD.cross hq hi rfl
    · have := (hP.left k q hq).lt
      omega
  have key : ∀ (u : S) (t : State), ar_B D ct (wl u) (va_A (wl u0) sz) t → va_F (va_A (wl u0) sz) s t → ar_B D ct (wr ++ wl u) (va_A (wr ++ wl u0) sz) t ∧ va_F (va_A (wr ++ wl u0) sz) s t := by
    intro u t hB hF
    obtain ⟨b1, b2⟩ := ag_beside hB hF hsz hP.left hD.left hdis
    exact ⟨⟨b1.app hB.1, hB.2.1, va_D.app ⟨hD.left.1, fun k q hk => va_A_l (va_A.in hk)⟩ (hB.2.2.weaken (fun _ _ _ h => va_A_r h)) (fun i j x z hx hz e9 => b2 j i z x hz hx e9.symm)⟩, hF.1, fun q g1 g2 => hF.2 q g1 (fun g3 => g2 (va_A_r g3))⟩
  refine ⟨n, o, h1, h2, h3, ?_⟩
  rcases hQ with ⟨v, u, q1, q2, q3, q4, L, q5, q6⟩ | ⟨q, E, ce, u, q1, q2, q3, q4, q5, q6, q7, q8, L, q9, q10⟩
  · exact Or.inl ⟨v, u, q1, q2, (key u _ q3 q4).1, (key u _ q3 q4).2, L, q5, fun z hz => va_A_r (q6 z hz)⟩
  · exact Or.inr ⟨q, E, ce, u, q1, q2, (key u _ q3 q4).1, (key u _ q3 q4).2, q5, q6, q7, q8, L, q9, fun z hz => va_A_r (q10 z hz)⟩
end AG1
section AG2
variable {l : Launch} {p : Program} {e : Env} {below : List Frame} {s : State} {args : Array Value} {m : MethodId} {meth : Method} {c : Code} {R : Room} {H : Heap} {locs : List Loc} {cells slots : Nat}
variable {y : MethodName} {maxL : Nat} {ws : List Cond} {rm : Room} {mc ms : Nat} {X9 : State → Prop} {D : va_G} {ct : Nat → ClassId} {S : Type} {wl : S → va_W} {As : List Value} {u0 : S} {Post : Option Value → S → Prop} {PX : String → S → Prop}
/-- what the words say of the callee's code -/
def ag_Cd (s : State) (y : MethodName) (maxL : Nat) : Prop := ∀ (U : State) (mk : MethodId), s.WarmedH U.vm → U.methodNamed? y = some mk → ∃ methY cY, U.vm.method? mk = some methY ∧ methY.code = some cY ∧ cY.maxLocals = maxL
theorem ag_cd {bytes : ByteArray} {ret : Option FieldType} (hts : ∀ w ∈ lw_all, w.before args s = true) (h : Cond.code y bytes maxL ret ∈ lw_all) : ag_Cd s y maxL := fun U mk hW hn => by
  obtain ⟨methY, cY, h1, h2, -, h3, -⟩ := Cond.code_spec hn (word_at (a' := args) hW (lw_allGood h) (hts _ h))
  exact ⟨methY, cY, h1, h2, h3⟩
theorem ag_cdW {bytes : ByteArray} {ret : Option FieldType} {hh : List (Nat × Nat × Nat × Nat)} (hts : ∀ w ∈ lw_all, w.before args s = true) (h : Cond.codeWith y bytes maxL ret hh ∈ lw_all) : ag_Cd s y maxL := fun U mk hW hn => by
  obtain ⟨m9, methY, cY, h0, h1, h2, -, h3, -⟩ := Cond.codeWith_spec (word_at (a' := args) hW (lw_allGood h) (hts _ h))
  cases Option.some.inj (h0.symm.trans hn)
  exact ⟨methY, cY, h1, h2, h3⟩
def ag_Bk (p : Program) (l : Launch) (e : Env) (R : Room) (s : State) (m : MethodId) (args : Array Value) (below : List Frame) (meth : Method) (c : Code) (H : Heap) (locs : List Loc) (cells slots mc ms : Nat) (D : va_G) (ct : Nat → ClassId) {S : Type} (wl : S → va_W) (A1 : Nat → Prop) (Post : Option Value → S → Prop) (PX : String → S → Prop) (s0 : State) (g : JFrame) : Prop :=
  (∃ (v : Option Value) (u : S) (t T' : State) (L : List Loc), Stand p l e R s m args below meth c T' (locs ++ L) (cells + mc) (slots + ms) ∧ (∀ q ∈ L, A1 q.base) ∧ T'.heap = t.heap ∧ Post v u ∧ ar_B D ct (wl u) A1 t ∧ s.vm.Alike t.vm ∧ H.size ≤ t.heap.size ∧ (∀ q : Nat, q < H.size → ¬ A1 q → t.heap[q]? = H[q]?) ∧
    Steps p.tables e below s0 (T'.setTop { g with pc := g.pc + 3, stack := v.toList ++ g.stack })) ∨
  (∃ (q : Addr) (E : String) (ce : Cell) (u : S) (t T' : State) (L : List Loc), Stand p l e R s m args below meth c T' (locs ++ L) (cells + 1) (slots + 6) ∧ (∀ q ∈ L, A1 q.base) ∧ T'.heap = t.heap ∧ PX E u ∧ ar_B D ct (wl u) A1 t ∧ s.vm.Alike t.vm ∧ H.size ≤ t.heap.size ∧ (∀ q : Nat, q < H.size → ¬ A1 q → t.heap[q]? = H[q]?) ∧ t.heap[q]? = some ce ∧ ce.vm = .none ∧ s.vm.findClass E = some ce.cls ∧
    Steps p.tables e below s0 ((T'.setTop g).pushFrame (.throwing q)))
theorem ag_back {U : State} {sz : Nat} (hM : MetFree l y (headSpec ws rm) (va_Pc As (fun U => ar_P D ct (wl u0) sz U ∧ X9 U)) (fun _ _ _ _ _ => True) (ag_Q mc ms D ct wl (va_A (wl u0) sz) Post PX))
    (hX9 : ∀ U : State, s.WarmedH U.vm → X9 U) (hframes : rm.frames + 1 ≤ R.frames) (hlocals : 8 + (maxL + 11) + rm.locals ≤ R.locals) (hc1 : cells + rm.cells ≤ R.cells) (hs1 : slots + rm.slots ≤ R.slots)
    (hts : ∀ w ∈ lw_all, w.before args s = true) (hwl : ∀ w ∈ ws, w ∈ lw_all) (hcd : ag_Cd s y maxL) (hinit : Cond.initialized y.cls ∈ lw_all)
    (X : Stand p l e R s m args below meth c U locs cells slots) (hP : ar_P D ct (wl u0) sz U) {g : JFrame} {ig : Instr} {mk : MethodId} (hg : g.method = m) (hsize : g.locals.size = c.maxLocals) (hdg : decode c.code g.pc = .ok (ig, 3)) (hW9 : 2 * g.monitorRoom + (g.stack.map fun v => v.category).sum ≤ 8) (hn : U.methodNamed? y = some mk) :
    ag_Bk p l e R s m args below meth c U.heap locs cells slots mc ms D ct wl (va_A (wl u0) sz) Post PX (doInvoke e (U.setTop g) [] mk As.toArray).1 g := by
  have hws : ∀ w ∈ lw_all, ∀ a' : Array Value, w.before a' U = true := fun w hw a' => word_at X.warmed (lw_allGood hw) (hts w hw)
  have h1 : (headSpec ws rm).pre.before As.toArray U = true := atoms_intro fun w hw => hws w (hwl w hw) _
  have h3 : (Cond.initialized y.cls).before As.toArray U = true := hws _ hinit _
  have hPc : va_Pc As (fun U => ar_P D ct (wl u0) sz U ∧ X9 U) As.toArray (U.calling g mk As.toArray) := by
    obtain ⟨q1, q2, q3, q4, q5, q6⟩ := hP
    exact ⟨rfl, ⟨q1, q2, va_K.moved (u := U) (U := U.calling g mk As.toArray) (Vm.Alike.refl U.vm) q3, q4, ar_V.same (u := U) rfl q5, ar_H.moved (u := U) (Vm.Alike.refl U.vm) q6⟩, hX9 _ X.warmed⟩
  obtain ⟨methY, cY, hmY, hcY, hlY⟩ := hcd U mk X.warmed hn
  obtain ⟨kY, hkY, -⟩ := className_of_methodNamed hn
  have hinitY : kY.init = .initialized := Cond.initialized_spec (findClass_of_methodNamed hn) hkY h3
  have h : At U g.method c below := by rw [hg]; exact X.here
  have happ : (headSpec ws rm).appliesLoose y e.platform (U.calling g mk As.toArray) = true :=
    Spec.appliesLoose_calling (g := g) h hdg hn hkY hinitY
      (X.room_calling (g := g) (R' := (headSpec ws rm).room) hsize hmY hcY hframes (by rw [hlY]; show _ + rm.locals ≤ _; omega) hc1 hs1) h1
  obtain ⟨mid, hmid⟩ := h.above
  have hfr : (U.setTop g).frames = (.java g :: mid) ++ below := by rw [State.frames_setTop' g h.top, hmid]; rfl
  obtain ⟨o, s₂, hsteps, -, hend, hq⟩ := Steps.callFree hM p X.admits X.cas X.clock (acts := []) hfr happ hPc trivial
  have hq' : ag_Q mc ms D ct wl (va_A (wl u0) sz) Post PX As.toArray (U.calling g mk As.toArray) o s₂ := hq
  rw [State.frames_setTop' g h.top] at hend
  obtain ⟨g₀, hg0⟩ := Option.isSome_iff_exists.mp h.top
  obtain ⟨r, hr⟩ := State.topJava?_eq_some.mp hg0
  have hr' : (({ U with heap := s₂.heap, slotsUsed := s₂.slotsUsed } : State).setVm s₂.vm).frames = .java g₀ :: r := hr
  rcases hq' with ⟨v, u, rfl, hpo, hB, hF, L, hfe, hL⟩ | ⟨q, E, ce, u, rfl, hpo, hB, hF, hce, hcv, hcl, hW₂, L, hsm, hL⟩
  · obtain ⟨-, hW₂, e2, q2, q3, q4, q5, q6⟩ := id hfe
    have e3 : s₂ = ({ (U.calling g mk As.toArray).setFrames s₂.frames with heap := s₂.heap, slotsUsed := s₂.slotsUsed } : State).setVm s₂.vm := by
      have : s₂ = ({ s₂ with vm := (U.calling g mk As.toArray).vm } : State).setVm s₂.vm := rfl
      rw [e2] at this
      exact this
    obtain ⟨c₂, i₂, len₂, hc₂, hd₂, hf₂⟩ := hend
    have hW' : U.WarmedH s₂.vm := hW₂
    have hcc : c₂ = c := by
      have h1 : s₂.code? g.method = U.code? g.method := by
        rw [State.code?_eq, State.code?_eq, hW'.alike.method?]
      exact Option.some.inj (hc₂.symm.trans (h1.trans h.code))
    subst hcc
    have hlen : len₂ = 3 := by rw [hdg] at hd₂; cases hd₂; rfl
    subst hlen
    have hs₂ : s₂ = (({ U with heap := s₂.heap, slotsUsed := s₂.slotsUsed } : State).setVm s₂.vm).setTop { g with pc := g.pc + 3, stack := v.toList ++ g.stack } := by
      refine e3.trans ?_
      rw [hf₂, State.calling_eq h.top, State.setFrames_setFrames, State.setTop_of_frames _ hr', hr]
      rfl
    have hsame : U.sameButNew ({ U with heap := s₂.heap, slotsUsed := s₂.slotsUsed } : State) L mc ms := by
      refine ⟨?_, q2, q3, q4, q5, q6⟩
      obtain ⟨t, ht, -⟩ := State.frames_cons hr
      show ({ U with heap := s₂.heap, slotsUsed := s₂.slotsUsed } : State) = { U.setFrames U.frames with heap := s₂.heap, slotsUsed := s₂.slotsUsed }
      rw [State.setFrames_self ht]
    subst hg
    refine Or.inl ⟨v, u, s₂, (({ U with heap := s₂.heap, slotsUsed := s₂.slotsUsed } : State).setVm s₂.vm), L,
      ⟨X.admits, X.cas, X.clock, X.frames, X.room, X.hears, X.method, X.code, (X.here.setHeapUsed s₂.heap s₂.slotsUsed).setVm hW'.alike, X.tail, State.WarmedH.trans X.warmed hW', X.limits, X.bytes, X.same.trans (hsame.setVm s.vm)⟩,
      hL, rfl, hpo, hB, (State.WarmedH.trans X.warmed hW').alike, hF.1, hF.2, ?_⟩
    show Steps p.tables e below _ ((({ U with heap := s₂.heap, slotsUsed := s₂.slotsUsed } : State).setVm s₂.vm).setTop { g with pc := g.pc + 3, stack := v.toList ++ g.stack })
    rw [← hs₂]
    exact hsteps
  · obtain ⟨e2, q2, q3, q4, q5, q6⟩ := id hsm
    have e3 : s₂ = ({ (U.calling g mk As.toArray).setFrames s₂.frames with heap := s₂.heap, slotsUsed := s₂.slotsUsed } : State).setVm s₂.vm := by
      have : s₂ = ({ s₂ with vm := (U.calling g mk As.toArray).vm } : State).setVm s₂.vm := rfl
      rw [e2] at this
      exact this
    have hf₂ : s₂.frames = .throwing q :: .java g :: U.frames.tail := hend
    have hW' : U.WarmedH s₂.vm := hW₂
    have hs₂ : s₂ = ((({ U with heap := s₂.heap, slotsUsed := s₂.slotsUsed } : State).setVm s₂.vm).setTop g).pushFrame (.throwing q) := by
      refine e3.trans ?_
      rw [hf₂, State.calling_eq h.top, State.setFrames_setFrames, State.pushFrame, State.frames_setTop _ hr', State.setTop_of_frames _ hr', State.setFrames_setFrames, hr]
      rfl
    have hsame : U.sameButNew ({ U with heap := s₂.heap, slotsUsed := s₂.slotsUsed } : State) L 1 6 := by
      refine ⟨?_, q2, q3, q4, q5, q6⟩
      obtain ⟨t, ht, -⟩ := State.frames_cons hr
      show ({ U with heap := s₂.heap, slotsUsed := s₂.slotsUsed } : State) = { U.setFrames U.frames with heap := s₂.heap, slotsUsed := s₂.slotsUsed }
      rw [State.setFrames_self ht]
    subst hg
    have hclU : U.vm.findClass E = some ce.cls := hcl
    refine Or.inr ⟨q, E, ce, u, s₂, (({ U with heap := s₂.heap, slotsUsed := s₂.slotsUsed } : State).setVm s₂.vm), L,
      ⟨X.admits, X.cas, X.clock, X.frames, X.room, X.hears, X.method, X.code, (X.here.setHeapUsed s₂.heap s₂.slotsUsed).setVm hW'.alike, X.tail, State.WarmedH.trans X.warmed hW', X.limits, X.bytes, X.same.trans (hsame.setVm s.vm)⟩,
      hL, rfl, hpo, hB, (State.WarmedH.trans X.warmed hW').alike, hF.1, hF.2, hce, hcv, ?_, ?_⟩
    · rw [X.warmed.alike.findClass] at hclU
      exact hclU
    · show Steps p.tables e below _ (((({ U with heap := s₂.heap, slotsUsed := s₂.slotsUsed } : State).setVm s₂.vm).setTop g).pushFrame (.throwing q))
      rw [← hs₂]
      exact hsteps
end AG2
section AG3
variable {l : Launch} {p : Program} {e : Env} {below : List Frame} {s : State} {args : Array Value} {m : MethodId} {meth : Method} {c : Code} {R : Room} {H : Heap} {locs : List Loc} {cells slots : Nat} {cc : ByteArray} {n : Nat} {own : String} {A : Nat → Prop}
variable {y : MethodName} {maxL : Nat} {ws : List Cond} {rm : Room} {mc ms : Nat} {X9 : State → Prop} {D : va_G} {ct : Nat → ClassId} {S : Type} {wl : S → va_W} {As : List Value} {u0 : S} {Post : Option Value → S → Prop} {PX : String → S → Prop}
variable {pc : Nat} {ls : Array Slot} {rest st0 : List Value} {Q : State → Prop}
theorem ag_pre {U : State} (C : ag_C p s m meth c cc n own args D ct A) (hW : ar_W D A s.heap H locs (wl u0)) (hU : U.heap = H) (hvm : s.WarmedH U.vm) : ar_P D ct (wl u0) H.size U := by
  obtain ⟨hx, hb, hml, hown, hts, hK, hV, hH, hA, hlocks⟩ := C
  refine ⟨by rw [hU], by rw [hU]; exact hW.1, va_K.moved hvm.alike hK, hW.2.1.weaken (fun _ _ _ _ => trivial), hV.warm hvm, ?_⟩
  rw [hU]
  exact ((hH.kept hW.2.2.2.1).moved hvm.alike).narrow (ar_free hW hA)
/-- the step of an invoke into the callee -/
def ag_St (p : Program) (l : Launch) (e : Env) (R : Room) (s : State) (m : MethodId) (args : Array Value) (below : List Frame) (meth : Method) (c : Code) (H : Heap) (locs : List Loc) (cells slots : Nat) (y : MethodName) (As : List Value) (g g0 : JFrame) : Prop :=
  ∀ T : State, T.heap = H → Stand p l e R s m args below meth c T locs cells slots → ∃ (vm₁ : Vm) (mk : MethodId), Stand p l e R s m args below meth c (T.setVm vm₁) locs cells slots ∧ (T.setVm vm₁).methodNamed? y = some mk ∧ ∀ target, (∀ acts, Steps p.tables e below (doInvoke e ((T.setVm vm₁).setTop g) acts mk As.toArray).1 target) → Steps p.tables e below (T.setTop g0) target
theorem ag_call {ig : Instr} (C : ag_C p s m meth c cc n own args D ct A) (hW : ar_W D A s.heap H locs (wl u0)) (hM : ag_M l y ws rm mc ms X9 D ct wl As u0 Post PX) (hst : ag_St p l e R s m args below meth c H locs cells slots y As (F0 m pc ls rest) (F0 m pc ls st0))
    (hX9 : ∀ U : State, s.WarmedH U.vm → X9 U) (hR : rm.frames + 1 ≤ R.frames ∧ 8 + (maxL + 11) + rm.locals ≤ R.locals ∧ cells + rm.cells ≤ R.cells ∧ slots + rm.slots ≤ R.slots) (hwl : ∀ w ∈ ws, w ∈ lw_all) (hcd : ag_Cd s y maxL) (hinit : Cond.initialized y.cls ∈ lw_all)
    (hls : ls.size = n) (hrest : (rest.map fun v => v.category).sum ≤ 8) (hdg : decode cc pc = .ok (ig, 3))
    (kx : ∀ (E : String) (ce : Cell) (q : Addr) (u : S) (H1 : Heap) (locs1 : List Loc), PX E u → ar_W D A s.heap H1 locs1 (wl u) → H1[q]? = some ce → ce.vm = .none → s.vm.findClass E = some ce.cls → vx_W p l e R s m args below meth c H1 locs1 (cells + 1) (slots + 6) Q (F0 m pc ls rest) q)
    (kk : ∀ (v : Option Value) (u : S) (H1 : Heap) (locs1 : List Loc), Post v u → ar_W D A s.heap H1 locs1 (wl u) → W p l e R s m args below meth c H1 locs1 (cells + mc) (slots + ms) Q (F0 m (pc + 3) ls (v.toList ++ rest))) : W p l e R s m args below meth c H locs cells slots Q (F0 m pc ls st0) := by
  intro T hT X
  obtain ⟨vm₁, mk, X₁, hn, hstep⟩ := hst T hT X
  have hB := ag_back (R := R) (hM H.size) hX9 hR.1 hR.2.1 hR.2.2.1 hR.2.2.2 C.2.2.2.2.1 hwl hcd hinit X₁ (ag_pre C hW (U := T.setVm vm₁) hT X₁.warmed) (g := F0 m pc ls rest) (ig := ig) (mk := mk) rfl (hls.trans C.2.2.1.symm) (by rw [C.2.1]; exact hdg) (by show 2 * 0 + (rest.map fun v => v.category).sum ≤ 8; omega) hn
  rw [show (T.setVm vm₁).heap = H from hT] at hB
  have hst2 : ∀ t, Steps p.tables e below (doInvoke e ((T.setVm vm₁).setTop (F0 m pc ls rest)) [] mk As.toArray).1 t → Steps p.tables e below (T.setTop (F0 m pc ls st0)) t := fun t h => hstep _ fun acts => by rw [doInvoke_state]; exact h
  have hfr := ar_free hW C.2.2.2.2.2.2.2.2.1
  have hWn : ∀ (u : S) (t : State) (L : List Loc), ar_B D ct (wl u) (va_A (wl u0) H.size) t → H.size ≤ t.heap.size → (∀ q : Nat, q < H.size → ¬ va_A (wl u0) H.size q → t.heap[q]? = H[q]?) → (∀ q ∈ L, va_A (wl u0) H.size q.base) → ar_W D A s.heap t.heap (locs ++ L) (wl u) := by
    intro u t L b1 b2 b3 b4
    refine ⟨b1.1, b1.2.2.weaken (fun k q _ h => hfr _ h), Nat.le_trans hW.2.2.1 b2, fun q h1 h2 => ?_, fun q hq => ?_⟩
    · rw [b3 q (Nat.lt_of_lt_of_le h1 hW.2.2.1) (fun z => h2 (hfr q z))]
      exact hW.2.2.2.1 q h1 h2
    · rcases List.mem_append.mp hq with h | h
      · exact hW.2.2.2.2 q h
      · exact hfr _ (b4 q h)
  rcases hB with ⟨v, u, t, T', L, X', hL, e1, hp, hB9, hal, hz, hkp, st⟩ | ⟨q, E, ce, u, t, T', L, X', hL, e1, hp, hB9, hal, hz, hkp, hce, hcv, hcl, st⟩
  · obtain ⟨t2, a1, b1⟩ := kk v u t.heap (locs ++ L) hp (hWn u t L hB9 hz hkp hL) T' e1 X'
    exact ⟨t2, hst2 _ (st.trans a1), b1⟩
  · obtain ⟨t2, a1, b1⟩ := kx E ce q u t.heap (locs ++ L) hp (hWn u t L hB9 hz hkp hL) hce hcv hcl T' e1 X'
    exact ⟨t2, hst2 _ (st.trans a1), b1⟩
theorem ag_stS {index : Nat} (C : ag_C p s m meth c cc n own args D ct A) (hnm : ∃ (mk : MethodId) (methM : Method), s.methodNamed? y = some mk ∧ s.vm.method? mk = some methM ∧ parseMethodDescriptor y.desc = some methM.sig) (q1 : Cond.methodLink own index y ∈ lw_all) (q2 : Cond.static y ∈ lw_all) (q3 : Cond.initialized y.cls ∈ lw_all)
    (hd : y.cls ≠ "java/lang/invoke/MethodHandle" ∧ y.cls ≠ "java/lang/invoke/VarHandle" ∧ (parseMethodDescriptor y.desc).map (fun d => d.parameters.length) = some As.length) (hst : st0 = As.reverse ++ rest) (hdg : decode cc pc = .ok (.invokestatic index, 3)) : ag_St p l e R s m args below meth c H locs cells slots y As (F0 m pc ls rest) (F0 m pc ls st0) := by
  obtain ⟨hx, hb, hml, hown, hts, hK, hV, hH, hA, hlocks⟩ := C
  obtain ⟨mk, methM, hnamed, hmethM, hsigM⟩ := hnm
  intro T hT X
  have hstatic : methM.isStatic = true := Cond.static_spec hnamed hmethM (hts _ q2)
  obtain ⟨kP, hkP, -⟩ := className_of_methodNamed hnamed
  have hinitP : kP.init = .initialized := Cond.initialized_spec (findClass_of_methodNamed hnamed) hkP (hts _ q3)
  have hlen : As.length = methM.sig.parameters.length := by
    have h2 := hd.2.2
    rw [hsigM] at h2
    exact (Option.some.inj h2).symm
  obtain ⟨vm₁, X₁, hstep₁⟩ := X.invokestatic hx hown (hts _ q1) hnamed hmethM hstatic hkP hinitP ⟨hd.1, hd.2.1⟩ (g := F0 m pc ls st0) rfl (argsL := As) (rest := rest) hlen hst (by rw [hb]; exact hdg)
  exact ⟨vm₁, mk, X₁, X₁.named hnamed, hstep₁⟩
theorem ag_stV {index b q0 ci N9 : Nat} {T9 : u_T} {fs : List Value} {w0 : va_W} {bytes : ByteArray} {ret : Option FieldType} (C : ag_C p s m meth c cc n own args D ct A) (hW : ar_W D A s.heap H locs w0) (he : w0[q0]? = some (b, .inr (ci, fs))) (hc9 : vwCl[ci]? = some (y.cls, T9, N9))
    (q1 : Cond.methodLink own index y ∈ lw_all) (q2 : Cond.instanceMethod y ∈ lw_all) (q5 : Cond.selects y.cls y y ∈ lw_all) (q4 : Cond.code y bytes maxL ret ∈ lw_all)
    (hd : y.cls ≠ "java/lang/invoke/MethodHandle" ∧ y.cls ≠ "java/lang/invoke/VarHandle" ∧ (parseMethodDescriptor y.desc).map (fun d => d.parameters.length) = some As.length) (hst : st0 = As.reverse ++ .ref b :: rest) (hdg : decode cc pc = .ok (.invokevirtual index, 3)) : ag_St p l e R s m args below meth c H locs cells slots y (.ref b :: As) (F0 m pc ls rest) (F0 m pc ls st0) := by
  obtain ⟨hx, hb, hml, hown, hts, hK, hV, hH, hA, hlocks⟩ := C
  intro T hT X
  obtain ⟨cellB, hcB, hobj, hcls⟩ := va_recv hK hW.1 hc9 he
  have hcode := hts _ q4
  obtain ⟨mk, methM, hnamed, hmethM, hstM, habM⟩ := Cond.instanceMethod_spec (hts _ q2)
  obtain ⟨methM', cM, hmethM', -, -, -, -, -, -, hsigM⟩ := Cond.code_spec hnamed hcode
  cases hmethM.symm.trans hmethM'
  obtain ⟨c2, r2, m2, z1, z2, z3, z4, kP, hkP, hkPi⟩ := Cond.selects_spec (hts _ q5)
  cases hcls.symm.trans z1
  cases (State.methodFound?_of_named hnamed ⟨hd.1, hd.2.1⟩).symm.trans z2
  cases hnamed.symm.trans z3
  have hselP : selectMethod e.platform s.vm cellB.cls mk = .method mk := by rw [Launch.admits_selectMethod X.admits]; exact z4
  have hlen : As.length = methM.sig.parameters.length := by
    have h2 := hd.2.2
    rw [hsigM] at h2
    exact (Option.some.inj h2).symm
  obtain ⟨vm₁, X₁, hstep₁⟩ := X.invokevirtual hx hown (hts _ q1) hnamed hmethM hstM hkP hkPi ⟨hd.1, hd.2.1⟩ (a := b) (cell := cellB) (by rw [hT]; exact hcB)
    (fun z h => by rw [h] at hobj; cases hobj) hselP hmethM habM hkP hkPi (g := F0 m pc ls st0) rfl (argsL := As) (rest := rest) hlen hst (by rw [hb]; exact hdg)
  exact ⟨vm₁, mk, X₁, X₁.named hnamed, hstep₁⟩
theorem ag_len (hd : (parseMethodDescriptor y.desc).map (fun d => d.parameters.length) = some As.length) : ∀ sig, parseMethodDescriptor y.desc = some sig → As.length = sig.parameters.length := fun sig h => by
  rw [h] at hd
  exact (Option.some.inj hd).symm
theorem ag_stI {index b : Nat} {bytes : ByteArray} (C : ag_C p s m meth c cc n own args D ct A) (hy : y.name = "<init>") (q1 : Cond.methodLink own index y ∈ lw_all) (q2 : Cond.instanceMethod y ∈ lw_all) (q4 : Cond.code y bytes maxL none ∈ lw_all)
    (hd : y.cls ≠ "java/lang/invoke/MethodHandle" ∧ y.cls ≠ "java/lang/invoke/VarHandle" ∧ (parseMethodDescriptor y.desc).map (fun d => d.parameters.length) = some As.length) (hst : st0 = As.reverse ++ .ref b :: rest) (hdg : decode cc pc = .ok (.invokespecial index, 3)) : ag_St p l e R s m args below meth c H locs cells slots y (.ref b :: As) (F0 m pc ls rest) (F0 m pc ls st0) := by
  obtain ⟨hx, hb, hml, hown, hts, hK, hV, hH, hA, hlocks⟩ := C
  intro T hT X
  have hpl : e.platform.magicAccessors = ({} : Platform).magicAccessors := by rw [X.admits.platform]
  obtain ⟨mk, methM, cM, kP, vm₁, hnamed, hmethM, hcodeM, -, hlocalsM, -, hkP, -, hW₁, hstep₁⟩ := Steps.initColdArgs (e := e) X.here hx X.warmed hpl hown hy ⟨hd.1, hd.2.1⟩ (hts _ q1) (hts _ q2) (hts _ q4) (f := F0 m pc ls st0) rfl (ag_len hd.2.2) hst (by rw [hb]; exact hdg)
  have X₁ := X.noted hW₁
  exact ⟨vm₁, mk, X₁, X₁.named hnamed, hstep₁⟩
theorem ag_stIN {index b : Nat} {bytes : ByteArray} (C : ag_C p s m meth c cc n own args D ct A) (hy : y.name = "<init>") (q1 : (own, index, y) ∈ ar_nests) (q2 : Cond.instanceMethod y ∈ lw_all) (q4 : Cond.code y bytes maxL none ∈ lw_all)
    (hd : y.cls ≠ "java/lang/invoke/MethodHandle" ∧ y.cls ≠ "java/lang/invoke/VarHandle" ∧ (parseMethodDescriptor y.desc).map (fun d => d.parameters.length) = some As.length) (hst : st0 = As.reverse ++ .ref b :: rest) (hdg : decode cc pc = .ok (.invokespecial index, 3)) : ag_St p l e R s m args below meth c H locs cells slots y (.ref b :: As) (F0 m pc ls rest) (F0 m pc ls st0) := by
  obtain ⟨hx, hb, hml, hown, hts, hK, hV, hH, hA, hlocks⟩ := C
  intro T hT X
  have hpl : e.platform.magicAccessors = ({} : Platform).magicAccessors := by rw [X.admits.platform]
  obtain ⟨mk, methM, cM, kP, vm₁, hnamed, hmethM, hcodeM, -, hlocalsM, -, hkP, -, hW₁, hstep₁⟩ := Steps.initColdArgsNest (e := e) X.here hx X.warmed hpl hown hy ⟨hd.1, hd.2.1⟩ (va_Nw.use rfl (hV.1 _ q1)) (hts _ q2) (hts _ q4) (f := F0 m pc ls st0) rfl (ag_len hd.2.2) hst (by rw [hb]; exact hdg)
  have X₁ := X.noted hW₁
  exact ⟨vm₁, mk, X₁, X₁.named hnamed, hstep₁⟩
end AG3
