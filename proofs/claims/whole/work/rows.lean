section
-- ===== PART A: goes FIRST, ahead of the names: the tables' words, and 'selects' of the private methods out of them =====
/-- a private method of a class that the tables say can be made, by its rows of tables_1 -/
def lw_okq (q : MethodName × Nat) : Prop := (q.1.cls ≠ "java/lang/invoke/MethodHandle" ∧ q.1.cls ≠ "java/lang/invoke/VarHandle") ∧ Cond.instantiable q.1.cls q.2 ∈ tables_1 ∧ Cond.privateMethod q.1 ∈ tables_1 ∧ Cond.instanceMethod q.1 ∈ tables_1
theorem lw_p0 : lw_okq (⟨"java/lang/Throwable", "fillInStackTrace", "(I)Ljava/lang/Throwable;"⟩, 6) := ⟨⟨by decide +kernel, by decide +kernel⟩, List.mem_of_getElem? (i := 278) (by decide +kernel), List.mem_of_getElem? (i := 276) (by decide +kernel), List.mem_of_getElem? (i := 277) (by decide +kernel)⟩
theorem lw_p1 : lw_okq (⟨"ArrayTextModel", "has", "(II)Z"⟩, 27) := ⟨⟨by decide +kernel, by decide +kernel⟩, List.mem_of_getElem? (i := 582) (by decide +kernel), List.mem_of_getElem? (i := 706) (by decide +kernel), List.mem_of_getElem? (i := 707) (by decide +kernel)⟩
theorem lw_p2 : lw_okq (⟨"ArrayTextModel", "work", "()I"⟩, 27) := ⟨⟨by decide +kernel, by decide +kernel⟩, List.mem_of_getElem? (i := 582) (by decide +kernel), List.mem_of_getElem? (i := 729) (by decide +kernel), List.mem_of_getElem? (i := 730) (by decide +kernel)⟩
theorem lw_p3 : lw_okq (⟨"ArrayTextModel", "cut", "()Z"⟩, 27) := ⟨⟨by decide +kernel, by decide +kernel⟩, List.mem_of_getElem? (i := 582) (by decide +kernel), List.mem_of_getElem? (i := 733) (by decide +kernel), List.mem_of_getElem? (i := 734) (by decide +kernel)⟩
theorem lw_p4 : lw_okq (⟨"ArrayTextModel", "charAt", "(I)I"⟩, 27) := ⟨⟨by decide +kernel, by decide +kernel⟩, List.mem_of_getElem? (i := 582) (by decide +kernel), List.mem_of_getElem? (i := 737) (by decide +kernel), List.mem_of_getElem? (i := 738) (by decide +kernel)⟩
theorem lw_p5 : lw_okq (⟨"ArrayTextModel", "keep", "(III)V"⟩, 27) := ⟨⟨by decide +kernel, by decide +kernel⟩, List.mem_of_getElem? (i := 582) (by decide +kernel), List.mem_of_getElem? (i := 741) (by decide +kernel), List.mem_of_getElem? (i := 742) (by decide +kernel)⟩
theorem lw_p6 : lw_okq (⟨"ArrayTextModel", "number", "(I)I"⟩, 27) := ⟨⟨by decide +kernel, by decide +kernel⟩, List.mem_of_getElem? (i := 582) (by decide +kernel), List.mem_of_getElem? (i := 751) (by decide +kernel), List.mem_of_getElem? (i := 752) (by decide +kernel)⟩
theorem lw_p7 : lw_okq (⟨"ArrayTextModel", "constant", "(I)I"⟩, 27) := ⟨⟨by decide +kernel, by decide +kernel⟩, List.mem_of_getElem? (i := 582) (by decide +kernel), List.mem_of_getElem? (i := 758) (by decide +kernel), List.mem_of_getElem? (i := 759) (by decide +kernel)⟩
theorem lw_p8 : lw_okq (⟨"ArrayTextModel", "front", "(I)V"⟩, 27) := ⟨⟨by decide +kernel, by decide +kernel⟩, List.mem_of_getElem? (i := 582) (by decide +kernel), List.mem_of_getElem? (i := 762) (by decide +kernel), List.mem_of_getElem? (i := 763) (by decide +kernel)⟩
theorem lw_p9 : lw_okq (⟨"ArrayTextModel", "turn", "()V"⟩, 27) := ⟨⟨by decide +kernel, by decide +kernel⟩, List.mem_of_getElem? (i := 582) (by decide +kernel), List.mem_of_getElem? (i := 766) (by decide +kernel), List.mem_of_getElem? (i := 767) (by decide +kernel)⟩
theorem lw_p10 : lw_okq (⟨"ArrayTextModel", "along", "(IZ)V"⟩, 27) := ⟨⟨by decide +kernel, by decide +kernel⟩, List.mem_of_getElem? (i := 582) (by decide +kernel), List.mem_of_getElem? (i := 770) (by decide +kernel), List.mem_of_getElem? (i := 771) (by decide +kernel)⟩
theorem lw_p11 : lw_okq (⟨"ArrayTextModel", "check", "(D)V"⟩, 27) := ⟨⟨by decide +kernel, by decide +kernel⟩, List.mem_of_getElem? (i := 582) (by decide +kernel), List.mem_of_getElem? (i := 777) (by decide +kernel), List.mem_of_getElem? (i := 778) (by decide +kernel)⟩
theorem lw_p12 : lw_okq (⟨"ArrayTextModel", "load", "(I)V"⟩, 27) := ⟨⟨by decide +kernel, by decide +kernel⟩, List.mem_of_getElem? (i := 582) (by decide +kernel), List.mem_of_getElem? (i := 781) (by decide +kernel), List.mem_of_getElem? (i := 782) (by decide +kernel)⟩
theorem lw_p13 : lw_okq (⟨"ArrayTextModel", "deliver", "(I)V"⟩, 27) := ⟨⟨by decide +kernel, by decide +kernel⟩, List.mem_of_getElem? (i := 582) (by decide +kernel), List.mem_of_getElem? (i := 785) (by decide +kernel), List.mem_of_getElem? (i := 786) (by decide +kernel)⟩
theorem lw_p14 : lw_okq (⟨"ArrayTextModel", "append", "(I)V"⟩, 27) := ⟨⟨by decide +kernel, by decide +kernel⟩, List.mem_of_getElem? (i := 582) (by decide +kernel), List.mem_of_getElem? (i := 789) (by decide +kernel), List.mem_of_getElem? (i := 790) (by decide +kernel)⟩
theorem lw_p15 : lw_okq (⟨"ArrayTextModel", "shapeAnew", "(I)V"⟩, 27) := ⟨⟨by decide +kernel, by decide +kernel⟩, List.mem_of_getElem? (i := 582) (by decide +kernel), List.mem_of_getElem? (i := 793) (by decide +kernel), List.mem_of_getElem? (i := 794) (by decide +kernel)⟩
def lw_privs_1 : List (MethodName × Nat) := [(⟨"java/lang/Throwable", "fillInStackTrace", "(I)Ljava/lang/Throwable;"⟩, 6), (⟨"ArrayTextModel", "has", "(II)Z"⟩, 27), (⟨"ArrayTextModel", "work", "()I"⟩, 27), (⟨"ArrayTextModel", "cut", "()Z"⟩, 27), (⟨"ArrayTextModel", "charAt", "(I)I"⟩, 27), (⟨"ArrayTextModel", "keep", "(III)V"⟩, 27), (⟨"ArrayTextModel", "number", "(I)I"⟩, 27), (⟨"ArrayTextModel", "constant", "(I)I"⟩, 27), (⟨"ArrayTextModel", "front", "(I)V"⟩, 27), (⟨"ArrayTextModel", "turn", "()V"⟩, 27), (⟨"ArrayTextModel", "along", "(IZ)V"⟩, 27), (⟨"ArrayTextModel", "check", "(D)V"⟩, 27), (⟨"ArrayTextModel", "load", "(I)V"⟩, 27), (⟨"ArrayTextModel", "deliver", "(I)V"⟩, 27), (⟨"ArrayTextModel", "append", "(I)V"⟩, 27), (⟨"ArrayTextModel", "shapeAnew", "(I)V"⟩, 27)]
theorem lw_r1 : ∀ q ∈ lw_privs_1, lw_okq q := List.forall_mem_cons.mpr ⟨lw_p0, List.forall_mem_cons.mpr ⟨lw_p1, List.forall_mem_cons.mpr ⟨lw_p2, List.forall_mem_cons.mpr ⟨lw_p3, List.forall_mem_cons.mpr ⟨lw_p4, List.forall_mem_cons.mpr ⟨lw_p5, List.forall_mem_cons.mpr ⟨lw_p6, List.forall_mem_cons.mpr ⟨lw_p7, List.forall_mem_cons.mpr ⟨lw_p8, List.forall_mem_cons.mpr ⟨lw_p9, List.forall_mem_cons.mpr ⟨lw_p10, List.forall_mem_cons.mpr ⟨lw_p11, List.forall_mem_cons.mpr ⟨lw_p12, List.forall_mem_cons.mpr ⟨lw_p13, List.forall_mem_cons.mpr ⟨lw_p14, List.forall_mem_cons.mpr ⟨lw_p15, fun _ h => absurd h List.not_mem_nil⟩⟩⟩⟩⟩⟩⟩⟩⟩⟩⟩⟩⟩⟩⟩⟩
theorem lw_p16 : lw_okq (⟨"ArrayTextModel", "pairs", "(II)V"⟩, 27) := ⟨⟨by decide +kernel, by decide +kernel⟩, List.mem_of_getElem? (i := 582) (by decide +kernel), List.mem_of_getElem? (i := 797) (by decide +kernel), List.mem_of_getElem? (i := 798) (by decide +kernel)⟩
def lw_privs_2 : List (MethodName × Nat) := [(⟨"ArrayTextModel", "pairs", "(II)V"⟩, 27)]
theorem lw_r2 : ∀ q ∈ lw_privs_2, lw_okq q := List.forall_mem_cons.mpr ⟨lw_p16, fun _ h => absurd h List.not_mem_nil⟩
def lw_privs : List (MethodName × Nat) := lw_privs_1 ++ (lw_privs_2)
def lw_tbl : List Cond := k2_sels lw_privs ++ tables_1
theorem lw_privs_ok : ∀ q ∈ lw_privs, lw_okq q := by
  show ∀ q ∈ lw_privs_1 ++ (lw_privs_2), lw_okq q
  exact List.forall_mem_append.mpr ⟨lw_r1, lw_r2⟩
/-- the streams that the claim lets the run draw from -/
abbrev lw_cs : List Choice := [Jvm.Choice.named "NaN.bits"]
theorem lw_bits : nanBits ∈ lw_cs := by first | decide | exact List.mem_cons_self | simp [lw_cs, nanBits]
end
section

section VXA


def vx_T (XC : String → State → State → Prop) (st : State) (q : Addr) (t : State) (mc ms : Nat) (free : Addr → Prop) : Prop :=
  ∃ (E : String) (ce : Cell) (L : List Loc), XC E st t ∧ t.heap[q]? = some ce ∧ ce.vm = .none ∧ st.vm.findClass E = some ce.cls ∧ st.WarmedH t.vm ∧ st.sameButNew ({ t with vm := st.vm } : State) L mc ms ∧ ∀ z ∈ L, free z.base
def vx_Q (Qc : Array Value → State → Outcome → State → Prop) (XC : String → State → State → Prop) (mc ms : Nat) (free : Addr → Prop) : Array Value → State → Outcome → State → Prop := fun a st o t =>
  (Qc a st o t ∧ ∃ L, FrameEnd st o t L mc ms ∧ ∀ q ∈ L, free q.base) ∨ ∃ q, o = .threw q ∧ vx_T XC st q t mc ms free

def vx_Met (l : Launch) (y : MethodName) (ws : List Cond) (rm : Room) (Pc : Array Value → State → Prop) (Qc : Array Value → State → Outcome → State → Prop) (XC : String → State → State → Prop) (mc ms : Nat) (free : Addr → Prop) : Prop :=
  MetFree l y (headSpec ws rm) Pc (fun _ _ _ _ _ => True) (vx_Q Qc XC mc ms free)
def vx_Post (XC : String → State → State → Prop) (mc ms : Nat) (free : Addr → Prop) : Pt → Array Value → Addr → Pt → Prop := fun A a q B =>
  ∃ (g : JFrame) (mk : MethodId) (t : State) (L : List Loc) (E : String) (ce : Cell), B.U.heap = t.heap ∧ B.U.vm = t.vm ∧ XC E (A.U.calling g mk a) t ∧ t.heap[q]? = some ce ∧ ce.vm = .none ∧ A.U.vm.findClass E = some ce.cls ∧ B.locs = A.locs ++ L ∧ (∀ z ∈ L, free z.base) ∧ B.cells = A.cells + mc ∧ B.slots = A.slots + ms
def vx_Back (l : Launch) (R : Room) (p : Program) (e : Env) (below : List Frame) (s : State) (sargs : Array Value) (y : MethodName) (len W9 : Nat)
    (Pre : Pt → Array Value → Prop) (Post : Pt → Array Value → Option Value → Pt → Prop) (PostX : Pt → Array Value → Addr → Pt → Prop) : Prop :=
  ∀ (m : MethodId) (meth : Method) (c : Code) (A : Pt) (g : JFrame) (ig : Instr) (mk : MethodId) (a : Array Value),
    Stand p l e R s m sargs below meth c A.U A.locs A.cells A.slots → g.method = m → g.locals.size = c.maxLocals → decode c.code g.pc = .ok (ig, len) →
    2 * g.monitorRoom + (g.stack.map fun v => v.category).sum ≤ W9 → A.U.methodNamed? y = some mk → Pre A a →
    (∃ (v : Option Value) (B : Pt), Stand p l e R s m sargs below meth c B.U B.locs B.cells B.slots ∧ Post A a v B ∧
      Steps p.tables e below (doInvoke e (A.U.setTop g) [] mk a).1 (B.U.setTop { g with pc := g.pc + len, stack := v.toList ++ g.stack })) ∨
    (∃ (q : Addr) (B : Pt), Stand p l e R s m sargs below meth c B.U B.locs B.cells B.slots ∧ PostX A a q B ∧
      Steps p.tables e below (doInvoke e (A.U.setTop g) [] mk a).1 ((B.U.setTop g).pushFrame (.throwing q)))
section Payer
variable {l : Launch} {R : Room} {p : Program} {e : Env} {below : List Frame} {s : State} {sargs : Array Value} {y : MethodName} {len W9 : Nat}
theorem vx_back {ws : List Cond} {rm : Room} {Pc : Array Value → State → Prop} {Qc : Array Value → State → Outcome → State → Prop} {XC : String → State → State → Prop} {mc ms : Nat} {free : Addr → Prop} {bytes : ByteArray} {maxL : Nat} {ret : Option FieldType}
    (hM : vx_Met l y ws rm Pc Qc XC mc ms free) (hblind : FrameBlind Pc) (hrc : rm.cells = mc) (hrs : rm.slots = ms)
    (hframes : rm.frames + 1 ≤ R.frames) (hlocals : W9 + (maxL + 11) + rm.locals ≤ R.locals)
    (hws : ∀ w ∈ ws, ∀ a' U, s.WarmedH U.vm → w.before a' U = true) (hcode : Cond.code y bytes maxL ret ∈ ws) (hinit : ∀ a' U, s.WarmedH U.vm → (Cond.initialized y.cls).before a' U = true) :
    vx_Back l R p e below s sargs y len W9 (PreOf R mc ms Pc) (PostOf Qc mc ms free) (vx_Post XC mc ms free) := by
  intro m meth c A g ig mk a X hg hsize hdg hW hn hp
  have h1 : (headSpec ws rm).pre.before a A.U = true := atoms_intro fun w hw => hws w hw _ _ X.warmed
  have h2 : (Cond.code y bytes maxL ret).before a A.U = true := hws _ hcode _ _ X.warmed
  have h3 : (Cond.initialized y.cls).before a A.U = true := hinit _ _ X.warmed
  have h4 : A.cells + (headSpec ws rm).room.cells ≤ R.cells := by rw [show (headSpec ws rm).room.cells = mc from hrc]; exact hp.1
  have h5 : A.slots + (headSpec ws rm).room.slots ≤ R.slots := by rw [show (headSpec ws rm).room.slots = ms from hrs]; exact hp.2.1
  have hPc : Pc a (A.U.calling g mk a) := hblind _ _ _ _ hp.2.2
  obtain ⟨U, Ls, c0, s0⟩ := A
  dsimp only [Pt.U, Pt.locs, Pt.cells, Pt.slots] at h1 h2 h3 h4 h5 X hn hPc ⊢
  obtain ⟨methY, cY, hmY, hcY, -, hlY, -, -, -, -⟩ := Cond.code_spec hn h2
  obtain ⟨kY, hkY, -⟩ := className_of_methodNamed hn
  have hinitY : kY.init = .initialized := Cond.initialized_spec (findClass_of_methodNamed hn) hkY h3
  have h : At U g.method c below := by rw [hg]; exact X.here
  have hlocals9 : W9 + (maxL + 11) + (headSpec ws rm).room.locals ≤ R.locals := hlocals
  have happ : (headSpec ws rm).appliesLoose y e.platform (U.calling g mk a) = true :=
    Spec.appliesLoose_calling (g := g) h hdg hn hkY hinitY
      (X.room_calling (g := g) (R' := (headSpec ws rm).room) hsize hmY hcY hframes (by rw [hlY]; omega) h4 h5) h1
  obtain ⟨mid, hmid⟩ := h.above
  have hfr : (U.setTop g).frames = (.java g :: mid) ++ below := by rw [State.frames_setTop' g h.top, hmid]; rfl
  obtain ⟨o, s₂, hsteps, -, hend, hq⟩ := Steps.callFree hM p X.admits X.cas X.clock (acts := []) hfr happ hPc trivial
  have hq' : vx_Q Qc XC mc ms free a (U.calling g mk a) o s₂ := hq
  rw [State.frames_setTop' g h.top] at hend
  obtain ⟨g₀, hg0⟩ := Option.isSome_iff_exists.mp h.top
  obtain ⟨r, hr⟩ := State.topJava?_eq_some.mp hg0
  have hr' : (({ U with heap := s₂.heap, slotsUsed := s₂.slotsUsed } : State).setVm s₂.vm).frames = .java g₀ :: r := hr
  rcases hq' with ⟨hqc, L, hfe, hL⟩ | ⟨q, rfl, E, ce, L, hx, hce, hcv, hcl, hW₂, hsm, hL⟩
  · obtain ⟨⟨v, rfl⟩, hW₂, e2, q2, q3, q4, q5, q6⟩ := id hfe
    have e3 : s₂ = ({ (U.calling g mk a).setFrames s₂.frames with heap := s₂.heap, slotsUsed := s₂.slotsUsed } : State).setVm s₂.vm := by
      have : s₂ = ({ s₂ with vm := (U.calling g mk a).vm } : State).setVm s₂.vm := rfl
      rw [e2] at this
      exact this
    obtain ⟨c₂, i₂, len₂, hc₂, hd₂, hf₂⟩ := hend
    have hW' : U.WarmedH s₂.vm := hW₂
    have hcc : c₂ = c := by
      have h1 : s₂.code? g.method = U.code? g.method := by
        rw [State.code?_eq, State.code?_eq, hW'.alike.method?]
      exact Option.some.inj (hc₂.symm.trans (h1.trans h.code))
    subst hcc
    have hlen : len₂ = len := by rw [hdg] at hd₂; cases hd₂; rfl
    subst hlen
    have hs₂ : s₂ = (({ U with heap := s₂.heap, slotsUsed := s₂.slotsUsed } : State).setVm s₂.vm).setTop { g with pc := g.pc + len₂, stack := v.toList ++ g.stack } := by
      refine e3.trans ?_
      rw [hf₂, State.calling_eq h.top, State.setFrames_setFrames, State.setTop_of_frames _ hr', hr]
      rfl
    have hsame : U.sameButNew ({ U with heap := s₂.heap, slotsUsed := s₂.slotsUsed } : State) L mc ms := by
      refine ⟨?_, q2, q3, q4, q5, q6⟩
      obtain ⟨t, ht, -⟩ := State.frames_cons hr
      show ({ U with heap := s₂.heap, slotsUsed := s₂.slotsUsed } : State) = { U.setFrames U.frames with heap := s₂.heap, slotsUsed := s₂.slotsUsed }
      rw [State.setFrames_self ht]
    subst hg
    refine Or.inl ⟨v, ⟨(({ U with heap := s₂.heap, slotsUsed := s₂.slotsUsed } : State).setVm s₂.vm), Ls ++ L, c0 + mc, s0 + ms⟩,
      ⟨X.admits, X.cas, X.clock, X.frames, X.room, X.hears, X.method, X.code, (X.here.setHeapUsed s₂.heap s₂.slotsUsed).setVm hW'.alike, X.tail, State.WarmedH.trans X.warmed hW', X.limits, X.bytes, X.same.trans (hsame.setVm s.vm)⟩,
      ⟨g, mk, s₂, L, rfl, rfl, hqc, rfl, hL, rfl, rfl⟩, ?_⟩
    show Steps p.tables e below _ ((({ U with heap := s₂.heap, slotsUsed := s₂.slotsUsed } : State).setVm s₂.vm).setTop { g with pc := g.pc + len₂, stack := v.toList ++ g.stack })
    rw [← hs₂]
    exact hsteps
  · obtain ⟨e2, q2, q3, q4, q5, q6⟩ := id hsm
    have e3 : s₂ = ({ (U.calling g mk a).setFrames s₂.frames with heap := s₂.heap, slotsUsed := s₂.slotsUsed } : State).setVm s₂.vm := by
      have : s₂ = ({ s₂ with vm := (U.calling g mk a).vm } : State).setVm s₂.vm := rfl
      rw [e2] at this
      exact this
    have hf₂ : s₂.frames = .throwing q :: .java g :: U.frames.tail := hend
    have hW' : U.WarmedH s₂.vm := hW₂
    have hs₂ : s₂ = ((({ U with heap := s₂.heap, slotsUsed := s₂.slotsUsed } : State).setVm s₂.vm).setTop g).pushFrame (.throwing q) := by
      refine e3.trans ?_
      rw [hf₂, State.calling_eq h.top, State.setFrames_setFrames, State.pushFrame, State.frames_setTop _ hr', State.setTop_of_frames _ hr', State.setFrames_setFrames, hr]
      rfl
    have hsame : U.sameButNew ({ U with heap := s₂.heap, slotsUsed := s₂.slotsUsed } : State) L mc ms := by
      refine ⟨?_, q2, q3, q4, q5, q6⟩
      obtain ⟨t, ht, -⟩ := State.frames_cons hr
      show ({ U with heap := s₂.heap, slotsUsed := s₂.slotsUsed } : State) = { U.setFrames U.frames with heap := s₂.heap, slotsUsed := s₂.slotsUsed }
      rw [State.setFrames_self ht]
    subst hg
    refine Or.inr ⟨q, ⟨(({ U with heap := s₂.heap, slotsUsed := s₂.slotsUsed } : State).setVm s₂.vm), Ls ++ L, c0 + mc, s0 + ms⟩,
      ⟨X.admits, X.cas, X.clock, X.frames, X.room, X.hears, X.method, X.code, (X.here.setHeapUsed s₂.heap s₂.slotsUsed).setVm hW'.alike, X.tail, State.WarmedH.trans X.warmed hW', X.limits, X.bytes, X.same.trans (hsame.setVm s.vm)⟩,
      ⟨g, mk, s₂, L, E, ce, rfl, rfl, hx, hce, hcv, hcl, rfl, hL, rfl, rfl⟩, ?_⟩
    show Steps p.tables e below _ (((({ U with heap := s₂.heap, slotsUsed := s₂.slotsUsed } : State).setVm s₂.vm).setTop g).pushFrame (.throwing q))
    rw [← hs₂]
    exact hsteps
end Payer
section Calls
variable {p : Program} {l : Launch} {e : Env} {R : Room} {s : State} {m : MethodId} {args : Array Value} {below : List Frame} {meth : Method} {c : Code} {T : State} {locs : List Loc} {cells slots : Nat}
theorem vx_callV (X : Stand p l e R s m args below meth c T locs cells slots) (hexec : p.tables.exec = Jvm.exec) {own C : String} {index : Nat} {y : MethodName} {bytes : ByteArray} {maxL : Nat} {ret : Option FieldType}
    (hown : s.vm.findClass own = some m.cls) (hlink : (Cond.methodLink own index y).before args s = true) (hinst : (Cond.instanceMethod y).before args s = true) (hsel : (Cond.selects C y y).before args s = true)
    (hcode : (Cond.code y bytes maxL ret).before args s = true) (hy : y.cls ≠ "java/lang/invoke/MethodHandle" ∧ y.cls ≠ "java/lang/invoke/VarHandle")
    {W9 : Nat} {Pre : Pt → Array Value → Prop} {Post : Pt → Array Value → Option Value → Pt → Prop} {PostX : Pt → Array Value → Addr → Pt → Prop} (hK : vx_Back l R p e below s args y 3 W9 Pre Post PostX)
    {b : Addr} {cellB : Cell} (hcell : T.heap[b]? = some cellB) (hobj : cellB.vm.isStatics = false) (hcls : s.vm.findClass C = some cellB.cls)
    {g : JFrame} (hg : g.method = m) (hsize : g.locals.size = c.maxLocals) {argsL rest : List Value} (hlen : ∀ sig, parseMethodDescriptor y.desc = some sig → argsL.length = sig.parameters.length)
    (hstack : g.stack = argsL.reverse ++ .ref b :: rest) (hW : 2 * g.monitorRoom + (rest.map fun v => v.category).sum ≤ W9) (hdg : decode c.code g.pc = .ok (.invokevirtual index, 3))
    (hpre : ∀ vm₁, s.WarmedH vm₁ → Pre ⟨T.setVm vm₁, locs, cells, slots⟩ (Value.ref b :: argsL).toArray) :
    (∃ (v : Option Value) (vm₁ : Vm) (B : Pt), s.WarmedH vm₁ ∧ Stand p l e R s m args below meth c B.U B.locs B.cells B.slots ∧ Post ⟨T.setVm vm₁, locs, cells, slots⟩ (Value.ref b :: argsL).toArray v B ∧
      ∀ target, Steps p.tables e below (B.U.setTop { g with pc := g.pc + 3, stack := v.toList ++ rest }) target → Steps p.tables e below (T.setTop g) target) ∨
    (∃ (q : Addr) (vm₁ : Vm) (B : Pt), s.WarmedH vm₁ ∧ Stand p l e R s m args below meth c B.U B.locs B.cells B.slots ∧ PostX ⟨T.setVm vm₁, locs, cells, slots⟩ (Value.ref b :: argsL).toArray q B ∧
      Steps p.tables e below (T.setTop g) ((B.U.setTop { g with stack := rest }).pushFrame (.throwing q))) := by
  obtain ⟨mk, methM, hnamed, hmethM, hstM, habM⟩ := Cond.instanceMethod_spec hinst
  obtain ⟨methM', cM, hmethM', -, -, -, -, -, -, hsigM⟩ := Cond.code_spec hnamed hcode
  cases hmethM.symm.trans hmethM'
  obtain ⟨c2, r2, m2, q1, q2, q3, q4, kP, hkP, hkPi⟩ := Cond.selects_spec hsel
  cases hcls.symm.trans q1
  cases (State.methodFound?_of_named hnamed hy).symm.trans q2
  cases hnamed.symm.trans q3
  have hselP : selectMethod e.platform s.vm cellB.cls mk = .method mk := by rw [Launch.admits_selectMethod X.admits]; exact q4
  obtain ⟨vm₁, X₁, hstep₁⟩ := X.invokevirtual hexec hown hlink hnamed hmethM hstM hkP hkPi hy (a := b) (cell := cellB) hcell
    (fun z h => by rw [h] at hobj; cases hobj) hselP hmethM habM hkP hkPi (g := g) hg (argsL := argsL) (rest := rest) (hlen _ hsigM) hstack hdg
  rcases hK m meth c ⟨T.setVm vm₁, locs, cells, slots⟩ { g with stack := rest } (.invokevirtual index) mk (Value.ref b :: argsL).toArray X₁ hg hsize hdg hW (X₁.named hnamed) (hpre vm₁ X₁.warmed) with ⟨v, B, X', hpost, hsteps⟩ | ⟨q, B, X', hpost, hsteps⟩
  · exact Or.inl ⟨v, vm₁, B, X₁.warmed, X', hpost, fun target h => hstep₁ _ fun acts => by rw [doInvoke_state]; exact hsteps.trans h⟩
  · exact Or.inr ⟨q, vm₁, B, X₁.warmed, X', hpost, hstep₁ _ fun acts => by rw [doInvoke_state]; exact hsteps⟩
theorem vx_callS (X : Stand p l e R s m args below meth c T locs cells slots) (hexec : p.tables.exec = Jvm.exec) {own : String} {index : Nat} {y : MethodName} {bytes : ByteArray} {maxL : Nat} {ret : Option FieldType}
    (hown : s.vm.findClass own = some m.cls) (hlink : (Cond.methodLink own index y).before args s = true) (hstat : (Cond.static y).before args s = true) (hinit : (Cond.initialized y.cls).before args s = true)
    (hcode : (Cond.code y bytes maxL ret).before args s = true) (hy : y.cls ≠ "java/lang/invoke/MethodHandle" ∧ y.cls ≠ "java/lang/invoke/VarHandle")
    {W9 : Nat} {Pre : Pt → Array Value → Prop} {Post : Pt → Array Value → Option Value → Pt → Prop} {PostX : Pt → Array Value → Addr → Pt → Prop} (hK : vx_Back l R p e below s args y 3 W9 Pre Post PostX)
    {g : JFrame} (hg : g.method = m) (hsize : g.locals.size = c.maxLocals) {argsL rest : List Value} (hlen : ∀ sig, parseMethodDescriptor y.desc = some sig → argsL.length = sig.parameters.length)
    (hstack : g.stack = argsL.reverse ++ rest) (hW : 2 * g.monitorRoom + (rest.map fun v => v.category).sum ≤ W9) (hdg : decode c.code g.pc = .ok (.invokestatic index, 3))
    (hpre : ∀ vm₁, s.WarmedH vm₁ → Pre ⟨T.setVm vm₁, locs, cells, slots⟩ argsL.toArray) :
    (∃ (v : Option Value) (vm₁ : Vm) (B : Pt), s.WarmedH vm₁ ∧ Stand p l e R s m args below meth c B.U B.locs B.cells B.slots ∧ Post ⟨T.setVm vm₁, locs, cells, slots⟩ argsL.toArray v B ∧
      ∀ target, Steps p.tables e below (B.U.setTop { g with pc := g.pc + 3, stack := v.toList ++ rest }) target → Steps p.tables e below (T.setTop g) target) ∨
    (∃ (q : Addr) (vm₁ : Vm) (B : Pt), s.WarmedH vm₁ ∧ Stand p l e R s m args below meth c B.U B.locs B.cells B.slots ∧ PostX ⟨T.setVm vm₁, locs, cells, slots⟩ argsL.toArray q B ∧
      Steps p.tables e below (T.setTop g) ((B.U.setTop { g with stack := rest }).pushFrame (.throwing q))) := by
  obtain ⟨mk, hnamed⟩ := Cond.code_named hcode
  obtain ⟨methM, cM, hmethM, -, -, -, -, -, -, hsigM⟩ := Cond.code_spec hnamed hcode
  have hstatic : methM.isStatic = true := Cond.static_spec hnamed hmethM hstat
  obtain ⟨kP, hkP, -⟩ := className_of_methodNamed hnamed
  have hinitP : kP.init = .initialized := Cond.initialized_spec (findClass_of_methodNamed hnamed) hkP hinit
  obtain ⟨vm₁, X₁, hstep₁⟩ := X.invokestatic hexec hown hlink hnamed hmethM hstatic hkP hinitP hy (g := g) hg (argsL := argsL) (rest := rest) (hlen _ hsigM) hstack hdg
  rcases hK m meth c ⟨T.setVm vm₁, locs, cells, slots⟩ { g with stack := rest } (.invokestatic index) mk argsL.toArray X₁ hg hsize hdg hW (X₁.named hnamed) (hpre vm₁ X₁.warmed) with ⟨v, B, X', hpost, hsteps⟩ | ⟨q, B, X', hpost, hsteps⟩
  · exact Or.inl ⟨v, vm₁, B, X₁.warmed, X', hpost, fun target h => hstep₁ _ fun acts => by rw [doInvoke_state]; exact hsteps.trans h⟩
  · exact Or.inr ⟨q, vm₁, B, X₁.warmed, X', hpost, hstep₁ _ fun acts => by rw [doInvoke_state]; exact hsteps⟩
end Calls
theorem vx_cls {s : State} {T : State} {vm₁ : Vm} {E : String} {k : ClassId} (hW : s.WarmedH vm₁) (h : (T.setVm vm₁).vm.findClass E = some k) : s.vm.findClass E = some k := by
  have h1 : vm₁.findClass E = some k := h
  rw [hW.alike.findClass] at h1
  exact h1

def vx_W (p : Program) (l : Launch) (e : Env) (R : Room) (s : State) (m : MethodId) (args : Array Value) (below : List Frame) (meth : Method) (c : Code) (H : Heap) (locs : List Loc) (cells slots : Nat) (Q : State → Prop) (g : JFrame) (q : Addr) : Prop :=
  ∀ T : State, T.heap = H → Stand p l e R s m args below meth c T locs cells slots → ∃ t, Steps p.tables e below ((T.setTop g).pushFrame (.throwing q)) t ∧ Q t
def vx_Run (p : Program) (l : Launch) (e : Env) (R : Room) (s : State) (m : MethodId) (args : Array Value) (below : List Frame) (meth : Method) (c : Code) (H : Heap) (locs : List Loc) (cells slots mc ms : Nat) (g : JFrame) (rest : List Value) (Qa : State → Outcome → State → Prop) (XC : String → State → State → Prop) (free : Addr → Prop) : Prop :=
  ∀ T : State, T.heap = H → Stand p l e R s m args below meth c T locs cells slots →
    (∃ (v : Option Value) (st₀ t T' : State) (L : List Loc), st₀.heap = H ∧ Stand p l e R s m args below meth c T' (locs ++ L) (cells + mc) (slots + ms) ∧ (∀ q ∈ L, free q.base) ∧ T'.heap = t.heap ∧ T'.vm = t.vm ∧ Qa st₀ (.returned v) t ∧
      Goes p e below T g T' { g with pc := g.pc + 3, stack := v.toList ++ rest }) ∨
    (∃ (q : Addr) (st₀ t T' : State) (L : List Loc) (E : String) (ce : Cell), st₀.heap = H ∧ Stand p l e R s m args below meth c T' (locs ++ L) (cells + mc) (slots + ms) ∧ (∀ z ∈ L, free z.base) ∧ T'.heap = t.heap ∧ T'.vm = t.vm ∧ XC E st₀ t ∧ t.heap[q]? = some ce ∧ ce.vm = .none ∧ s.vm.findClass E = some ce.cls ∧
      Steps p.tables e below (T.setTop g) ((T'.setTop { g with stack := rest }).pushFrame (.throwing q)))
def vx_X {S : Type} (px : S → Prop) (B : String → S → State → Prop) (A : Nat → Prop) : String → State → State → Prop := fun E st t => ∃ u : S, px u ∧ B E u t ∧ va_F A st t
section Runs
variable {p : Program} {l : Launch} {e : Env} {R : Room} {s : State} {m : MethodId} {args : Array Value} {below : List Frame} {meth : Method} {c : Code} {H : Heap} {locs : List Loc} {cells slots : Nat}
variable {y : MethodName} {bytes cc : ByteArray} {maxL nL mc ms n index : Nat} {ret : Option FieldType} {ws : List Cond} {rm : Room} {Pc : Array Value → State → Prop} {Qc : Array Value → State → Outcome → State → Prop} {XC : String → State → State → Prop} {free : Addr → Prop} {Ts : List Cond} {own C : String} {b : Addr} {As rest : List Value} {g : JFrame}
theorem vx_callBack (cb : CallB R s args own index y bytes maxL ret ws rm mc ms n) (hM : vx_Met l y ws rm Pc Qc XC mc ms free) (hbl : FrameBlind Pc) : vx_Back l R p e below s args y 3 8 (PreOf R mc ms Pc) (PostOf Qc mc ms free) (vx_Post XC mc ms free) := by
  obtain ⟨hrc, hrs, hfr, hlo, hws, hcw, -, hini, -⟩ := cb
  exact vx_back (bytes := bytes) (maxL := maxL) (ret := ret) hM hbl hrc hrs hfr hlo hws hcw (fun a' U hW => word_at hW (Or.inl (by first | rfl | simp [Cond.onTables, Cond.keeps, Cond.steady])) hini)
theorem vx_runV (S : CallFix p m c cc nL s args Ts own) (hM : vx_Met l y ws rm Pc Qc XC mc ms free) (cw : CallW R s args own C index y bytes maxL ret ws rm mc ms n) (hp : PreV s H C b Pc As)
    (hg : g.method = m) (hn : As.length = n) (hsize : g.locals.size = nL) (hstack : g.stack = As.reverse ++ .ref b :: rest) (hW : 2 * g.monitorRoom + (rest.map fun v => v.category).sum ≤ 8) (hdg : decode cc g.pc = .ok (.invokevirtual index, 3)) (hf : cells + mc ≤ R.cells ∧ slots + ms ≤ R.slots) :
    vx_Run p l e R s m args below meth c H locs cells slots mc ms g rest (Qc (Value.ref b :: As).toArray) XC free := by
  have hK : vx_Back l R p e below s args y 3 8 (PreOf R mc ms Pc) (PostOf Qc mc ms free) (vx_Post XC mc ms free) := vx_callBack cw.1 hM hp.1
  obtain ⟨⟨-, -, -, -, -, -, hcode, -, hy, hlen, hl⟩, hin, hse⟩ := cw
  obtain ⟨hx, hb, hml, ho, -⟩ := S
  obtain ⟨-, ⟨cellB, hcB, hoB, hclB⟩, hPc⟩ := hp
  intro T hT X
  rcases vx_callV X hx (C := C) (bytes := bytes) (maxL := maxL) (ret := ret) ho hl hin hse hcode hy hK (by rw [hT]; exact hcB) hoB hclB hg (hsize.trans hml.symm) (argsL := As) (rest := rest) (fun sig h => hn.trans (hlen sig h)) hstack hW (by rw [hb]; exact hdg)
    (fun vm₁ hW₁ => ⟨hf.1, hf.2, hPc (T.setVm vm₁) hT hW₁⟩) with ⟨v, vm₁, ⟨U', l2, c2, s2⟩, hW₁, X', ⟨g', mk, t, L, e1, e2, hq, h1, hL, h2, h3⟩, st⟩ | ⟨q, vm₁, ⟨U', l2, c2, s2⟩, hW₁, X', ⟨g', mk, t, L, E, ce, e1, e2, hq, hce, hcv, hcl, h1, hL, h2, h3⟩, st⟩
  · dsimp only [Pt.U, Pt.locs, Pt.cells, Pt.slots] at X' e1 e2 h1 h2 h3 st
    subst h1; subst h2; subst h3
    exact Or.inl ⟨v, (T.setVm vm₁).calling g' mk (Value.ref b :: As).toArray, t, U', L, hT, X', hL, e1, e2, hq, st⟩
  · dsimp only [Pt.U, Pt.locs, Pt.cells, Pt.slots] at X' e1 e2 h1 h2 h3 st hcl
    subst h1; subst h2; subst h3
    exact Or.inr ⟨q, (T.setVm vm₁).calling g' mk (Value.ref b :: As).toArray, t, U', L, E, ce, hT, X', hL, e1, e2, hq, hce, hcv, vx_cls hW₁ hcl, st⟩
theorem vx_runS (S : CallFix p m c cc nL s args Ts own) (hM : vx_Met l y ws rm Pc Qc XC mc ms free) (cw : CallB R s args own index y bytes maxL ret ws rm mc ms n ∧ (Cond.static y).before args s = true) (hp : PreS s H Pc As)
    (hg : g.method = m) (hn : As.length = n) (hsize : g.locals.size = nL) (hstack : g.stack = As.reverse ++ rest) (hW : 2 * g.monitorRoom + (rest.map fun v => v.category).sum ≤ 8) (hdg : decode cc g.pc = .ok (.invokestatic index, 3)) (hf : cells + mc ≤ R.cells ∧ slots + ms ≤ R.slots) :
    vx_Run p l e R s m args below meth c H locs cells slots mc ms g rest (Qc As.toArray) XC free := by
  have hK : vx_Back l R p e below s args y 3 8 (PreOf R mc ms Pc) (PostOf Qc mc ms free) (vx_Post XC mc ms free) := vx_callBack cw.1 hM hp.1
  obtain ⟨⟨-, -, -, -, -, -, hcode, hini, hy, hlen, hl⟩, hstt⟩ := cw
  obtain ⟨hx, hb, hml, ho, -⟩ := S
  intro T hT X
  rcases vx_callS X hx (bytes := bytes) (maxL := maxL) (ret := ret) ho hl hstt hini hcode hy hK hg (hsize.trans hml.symm) (argsL := As) (rest := rest) (fun sig h => hn.trans (hlen sig h)) hstack hW (by rw [hb]; exact hdg)
    (fun vm₁ hW₁ => ⟨hf.1, hf.2, hp.2 (T.setVm vm₁) hT hW₁⟩) with ⟨v, vm₁, ⟨U', l2, c2, s2⟩, hW₁, X', ⟨g', mk, t, L, e1, e2, hq, h1, hL, h2, h3⟩, st⟩ | ⟨q, vm₁, ⟨U', l2, c2, s2⟩, hW₁, X', ⟨g', mk, t, L, E, ce, e1, e2, hq, hce, hcv, hcl, h1, hL, h2, h3⟩, st⟩
  · dsimp only [Pt.U, Pt.locs, Pt.cells, Pt.slots] at X' e1 e2 h1 h2 h3 st
    subst h1; subst h2; subst h3
    exact Or.inl ⟨v, (T.setVm vm₁).calling g' mk As.toArray, t, U', L, hT, X', hL, e1, e2, hq, st⟩
  · dsimp only [Pt.U, Pt.locs, Pt.cells, Pt.slots] at X' e1 e2 h1 h2 h3 st hcl
    subst h1; subst h2; subst h3
    exact Or.inr ⟨q, (T.setVm vm₁).calling g' mk As.toArray, t, U', L, E, ce, hT, X', hL, e1, e2, hq, hce, hcv, vx_cls hW₁ hcl, st⟩
end Runs
section Rows
variable {p : Program} {l : Launch} {e : Env} {R : Room} {s : State} {m : MethodId} {args : Array Value} {below : List Frame} {meth : Method} {c : Code} {H : Heap} {locs : List Loc} {cells slots : Nat} {Q : State → Prop}
variable {mc ms : Nat} {free : Addr → Prop} {A0 A1 : Nat → Prop} {H0 : Heap} {a : Array Value} {pc : Nat} {ls : Array Slot} {st0 rest : List Value}
theorem vx_keep {st₀ t T' : State} {L : List Loc} (h0 : st₀.heap = H) (e1 : T'.heap = t.heap) (hS : va_S A0 H0 H locs) (hA : ∀ q, q < H.size → A1 q → A0 q) (hf : ∀ q, free q → A0 q) (hL : ∀ q ∈ L, free q.base) (hF : va_F A1 st₀ t) :
    H.size ≤ T'.heap.size ∧ (∀ q : Nat, q < H.size → ¬ A1 q → T'.heap[q]? = H[q]?) ∧ va_S A0 H0 T'.heap (locs ++ L) := by
  obtain ⟨hz, hk⟩ := hF
  rw [h0] at hz hk
  exact ⟨by rw [e1]; exact hz, fun q h1 h2 => by rw [e1]; exact hk q h1 h2,
    ⟨Nat.le_trans hS.1 (by rw [e1]; exact hz), fun q h1 h2 => by rw [e1, hk q (Nat.lt_of_lt_of_le h1 hS.1) (fun z => h2 (hA q (Nat.lt_of_lt_of_le h1 hS.1) z))]; exact hS.2.1 q h1 h2, fun q hq => by
      rcases List.mem_append.mp hq with h | h
      · exact hS.2.2 q h
      · exact hf _ (hL q h)⟩⟩
theorem vx_calli {S SX : Type} {post : Int32 → S → Prop} {px : SX → Prop} {B : S → State → Prop} {BX : String → SX → State → Prop} {AX : Nat → Prop} (hr : vx_Run p l e R s m args below meth c H locs cells slots mc ms (F0 m pc ls st0) rest (va_Qi post B A1 a) (vx_X px BX AX) free) (hS : va_S A0 H0 H locs) (hA : ∀ q, q < H.size → A1 q → A0 q) (hf : ∀ q, free q → A0 q) (hAX : ∀ q, q < H.size → AX q → A0 q)
    (kx : ∀ (E : String) (ce : Cell) (q9 : Addr) (u : SX) (t : State) (H1 : Heap) (locs1 : List Loc), t.heap = H1 → s.vm.Alike t.vm → px u → BX E u t → H.size ≤ H1.size → (∀ q : Nat, q < H.size → ¬ AX q → H1[q]? = H[q]?) → va_S A0 H0 H1 locs1 → H1[q9]? = some ce → ce.vm = .none → s.vm.findClass E = some ce.cls → vx_W p l e R s m args below meth c H1 locs1 (cells + mc) (slots + ms) Q (F0 m pc ls rest) q9)
    (kk : ∀ (r : Int32) (u : S) (t : State) (H1 : Heap) (locs1 : List Loc), t.heap = H1 → s.vm.Alike t.vm → post r u → B u t → H.size ≤ H1.size → (∀ q : Nat, q < H.size → ¬ A1 q → H1[q]? = H[q]?) → va_S A0 H0 H1 locs1 → W p l e R s m args below meth c H1 locs1 (cells + mc) (slots + ms) Q (F0 m (pc + 3) ls (.int r :: rest))) : W p l e R s m args below meth c H locs cells slots Q (F0 m pc ls st0) := by
  intro T hT X
  rcases hr T hT X with ⟨v, st₀, t, T', L, h0, X', hL, e1, e2, ⟨⟨r, u, hv, hp, hb⟩, hF⟩, st⟩ | ⟨q, st₀, t, T', L, E, ce, h0, X', hL, e1, e2, ⟨u, hp, hb, hF⟩, hce, hcv, hcl, st⟩
  · cases hv
    obtain ⟨k1, k2, k3⟩ := vx_keep h0 e1 hS hA hf hL hF
    obtain ⟨t2, a1, b1⟩ := kk r u t T'.heap (locs ++ L) e1.symm (by rw [← e2]; exact X'.warmed.alike) hp hb k1 k2 k3 T' rfl X'
    exact ⟨t2, st t2 a1, b1⟩
  · obtain ⟨k1, k2, k3⟩ := vx_keep h0 e1 hS hAX hf hL hF
    obtain ⟨t2, a1, b1⟩ := kx E ce q u t T'.heap (locs ++ L) e1.symm (by rw [← e2]; exact X'.warmed.alike) hp hb k1 k2 k3 (by rw [e1]; exact hce) hcv hcl T' rfl X'
    exact ⟨t2, st.trans a1, b1⟩
theorem vx_calll {S SX : Type} {post : Int64 → S → Prop} {px : SX → Prop} {B : S → State → Prop} {BX : String → SX → State → Prop} {AX : Nat → Prop} (hr : vx_Run p l e R s m args below meth c H locs cells slots mc ms (F0 m pc ls st0) rest (va_Ql post B A1 a) (vx_X px BX AX) free) (hS : va_S A0 H0 H locs) (hA : ∀ q, q < H.size → A1 q → A0 q) (hf : ∀ q, free q → A0 q) (hAX : ∀ q, q < H.size → AX q → A0 q)
    (kx : ∀ (E : String) (ce : Cell) (q9 : Addr) (u : SX) (t : State) (H1 : Heap) (locs1 : List Loc), t.heap = H1 → s.vm.Alike t.vm → px u → BX E u t → H.size ≤ H1.size → (∀ q : Nat, q < H.size → ¬ AX q → H1[q]? = H[q]?) → va_S A0 H0 H1 locs1 → H1[q9]? = some ce → ce.vm = .none → s.vm.findClass E = some ce.cls → vx_W p l e R s m args below meth c H1 locs1 (cells + mc) (slots + ms) Q (F0 m pc ls rest) q9)
    (kk : ∀ (r : Int64) (u : S) (t : State) (H1 : Heap) (locs1 : List Loc), t.heap = H1 → s.vm.Alike t.vm → post r u → B u t → H.size ≤ H1.size → (∀ q : Nat, q < H.size → ¬ A1 q → H1[q]? = H[q]?) → va_S A0 H0 H1 locs1 → W p l e R s m args below meth c H1 locs1 (cells + mc) (slots + ms) Q (F0 m (pc + 3) ls (.long r :: rest))) : W p l e R s m args below meth c H locs cells slots Q (F0 m pc ls st0) := by
  intro T hT X
  rcases hr T hT X with ⟨v, st₀, t, T', L, h0, X', hL, e1, e2, ⟨⟨r, u, hv, hp, hb⟩, hF⟩, st⟩ | ⟨q, st₀, t, T', L, E, ce, h0, X', hL, e1, e2, ⟨u, hp, hb, hF⟩, hce, hcv, hcl, st⟩
  · cases hv
    obtain ⟨k1, k2, k3⟩ := vx_keep h0 e1 hS hA hf hL hF
    obtain ⟨t2, a1, b1⟩ := kk r u t T'.heap (locs ++ L) e1.symm (by rw [← e2]; exact X'.warmed.alike) hp hb k1 k2 k3 T' rfl X'
    exact ⟨t2, st t2 a1, b1⟩
  · obtain ⟨k1, k2, k3⟩ := vx_keep h0 e1 hS hAX hf hL hF
    obtain ⟨t2, a1, b1⟩ := kx E ce q u t T'.heap (locs ++ L) e1.symm (by rw [← e2]; exact X'.warmed.alike) hp hb k1 k2 k3 (by rw [e1]; exact hce) hcv hcl T' rfl X'
    exact ⟨t2, st.trans a1, b1⟩
theorem vx_callf {S SX : Type} {post : UInt32 → S → Prop} {px : SX → Prop} {B : S → State → Prop} {BX : String → SX → State → Prop} {AX : Nat → Prop} (hr : vx_Run p l e R s m args below meth c H locs cells slots mc ms (F0 m pc ls st0) rest (va_Qf post B A1 a) (vx_X px BX AX) free) (hS : va_S A0 H0 H locs) (hA : ∀ q, q < H.size → A1 q → A0 q) (hf : ∀ q, free q → A0 q) (hAX : ∀ q, q < H.size → AX q → A0 q)
    (kx : ∀ (E : String) (ce : Cell) (q9 : Addr) (u : SX) (t : State) (H1 : Heap) (locs1 : List Loc), t.heap = H1 → s.vm.Alike t.vm → px u → BX E u t → H.size ≤ H1.size → (∀ q : Nat, q < H.size → ¬ AX q → H1[q]? = H[q]?) → va_S A0 H0 H1 locs1 → H1[q9]? = some ce → ce.vm = .none → s.vm.findClass E = some ce.cls → vx_W p l e R s m args below meth c H1 locs1 (cells + mc) (slots + ms) Q (F0 m pc ls rest) q9)
    (kk : ∀ (r : UInt32) (u : S) (t : State) (H1 : Heap) (locs1 : List Loc), t.heap = H1 → s.vm.Alike t.vm → post r u → B u t → H.size ≤ H1.size → (∀ q : Nat, q < H.size → ¬ A1 q → H1[q]? = H[q]?) → va_S A0 H0 H1 locs1 → W p l e R s m args below meth c H1 locs1 (cells + mc) (slots + ms) Q (F0 m (pc + 3) ls (.float r :: rest))) : W p l e R s m args below meth c H locs cells slots Q (F0 m pc ls st0) := by
  intro T hT X
  rcases hr T hT X with ⟨v, st₀, t, T', L, h0, X', hL, e1, e2, ⟨⟨r, u, hv, hp, hb⟩, hF⟩, st⟩ | ⟨q, st₀, t, T', L, E, ce, h0, X', hL, e1, e2, ⟨u, hp, hb, hF⟩, hce, hcv, hcl, st⟩
  · cases hv
    obtain ⟨k1, k2, k3⟩ := vx_keep h0 e1 hS hA hf hL hF
    obtain ⟨t2, a1, b1⟩ := kk r u t T'.heap (locs ++ L) e1.symm (by rw [← e2]; exact X'.warmed.alike) hp hb k1 k2 k3 T' rfl X'
    exact ⟨t2, st t2 a1, b1⟩
  · obtain ⟨k1, k2, k3⟩ := vx_keep h0 e1 hS hAX hf hL hF
    obtain ⟨t2, a1, b1⟩ := kx E ce q u t T'.heap (locs ++ L) e1.symm (by rw [← e2]; exact X'.warmed.alike) hp hb k1 k2 k3 (by rw [e1]; exact hce) hcv hcl T' rfl X'
    exact ⟨t2, st.trans a1, b1⟩
theorem vx_calld {S SX : Type} {post : UInt64 → S → Prop} {px : SX → Prop} {B : S → State → Prop} {BX : String → SX → State → Prop} {AX : Nat → Prop} (hr : vx_Run p l e R s m args below meth c H locs cells slots mc ms (F0 m pc ls st0) rest (va_Qd post B A1 a) (vx_X px BX AX) free) (hS : va_S A0 H0 H locs) (hA : ∀ q, q < H.size → A1 q → A0 q) (hf : ∀ q, free q → A0 q) (hAX : ∀ q, q < H.size → AX q → A0 q)
    (kx : ∀ (E : String) (ce : Cell) (q9 : Addr) (u : SX) (t : State) (H1 : Heap) (locs1 : List Loc), t.heap = H1 → s.vm.Alike t.vm → px u → BX E u t → H.size ≤ H1.size → (∀ q : Nat, q < H.size → ¬ AX q → H1[q]? = H[q]?) → va_S A0 H0 H1 locs1 → H1[q9]? = some ce → ce.vm = .none → s.vm.findClass E = some ce.cls → vx_W p l e R s m args below meth c H1 locs1 (cells + mc) (slots + ms) Q (F0 m pc ls rest) q9)
    (kk : ∀ (r : UInt64) (u : S) (t : State) (H1 : Heap) (locs1 : List Loc), t.heap = H1 → s.vm.Alike t.vm → post r u → B u t → H.size ≤ H1.size → (∀ q : Nat, q < H.size → ¬ A1 q → H1[q]? = H[q]?) → va_S A0 H0 H1 locs1 → W p l e R s m args below meth c H1 locs1 (cells + mc) (slots + ms) Q (F0 m (pc + 3) ls (.double r :: rest))) : W p l e R s m args below meth c H locs cells slots Q (F0 m pc ls st0) := by
  intro T hT X
  rcases hr T hT X with ⟨v, st₀, t, T', L, h0, X', hL, e1, e2, ⟨⟨r, u, hv, hp, hb⟩, hF⟩, st⟩ | ⟨q, st₀, t, T', L, E, ce, h0, X', hL, e1, e2, ⟨u, hp, hb, hF⟩, hce, hcv, hcl, st⟩
  · cases hv
    obtain ⟨k1, k2, k3⟩ := vx_keep h0 e1 hS hA hf hL hF
    obtain ⟨t2, a1, b1⟩ := kk r u t T'.heap (locs ++ L) e1.symm (by rw [← e2]; exact X'.warmed.alike) hp hb k1 k2 k3 T' rfl X'
    exact ⟨t2, st t2 a1, b1⟩
  · obtain ⟨k1, k2, k3⟩ := vx_keep h0 e1 hS hAX hf hL hF
    obtain ⟨t2, a1, b1⟩ := kx E ce q u t T'.heap (locs ++ L) e1.symm (by rw [← e2]; exact X'.warmed.alike) hp hb k1 k2 k3 (by rw [e1]; exact hce) hcv hcl T' rfl X'
    exact ⟨t2, st.trans a1, b1⟩
theorem vx_callv {S SX : Type} {post : S → Prop} {px : SX → Prop} {B : S → State → Prop} {BX : String → SX → State → Prop} {AX : Nat → Prop} (hr : vx_Run p l e R s m args below meth c H locs cells slots mc ms (F0 m pc ls st0) rest (va_Qv post B A1 a) (vx_X px BX AX) free) (hS : va_S A0 H0 H locs) (hA : ∀ q, q < H.size → A1 q → A0 q) (hf : ∀ q, free q → A0 q) (hAX : ∀ q, q < H.size → AX q → A0 q)
    (kx : ∀ (E : String) (ce : Cell) (q9 : Addr) (u : SX) (t : State) (H1 : Heap) (locs1 : List Loc), t.heap = H1 → s.vm.Alike t.vm → px u → BX E u t → H.size ≤ H1.size → (∀ q : Nat, q < H.size → ¬ AX q → H1[q]? = H[q]?) → va_S A0 H0 H1 locs1 → H1[q9]? = some ce → ce.vm = .none → s.vm.findClass E = some ce.cls → vx_W p l e R s m args below meth c H1 locs1 (cells + mc) (slots + ms) Q (F0 m pc ls rest) q9)
    (kk : ∀ (u : S) (t : State) (H1 : Heap) (locs1 : List Loc), t.heap = H1 → s.vm.Alike t.vm → post u → B u t → H.size ≤ H1.size → (∀ q : Nat, q < H.size → ¬ A1 q → H1[q]? = H[q]?) → va_S A0 H0 H1 locs1 → W p l e R s m args below meth c H1 locs1 (cells + mc) (slots + ms) Q (F0 m (pc + 3) ls (rest))) : W p l e R s m args below meth c H locs cells slots Q (F0 m pc ls st0) := by
  intro T hT X
  rcases hr T hT X with ⟨v, st₀, t, T', L, h0, X', hL, e1, e2, ⟨⟨u, hv, hp, hb⟩, hF⟩, st⟩ | ⟨q, st₀, t, T', L, E, ce, h0, X', hL, e1, e2, ⟨u, hp, hb, hF⟩, hce, hcv, hcl, st⟩
  · cases hv
    obtain ⟨k1, k2, k3⟩ := vx_keep h0 e1 hS hA hf hL hF
    obtain ⟨t2, a1, b1⟩ := kk u t T'.heap (locs ++ L) e1.symm (by rw [← e2]; exact X'.warmed.alike) hp hb k1 k2 k3 T' rfl X'
    exact ⟨t2, st t2 a1, b1⟩
  · obtain ⟨k1, k2, k3⟩ := vx_keep h0 e1 hS hAX hf hL hF
    obtain ⟨t2, a1, b1⟩ := kx E ce q u t T'.heap (locs ++ L) e1.symm (by rw [← e2]; exact X'.warmed.alike) hp hb k1 k2 k3 (by rw [e1]; exact hce) hcv hcl T' rfl X'
    exact ⟨t2, st.trans a1, b1⟩
end Rows
section Ends
variable {p : Program} {l : Launch} {e : Env} {R : Room} {s : State} {m : MethodId} {args : Array Value} {below : List Frame} {meth : Method} {c : Code} {H : Heap} {locs : List Loc} {cells slots : Nat} {Q : State → Prop}
variable {mc ms : Nat} {free : Addr → Prop} {A0 A1 : Nat → Prop} {H0 : Heap} {a : Array Value} {ls : Array Slot} {st0 rest : List Value}
variable {Qc : Array Value → State → Outcome → State → Prop} {XC : String → State → State → Prop}

def vx_MQ (below : List Frame) (Qc : Array Value → State → Outcome → State → Prop) (XC : String → State → State → Prop) (a : Array Value) (s : State) (mc ms : Nat) (free : Addr → Prop) : State → Prop := fun t =>
  ∃ o, t.status = .running ∧ Ended t below o ∧ vx_Q Qc XC mc ms free a s o t
theorem vx_ret {g : JFrame} {mc ms : Nat} (k : W p l e R s m args below meth c H locs cells slots (MQ below Qc args s mc ms free) g) : W p l e R s m args below meth c H locs cells slots (vx_MQ below Qc XC args s mc ms free) g := by
  intro T hT X
  obtain ⟨t, a1, o, b1, b2, b3, b4⟩ := k T hT X
  exact ⟨t, a1, o, b1, b2, Or.inl ⟨b3, b4⟩⟩

theorem vx_widen {g : JFrame} {q : Addr} {k n : Nat} (h1 : cells ≤ k) (h2 : slots ≤ n) (kk : vx_W p l e R s m args below meth c H locs k n Q g q) : vx_W p l e R s m args below meth c H locs cells slots Q g q := fun T hT X => kk T hT (stand_widen X h1 h2)
theorem vx_out {pc : Nat} {E : String} {ce : Cell} {q : Addr} {mc ms : Nat} (hout : ∀ x ∈ c.exceptionTable.toList, covers x pc = false) (hlocks : meth.locks = false) (hcell : H[q]? = some ce) (hv : ce.vm = .none) (hcl : s.vm.findClass E = some ce.cls)
    (hx : ∀ t : State, t.heap = H → s.vm.Alike t.vm → XC E s t) (hf : ∀ z ∈ locs, free z.base) (hc : cells ≤ mc) (hs : slots ≤ ms) :
    vx_W p l e R s m args below meth c H locs cells slots (vx_MQ below Qc XC args s mc ms free) (F0 m pc ls rest) q := by
  intro T hT X
  obtain ⟨st1, hrun, hend, hW, hsm⟩ := X.leaveThrown q (g := F0 m pc ls rest) rfl rfl rfl hout hlocks
  have hcell9 : (T.setFrames (.throwing q :: below)).heap[q]? = some ce := by
    show T.heap[q]? = some ce
    rw [hT]; exact hcell
  exact ⟨_, st1, .threw q, hrun, hend, Or.inr ⟨q, rfl, E, ce, locs, hx _ hT hW.alike, hcell9, hv, hcl, hW, hsm.mono hc hs, hf⟩⟩
theorem vx_frame {U : State} {k n : Nat} (h : s.sameButNew ({ U with vm := s.vm } : State) locs k n) : s.heap.size ≤ U.heap.size ∧ ∀ q : Nat, q < s.heap.size → (∀ z ∈ locs, z.base ≠ q) → U.heap[q]? = s.heap[q]? := by
  obtain ⟨-, h2, -, -, -, h6⟩ := h
  refine ⟨h2, fun q hq hz => ?_⟩
  obtain ⟨c9, e1, e2, e3, e4⟩ := h6 q _ (Array.getElem?_eq_getElem hq)
  have hs : c9.slots = (s.heap[q]).slots := Array.ext_getElem? fun i => e4 i fun hm => hz _ hm rfl
  have h9 : c9 = s.heap[q] := by
    rw [hs] at e2
    exact e2
  have e5 : U.heap[q]? = some c9 := e1
  rw [e5, h9, Array.getElem?_eq_getElem hq]

def vx_no (w : Cond) : Bool := decide (w ≠ .isRef (.static Bundle.tN "UNASSIGNED_STACK" Bundle.steD)) && decide (w ≠ .isRef (.static Bundle.tN "SUPPRESSED_SENTINEL" Bundle.listD)) && decide (w ≠ .laysStatic Bundle.tN "UNASSIGNED_STACK" Bundle.steD) && decide (w ≠ .laysStatic Bundle.tN "SUPPRESSED_SENTINEL" Bundle.listD)
def vx_at0 (own : String) (ic : Nat) (X : String) (names : List String) : List Cond := (Bundle.ownAtoms0 own ic X names).filter vx_no
def vx_atS (own : String) (ic : Nat) (X : String) (names : List String) : List Cond := (Bundle.ownAtoms own ic X names).filter vx_no

def vx_ot (w : Cond) : Bool := w.onTables || goodWord w
theorem vx_ot_at {args a' : Array Value} {s U : State} {w : Cond} (hW : s.WarmedH U.vm) (hvm : s.vm = U.vm) (hg : vx_ot w = true) (h : w.before args s = true) : w.before a' U = true := by
  simp only [vx_ot, Bool.or_eq_true] at hg
  rcases hg with hg | hg
  · exact va_tabs hg hvm h
  · exact word_at hW (good_of_word hg) h

theorem vx_hat {args : Array Value} {s : State} {L B : List Cond} (h1 : ∀ w ∈ L.filter goodWord, w.before args s = true) (h2 : ∀ w ∈ L.filter (fun w => !goodWord w), w ∈ B) (h3 : ∀ w ∈ B, w.before args s = true) : ∀ w ∈ L, w.before args s = true := by
  intro w hw
  by_cases g : goodWord w = true
  · exact h1 w (List.mem_filter.mpr ⟨hw, g⟩)
  · refine h3 w (h2 w (List.mem_filter.mpr ⟨hw, ?_⟩))
    show (!goodWord w) = true
    cases hgw : goodWord w
    · rfl
    · exact absurd hgw g
theorem vx_c {args : Array Value} {s : State} {w : Cond} {B : List Cond} (h : w.before args s = true) (t : ∀ w ∈ B, w.before args s = true) : ∀ w' ∈ w :: B, w'.before args s = true := fun w' h' => (List.mem_cons.mp h').elim (fun e => by rw [e]; exact h) (t w')
theorem vx_n {args : Array Value} {s : State} : ∀ w ∈ ([] : List Cond), w.before args s = true := fun _ h => nomatch h
theorem vx_own {args : Array Value} {s : State} {L : List Cond} (h1 : ∀ w ∈ L.filter vx_no, w.before args s = true)
    (hU : (Cond.isRef (.static Bundle.tN "UNASSIGNED_STACK" Bundle.steD)).before args s = true) (hN : (Cond.isRef (.static Bundle.tN "SUPPRESSED_SENTINEL" Bundle.listD)).before args s = true)
    (lU : (Cond.laysStatic Bundle.tN "UNASSIGNED_STACK" Bundle.steD).before args s = true) (lN : (Cond.laysStatic Bundle.tN "SUPPRESSED_SENTINEL" Bundle.listD).before args s = true) : ∀ w ∈ L, w.before args s = true := by
  intro w hw
  by_cases e1 : w = .isRef (.static Bundle.tN "UNASSIGNED_STACK" Bundle.steD)
  · rw [e1]; exact hU
  · by_cases e2 : w = .isRef (.static Bundle.tN "SUPPRESSED_SENTINEL" Bundle.listD)
    · rw [e2]; exact hN
    · by_cases e3 : w = .laysStatic Bundle.tN "UNASSIGNED_STACK" Bundle.steD
      · rw [e3]; exact lU
      · by_cases e4 : w = .laysStatic Bundle.tN "SUPPRESSED_SENTINEL" Bundle.listD
        · rw [e4]; exact lN
        · exact h1 w (List.mem_filter.mpr ⟨hw, by unfold vx_no; rw [decide_eq_true e1, decide_eq_true e2, decide_eq_true e3, decide_eq_true e4]; rfl⟩)

def vx_L (C n d : String) (A : Nat → Prop) (U : State) (H : Heap) : Prop := ∃ (c : ClassId) (k : Class) (i : Nat) (f : Field) (a : Nat) (cell : Cell), U.vm.findClass C = some c ∧ U.fieldFound? C n d = some (c, k, i, f) ∧ f.isStatic = true ∧ k.statics = some a ∧ H[a]? = some cell ∧ cell.vm.isStatics = true ∧ cell.cls = c ∧ f.slot < cell.slots.size ∧ k.staticTypes[f.slot]? = some f.type ∧ ¬ A a
theorem vx_L.moved {C n d : String} {A : Nat → Prop} {u U : State} {H : Heap} (hvm : u.vm.Alike U.vm) (h : vx_L C n d A u H) : vx_L C n d A U H := by
  obtain ⟨c, k, i, f, a, cell, h1, h2, h3, h4, h5, h6, h7, h8, h9, h10⟩ := h
  obtain ⟨k', hi', he⟩ := State.fieldFound?_setVm hvm h2
  exact ⟨c, k', i, f, a, cell, by rw [hvm.findClass]; exact h1, hi', h3, by rw [he]; exact h4, h5, h6, h7, h8, by rw [he]; exact h9, h10⟩
theorem vx_L.kept {C n d : String} {A : Nat → Prop} {U : State} {H H1 : Heap} (h : vx_L C n d A U H) (hq : ∀ a : Nat, a < H.size → ¬ A a → H1[a]? = H[a]?) : vx_L C n d A U H1 := by
  obtain ⟨c, k, i, f, a, cell, h1, h2, h3, h4, h5, h6, h7, h8, h9, h10⟩ := h
  exact ⟨c, k, i, f, a, cell, h1, h2, h3, h4, by rw [hq a (Array.getElem?_eq_some_iff.mp h5).1 h10]; exact h5, h6, h7, h8, h9, h10⟩
theorem vx_L.narrow {C n d : String} {A B : Nat → Prop} {U : State} {H : Heap} (h : vx_L C n d A U H) (hAB : ∀ q, B q → A q) : vx_L C n d B U H := by
  obtain ⟨c, k, i, f, a, cell, h1, h2, h3, h4, h5, h6, h7, h8, h9, h10⟩ := h
  exact ⟨c, k, i, f, a, cell, h1, h2, h3, h4, h5, h6, h7, h8, h9, fun z => h10 (hAB _ z)⟩
theorem vx_L.word {C n d : String} {A : Nat → Prop} {s : State} {args : Array Value} (h : vx_L C n d A s s.heap) : (Cond.laysStatic C n d).before args s = true := by
  obtain ⟨c, k, i, f, a, cell, h1, h2, h3, h4, h5, h6, h7, h8, h9, -⟩ := h
  show (Cond.laysStatic C n d).holds args s none s [] = true
  exact Cond.laysStatic_of h1 h2 h3 h4 h5 h6 h7 h8 h9

def vx_Zq (C n d : String) (A : Nat → Prop) (U : State) (H : Heap) : Prop := va_Zq C n d A U H ∧ vx_L C n d A U H
theorem vx_Zq.moved {C n d : String} {A : Nat → Prop} {u U : State} {H : Heap} (hvm : u.vm.Alike U.vm) (h : vx_Zq C n d A u H) : vx_Zq C n d A U H := ⟨va_Zq.moved hvm h.1, vx_L.moved hvm h.2⟩
theorem vx_Zq.kept {C n d : String} {A : Nat → Prop} {U : State} {H H1 : Heap} (h : vx_Zq C n d A U H) (hq : ∀ a : Nat, a < H.size → ¬ A a → H1[a]? = H[a]?) : vx_Zq C n d A U H1 := ⟨va_Zq.kept h.1 hq, vx_L.kept h.2 hq⟩
theorem vx_Zq.narrow {C n d : String} {A B : Nat → Prop} {U : State} {H : Heap} (h : vx_Zq C n d A U H) (hAB : ∀ q, B q → A q) : vx_Zq C n d B U H := ⟨va_Zq.narrow h.1 hAB, vx_L.narrow h.2 hAB⟩
theorem vx_Zqof {args : Array Value} {s : State} {C n d : String} {A : Nat → Prop} (hl : (Cond.laysStatic C n d).before args s = true) (hini : (Cond.initialized C).before args s = true) (h : (Cond.isRef (.static C n d)).before args s = true) (hA : ∀ a : Nat, a < s.heap.size → ¬ A a) : vx_Zq C n d A s s.heap := by
  refine ⟨va_Zqof hl hini h hA, ?_⟩
  obtain ⟨c, k, i, f, a, cell, h1, h2, h3, h4, h5, h6, h7, h8, h9⟩ := Cond.laysStatic_spec hl
  exact ⟨c, k, i, f, a, cell, h1, h2, h3, h4, h5, h6, h7, h8, h9, hA a (Array.getElem?_eq_some_iff.mp h5).1⟩
theorem vx_isRef {C n d : String} {v : Value} {A : Nat → Prop} {s : State} {args : Array Value} (h : va_Z C n d v A s s.heap) (hv : v.isRef = true) : (Cond.isRef (.static C n d)).before args s = true := by
  obtain ⟨cf, kf, fi, f, a, cell, h1, h2, h3, h4, h5, h6, h7, -⟩ := h
  have he : (Term.static C n d).eval args s none [] s = some v := by
    simp [Term.eval, State.fieldNamed?, h1, h2, h4, h5, h6, h7]
  simp only [Cond.before, Cond.holds, Cond.value, he]
  cases v <;> simp_all [Value.isRef]
theorem vx_isRefq {C n d : String} {A : Nat → Prop} {s : State} {args : Array Value} (h : va_Zq C n d A s s.heap) : (Cond.isRef (.static C n d)).before args s = true := by
  rcases h with h | ⟨t, h⟩
  · exact vx_isRef h rfl
  · exact vx_isRef h rfl

theorem vx_rebase {T : State} (X : Stand p l e R s m args below meth c T locs cells slots) {R' : Room} (hf : R'.frames ≤ R.frames) (hl : R'.locals ≤ R.locals) (hc : cells + R'.cells ≤ R.cells) (hs : slots + R'.slots ≤ R.slots) :
    Stand p l e R' ((T.setVm s.vm).setFrames (.invoking m args :: below)) m args below meth c T [] 0 0 := by
  have htop : (T.setVm s.vm).topJava?.isSome := X.here.top
  have hF : ((T.setVm s.vm).setFrames (.invoking m args :: below)).frames = .invoking m args :: below := State.frames_setFrames _ (State.cur_lt_of_top htop)
  obtain ⟨g₀, hg0⟩ := Option.isSome_iff_exists.mp htop
  obtain ⟨r, hr⟩ := State.topJava?_eq_some.mp hg0
  have hl9 : e.platform.stackLimits (T.setVm s.vm).me = e.platform.stackLimits s.me := X.limits
  have hb9 : (T.setVm s.vm).me.stackBytes = s.me.stackBytes := X.bytes
  refine ⟨X.admits, X.cas, X.clock, hF, ?_, X.hears, X.method, X.code, X.here, X.tail, X.warmed, ?_, ?_, ?_⟩
  · have h := X.room
    have hU : ((T.setVm s.vm).setFrames (.invoking m args :: below)).localsInUse = s.localsInUse := by
      rw [State.localsInUse_invoking hF (meth := meth) (c := c) X.method X.code, State.localsInUse_invoking X.frames X.method X.code]
    simp only [State.hasRoom, Bool.and_eq_true, decide_eq_true_eq] at h ⊢
    obtain ⟨⟨⟨⟨h1, h2, h3, h4, h5, h6⟩, h7⟩, h8⟩, h9⟩ := h
    rw [X.frames, List.length_cons] at h2 h3
    have q1 := X.heapSize
    have q2 := X.used
    simp only [hF, hU, List.length_cons, State.stackLimits_setFrames, State.stackBytes_setFrames, hl9, hb9]
    refine ⟨⟨⟨⟨by omega, by omega, by omega, by omega, by omega, h6⟩, ?_⟩, ?_⟩, X.book⟩
    · show T.heap.size + R'.cells ≤ e.platform.maxCells
      omega
    · show T.slotsUsed + R'.slots ≤ e.platform.maxSlots
      omega
  · rw [State.stackLimits_setFrames]; rfl
  · rw [State.stackBytes_setFrames]; rfl
  · refine ⟨?_, Nat.le_refl _, Nat.le_refl _, ?_, ?_, fun a c9 h9 => ⟨c9, h9, rfl, rfl, fun _ _ => rfl⟩⟩
    · obtain ⟨t, ht, -⟩ := State.frames_cons hr
      show T.setVm s.vm = { ((T.setVm s.vm).setFrames (.invoking m args :: below)).setFrames (T.setVm s.vm).frames with heap := T.heap, slotsUsed := T.slotsUsed }
      rw [State.setFrames_setFrames, State.setFrames_self ht]
      rfl
    · show T.slotsUsed = T.slotsUsed + ((T.heap.toList.drop T.heap.size).map (·.slots.size)).sum
      rw [List.drop_eq_nil_of_le (Nat.le_of_eq Array.length_toList)]
      rfl
    · show ((T.heap.toList.drop T.heap.size).map (·.slots.size)).sum ≤ 0
      rw [List.drop_eq_nil_of_le (Nat.le_of_eq Array.length_toList)]
      exact Nat.le_refl _

theorem vx_throw0 {cc : ByteArray} {pc : Nat} (hexec : p.tables.exec = Jvm.exec) (hb : c.code = cc) (hl : l.stackTraces = false) {own cls : String} {names : List String} {ik ic mc ms : Nat} {A : Nat → Prop}
    (hown : s.vm.findClass own = some m.cls) (hcls : Bundle.fit cls = true) (hnames : ∀ n ∈ names, Bundle.fit n = true)
    (hk : (Cond.classLink own ik cls).before args s = true) (hini : (Cond.initialized cls).before args s = true) (hat : ∀ w ∈ vx_at0 own ic cls names, w.before args s = true)
    (hgood : ∀ w ∈ Cond.classLink own ik cls :: Cond.initialized cls :: vx_at0 own ic cls names, vx_ot w = true)
    (hU : vx_Zq Bundle.tN "UNASSIGNED_STACK" Bundle.steD A s s.heap) (hN : vx_Zq Bundle.tN "SUPPRESSED_SENTINEL" Bundle.listD A s s.heap) (hS : va_S A s.heap H locs) (hsize : ls.size = c.maxLocals)
    (d0 : decode cc pc = .ok (.new ik, 3)) (d3 : decode cc (pc + 3) = .ok (.dup, 1)) (d4 : decode cc (pc + 4) = .ok (.invokespecial ic, 3)) (d7 : decode cc (pc + 7) = .ok (.athrow, 1))
    (hout : ∀ x ∈ c.exceptionTable.toList, covers x (pc + 7) = false)
    (hRframes : names.length + 3 < R.frames) (hRlocals : (rest.map fun v => v.category).sum + (13 * (names.length + 1) + 42) ≤ R.locals) (hRcells : cells + 1 ≤ R.cells) (hRslots : slots + 6 ≤ R.slots) (hlocks : meth.locks = false)
    (hx : ∀ t : State, s.vm.Alike t.vm → H.size ≤ t.heap.size → (∀ q : Nat, q < H.size → t.heap[q]? = H[q]?) → XC cls s t)
    (hf : ∀ z ∈ locs, free z.base) (hc : cells + 1 ≤ mc) (hs : slots + 6 ≤ ms) :
    W p l e R s m args below meth c H locs cells slots (vx_MQ below Qc XC args s mc ms free) (F0 m pc ls rest) := by
  intro T hT X
  have htr : e.platform.stackTraces = false := (show e.platform.stackTraces = l.stackTraces by rw [X.admits.platform]).trans hl
  have Y := vx_rebase X (R' := { frames := R.frames, locals := R.locals, cells := 1, slots := 6 }) (Nat.le_refl _) (Nat.le_refl _) hRcells hRslots
  obtain ⟨s', hA⟩ : ∃ z, z = (T.setVm s.vm).setFrames (.invoking m args :: below) := ⟨_, rfl⟩
  rw [← hA] at Y
  have hvm : s'.vm = s.vm := by rw [hA]; rfl
  have hhp : s'.heap = H := by rw [hA]; exact hT
  have hW0 : s.WarmedH s'.vm := by rw [hvm]; exact State.WarmedH.refl s
  have hat' : ∀ w ∈ vx_at0 own ic cls names, w.before args s' = true := fun w hw => vx_ot_at hW0 hvm.symm (hgood w (List.mem_cons_of_mem _ (List.mem_cons_of_mem _ hw))) (hat w hw)
  have hk' : (Cond.classLink own ik cls).before args s' = true := vx_ot_at hW0 hvm.symm (hgood _ List.mem_cons_self) hk
  have hini' : (Cond.initialized cls).before args s' = true := vx_ot_at hW0 hvm.symm (hgood _ (List.mem_cons_of_mem _ List.mem_cons_self)) hini
  have hU' : vx_Zq Bundle.tN "UNASSIGNED_STACK" Bundle.steD A s' s'.heap := by rw [hhp]; exact vx_Zq.moved hW0.alike (hU.kept hS.2.1)
  have hN' : vx_Zq Bundle.tN "SUPPRESSED_SENTINEL" Bundle.listD A s' s'.heap := by rw [hhp]; exact vx_Zq.moved hW0.alike (hN.kept hS.2.1)
  have h : ∀ w ∈ Bundle.ownAtoms0 own ic cls names, w.before args s' = true := vx_own hat' (vx_isRefq hU'.1) (vx_isRefq hN'.1) hU'.2.word hN'.2.word
  have hown' : s'.vm.findClass own = some m.cls := by rw [hvm]; exact hown
  have hins : (Cond.instantiable cls 6).before args s' = true := h _ (by simp [Bundle.ownAtoms0])
  obtain ⟨vm₁, cX, kX, hfX, hkX, -, -, X₁, st1⟩ := Y.newCold hexec (own := own) (C := cls) (index := ik) (n := 6) hown' hk' hins hini'
    (g := F0 m pc ls rest) rfl (by rw [hb]; exact d0) (Nat.le_refl _) (Nat.le_refl _)
  generalize hT1 : (T.setVm vm₁).pushCell { cls := cX, slots := kX.instanceTypes.map defaultValue, vm := .none } = T1 at X₁ st1
  have hcat : (Value.ref T.heap.size).category = 1 := rfl
  have hcellA : T1.heap[T.heap.size]? = some (freshCell cX kX) := by rw [← hT1]; exact State.heap_pushCell_size _ _
  have d3' : decode c.code (pc + 3) = .ok (.dup, 1) := by rw [hb]; exact d3
  obtain ⟨U, hsteps, hrun, hend, hW, hsame, ce, hce, hO⟩ := X₁.ctorThrow0 hexec htr (own := own) (cls := cls) (names := names) (ic := ic) hown' hcls hnames h (fun x hx => nomatch hx) hfX hkX hcellA (by rw [hhp, hT]; exact Nat.le_refl _)
    (g := { method := m, pc := pc + 4, locals := ls, stack := .ref T.heap.size :: .ref T.heap.size :: rest, locked := none }) rfl hsize rfl rfl (rest := rest) rfl
    (by rw [hb]; exact d4) (by rw [hb]; exact d7) hout hRframes (by simp only [List.map_cons, List.sum_cons, hcat]; omega) hlocks
  obtain ⟨f1, f2⟩ := vx_frame hsame
  rw [hhp] at f1 f2
  have hWs : s.WarmedH U.vm := State.WarmedH.trans hW0 hW
  have hcl : s.vm.findClass cls = some ce.cls := by
    have h9 := hO.cls
    rw [hvm] at h9
    exact h9
  have hall : s.sameButNew ({ U with vm := s.vm } : State) locs mc ms := by
    subst hA
    obtain ⟨e1, e2⟩ := hsame
    rw [State.setFrames_setFrames] at e1
    have h2 : (T.setVm s.vm).sameButNew ({ U with vm := s.vm } : State) [] (0 + 1) (0 + 6) := ⟨e1, e2⟩
    have h3 := X.same.trans h2
    rw [List.append_nil] at h3
    exact h3.mono hc hs
  refine ⟨U, ?_, .threw T.heap.size, hrun, hend, Or.inr ⟨T.heap.size, rfl, cls, ce, locs, hx U hWs.alike f1 (fun q hq => f2 q hq (fun z hz => nomatch hz)), hce, hO.vm, hcl, hWs, hall, hf⟩⟩
  refine st1 _ ?_
  show Steps p.tables e below (T1.setTop { method := m, pc := pc + 3, locals := ls, stack := .ref T.heap.size :: rest, locked := none }) _
  jvm_step X₁.here [X₁.here.top, hexec, d3', Value.category]
  exact hsteps

theorem vx_throwS {cc : ByteArray} {pc : Nat} (hexec : p.tables.exec = Jvm.exec) (hb : c.code = cc) (hl : l.stackTraces = false) {own cls text : String} {names : List String} {ik is ic mc ms sa : Nat} {A : Nat → Prop}
    (hown : s.vm.findClass own = some m.cls) (hcls : Bundle.fit cls = true) (hnames : ∀ n ∈ names, Bundle.fit n = true)
    (hk : (Cond.classLink own ik cls).before args s = true) (hini : (Cond.initialized cls).before args s = true) (hstr : vk_R own is text sa s) (hat : ∀ w ∈ vx_atS own ic cls names, w.before args s = true)
    (hgood : ∀ w ∈ Cond.classLink own ik cls :: Cond.initialized cls :: vx_atS own ic cls names, vx_ot w = true)
    (hU : vx_Zq Bundle.tN "UNASSIGNED_STACK" Bundle.steD A s s.heap) (hN : vx_Zq Bundle.tN "SUPPRESSED_SENTINEL" Bundle.listD A s s.heap) (hS : va_S A s.heap H locs) (hsize : ls.size = c.maxLocals)
    (d0 : decode cc pc = .ok (.new ik, 3)) (d3 : decode cc (pc + 3) = .ok (.dup, 1)) (d4 : decode cc (pc + 4) = .ok (.ldc is, 2)) (d6 : decode cc (pc + 6) = .ok (.invokespecial ic, 3)) (d9 : decode cc (pc + 9) = .ok (.athrow, 1))
    (hout : ∀ x ∈ c.exceptionTable.toList, covers x (pc + 9) = false)
    (hRframes : names.length + 3 < R.frames) (hRlocals : (rest.map fun v => v.category).sum + (13 * (names.length + 1) + 43) ≤ R.locals) (hRcells : cells + 1 ≤ R.cells) (hRslots : slots + 6 ≤ R.slots) (hlocks : meth.locks = false)
    (hx : ∀ t : State, s.vm.Alike t.vm → H.size ≤ t.heap.size → (∀ q : Nat, q < H.size → t.heap[q]? = H[q]?) → XC cls s t)
    (hf : ∀ z ∈ locs, free z.base) (hc : cells + 1 ≤ mc) (hs : slots + 6 ≤ ms) :
    W p l e R s m args below meth c H locs cells slots (vx_MQ below Qc XC args s mc ms free) (F0 m pc ls rest) := by
  intro T hT X
  have htr : e.platform.stackTraces = false := (show e.platform.stackTraces = l.stackTraces by rw [X.admits.platform]).trans hl
  have Y := vx_rebase X (R' := { frames := R.frames, locals := R.locals, cells := 1, slots := 6 }) (Nat.le_refl _) (Nat.le_refl _) hRcells hRslots
  obtain ⟨s', hA⟩ : ∃ z, z = (T.setVm s.vm).setFrames (.invoking m args :: below) := ⟨_, rfl⟩
  rw [← hA] at Y
  have hvm : s'.vm = s.vm := by rw [hA]; rfl
  have hhp : s'.heap = H := by rw [hA]; exact hT
  have hW0 : s.WarmedH s'.vm := by rw [hvm]; exact State.WarmedH.refl s
  have hat' : ∀ w ∈ vx_atS own ic cls names, w.before args s' = true := fun w hw => vx_ot_at hW0 hvm.symm (hgood w (List.mem_cons_of_mem _ (List.mem_cons_of_mem _ hw))) (hat w hw)
  have hk' : (Cond.classLink own ik cls).before args s' = true := vx_ot_at hW0 hvm.symm (hgood _ List.mem_cons_self) hk
  have hini' : (Cond.initialized cls).before args s' = true := vx_ot_at hW0 hvm.symm (hgood _ (List.mem_cons_of_mem _ List.mem_cons_self)) hini
  have hU' : vx_Zq Bundle.tN "UNASSIGNED_STACK" Bundle.steD A s' s'.heap := by rw [hhp]; exact vx_Zq.moved hW0.alike (hU.kept hS.2.1)
  have hN' : vx_Zq Bundle.tN "SUPPRESSED_SENTINEL" Bundle.listD A s' s'.heap := by rw [hhp]; exact vx_Zq.moved hW0.alike (hN.kept hS.2.1)
  have h : ∀ w ∈ Bundle.ownAtoms own ic cls names, w.before args s' = true := vx_own hat' (vx_isRefq hU'.1) (vx_isRefq hN'.1) hU'.2.word hN'.2.word
  have hown' : s'.vm.findClass own = some m.cls := by rw [hvm]; exact hown
  have hins : (Cond.instantiable cls 6).before args s' = true := h _ (by simp [Bundle.ownAtoms])
  obtain ⟨vm₁, cX, kX, hfX, hkX, -, -, X₁, st1⟩ := Y.newCold hexec (own := own) (C := cls) (index := ik) (n := 6) hown' hk' hins hini'
    (g := F0 m pc ls rest) rfl (by rw [hb]; exact d0) (Nat.le_refl _) (Nat.le_refl _)
  generalize hT1 : (T.setVm vm₁).pushCell { cls := cX, slots := kX.instanceTypes.map defaultValue, vm := .none } = T1 at X₁ st1
  have hcat : (Value.ref T.heap.size).category = 1 := rfl
  have hcellA : T1.heap[T.heap.size]? = some (freshCell cX kX) := by rw [← hT1]; exact State.heap_pushCell_size _ _
  have d3' : decode c.code (pc + 3) = .ok (.dup, 1) := by rw [hb]; exact d3
  have d4' : decode c.code (pc + 4) = .ok (.ldc is, 2) := by rw [hb]; exact d4
  have hstr' : vk_R own is text sa s' := vk_R.warm hW0 hstr
  obtain ⟨U, hsteps, hrun, hend, hW, hsame, ce, hce, hO⟩ := X₁.ctorThrowS hexec htr (own := own) (cls := cls) (names := names) (ic := ic) hown' hcls hnames h (fun x hx => nomatch hx) hfX hkX hcellA (by rw [hhp, hT]; exact Nat.le_refl _) (msg := .ref sa) rfl
    (g := { method := m, pc := pc + 6, locals := ls, stack := .ref sa :: .ref T.heap.size :: .ref T.heap.size :: rest, locked := none }) rfl hsize rfl rfl (rest := rest) rfl
    (by rw [hb]; exact d6) (by rw [hb]; exact d9) hout hRframes (by simp only [List.map_cons, List.sum_cons, hcat]; omega) hlocks
  obtain ⟨f1, f2⟩ := vx_frame hsame
  rw [hhp] at f1 f2
  have hWs : s.WarmedH U.vm := State.WarmedH.trans hW0 hW
  have hcl : s.vm.findClass cls = some ce.cls := by
    have h9 := hO.cls
    rw [hvm] at h9
    exact h9
  have hall : s.sameButNew ({ U with vm := s.vm } : State) locs mc ms := by
    subst hA
    obtain ⟨e1, e2⟩ := hsame
    rw [State.setFrames_setFrames] at e1
    have h2 : (T.setVm s.vm).sameButNew ({ U with vm := s.vm } : State) [] (0 + 1) (0 + 6) := ⟨e1, e2⟩
    have h3 := X.same.trans h2
    rw [List.append_nil] at h3
    exact h3.mono hc hs
  refine ⟨U, ?_, .threw T.heap.size, hrun, hend, Or.inr ⟨T.heap.size, rfl, cls, ce, locs, hx U hWs.alike f1 (fun q hq => f2 q hq (fun z hz => nomatch hz)), hce, hO.vm, hcl, hWs, hall, hf⟩⟩
  refine st1 _ ?_
  show Steps p.tables e below (T1.setTop { method := m, pc := pc + 3, locals := ls, stack := .ref T.heap.size :: rest, locked := none }) _
  jvm_step X₁.here [X₁.here.top, hexec, d3', Value.category]
  exact X₁.ldcString hexec (own := own) (text := text) (index := is) (a := sa) hown' hstr'.1 hstr'.2
    (g := { method := m, pc := pc + 4, locals := ls, stack := .ref T.heap.size :: .ref T.heap.size :: rest, locked := none }) rfl d4' _ hsteps

theorem vx_throwSW {cc : ByteArray} {pc : Nat} (hexec : p.tables.exec = Jvm.exec) (hb : c.code = cc) (hl : l.stackTraces = false) {own cls text : String} {names : List String} {ik is ic mc ms sa : Nat} {A : Nat → Prop}
    (hown : s.vm.findClass own = some m.cls) (hcls : Bundle.fit cls = true) (hnames : ∀ n ∈ names, Bundle.fit n = true)
    (hk : (Cond.classLink own ik cls).before args s = true) (hini : (Cond.initialized cls).before args s = true) (hstr : vk_R own is text sa s) (hat : ∀ w ∈ vx_atS own ic cls names, w.before args s = true)
    (hgood : ∀ w ∈ Cond.classLink own ik cls :: Cond.initialized cls :: vx_atS own ic cls names, vx_ot w = true)
    (hU : vx_Zq Bundle.tN "UNASSIGNED_STACK" Bundle.steD A s s.heap) (hN : vx_Zq Bundle.tN "SUPPRESSED_SENTINEL" Bundle.listD A s s.heap) (hS : va_S A s.heap H locs) (hsize : ls.size = c.maxLocals)
    (d0 : decode cc pc = .ok (.new ik, 3)) (d3 : decode cc (pc + 3) = .ok (.dup, 1)) (d4 : decode cc (pc + 4) = .ok (.ldc_w is, 3)) (d7 : decode cc (pc + 7) = .ok (.invokespecial ic, 3)) (d10 : decode cc (pc + 10) = .ok (.athrow, 1))
    (hout : ∀ x ∈ c.exceptionTable.toList, covers x (pc + 10) = false)
    (hRframes : names.length + 3 < R.frames) (hRlocals : (rest.map fun v => v.category).sum + (13 * (names.length + 1) + 43) ≤ R.locals) (hRcells : cells + 1 ≤ R.cells) (hRslots : slots + 6 ≤ R.slots) (hlocks : meth.locks = false)
    (hx : ∀ t : State, s.vm.Alike t.vm → H.size ≤ t.heap.size → (∀ q : Nat, q < H.size → t.heap[q]? = H[q]?) → XC cls s t)
    (hf : ∀ z ∈ locs, free z.base) (hc : cells + 1 ≤ mc) (hs : slots + 6 ≤ ms) :
    W p l e R s m args below meth c H locs cells slots (vx_MQ below Qc XC args s mc ms free) (F0 m pc ls rest) := by
  intro T hT X
  have htr : e.platform.stackTraces = false := (show e.platform.stackTraces = l.stackTraces by rw [X.admits.platform]).trans hl
  have Y := vx_rebase X (R' := { frames := R.frames, locals := R.locals, cells := 1, slots := 6 }) (Nat.le_refl _) (Nat.le_refl _) hRcells hRslots
  obtain ⟨s', hA⟩ : ∃ z, z = (T.setVm s.vm).setFrames (.invoking m args :: below) := ⟨_, rfl⟩
  rw [← hA] at Y
  have hvm : s'.vm = s.vm := by rw [hA]; rfl
  have hhp : s'.heap = H := by rw [hA]; exact hT
  have hW0 : s.WarmedH s'.vm := by rw [hvm]; exact State.WarmedH.refl s
  have hat' : ∀ w ∈ vx_atS own ic cls names, w.before args s' = true := fun w hw => vx_ot_at hW0 hvm.symm (hgood w (List.mem_cons_of_mem _ (List.mem_cons_of_mem _ hw))) (hat w hw)
  have hk' : (Cond.classLink own ik cls).before args s' = true := vx_ot_at hW0 hvm.symm (hgood _ List.mem_cons_self) hk
  have hini' : (Cond.initialized cls).before args s' = true := vx_ot_at hW0 hvm.symm (hgood _ (List.mem_cons_of_mem _ List.mem_cons_self)) hini
  have hU' : vx_Zq Bundle.tN "UNASSIGNED_STACK" Bundle.steD A s' s'.heap := by rw [hhp]; exact vx_Zq.moved hW0.alike (hU.kept hS.2.1)
  have hN' : vx_Zq Bundle.tN "SUPPRESSED_SENTINEL" Bundle.listD A s' s'.heap := by rw [hhp]; exact vx_Zq.moved hW0.alike (hN.kept hS.2.1)
  have h : ∀ w ∈ Bundle.ownAtoms own ic cls names, w.before args s' = true := vx_own hat' (vx_isRefq hU'.1) (vx_isRefq hN'.1) hU'.2.word hN'.2.word
  have hown' : s'.vm.findClass own = some m.cls := by rw [hvm]; exact hown
  have hins : (Cond.instantiable cls 6).before args s' = true := h _ (by simp [Bundle.ownAtoms])
  obtain ⟨vm₁, cX, kX, hfX, hkX, -, -, X₁, st1⟩ := Y.newCold hexec (own := own) (C := cls) (index := ik) (n := 6) hown' hk' hins hini'
    (g := F0 m pc ls rest) rfl (by rw [hb]; exact d0) (Nat.le_refl _) (Nat.le_refl _)
  generalize hT1 : (T.setVm vm₁).pushCell { cls := cX, slots := kX.instanceTypes.map defaultValue, vm := .none } = T1 at X₁ st1
  have hcat : (Value.ref T.heap.size).category = 1 := rfl
  have hcellA : T1.heap[T.heap.size]? = some (freshCell cX kX) := by rw [← hT1]; exact State.heap_pushCell_size _ _
  have d3' : decode c.code (pc + 3) = .ok (.dup, 1) := by rw [hb]; exact d3
  have d4' : decode c.code (pc + 4) = .ok (.ldc_w is, 3) := by rw [hb]; exact d4
  have hstr' : vk_R own is text sa s' := vk_R.warm hW0 hstr
  obtain ⟨U, hsteps, hrun, hend, hW, hsame, ce, hce, hO⟩ := X₁.ctorThrowS hexec htr (own := own) (cls := cls) (names := names) (ic := ic) hown' hcls hnames h (fun x hx => nomatch hx) hfX hkX hcellA (by rw [hhp, hT]; exact Nat.le_refl _) (msg := .ref sa) rfl
    (g := { method := m, pc := pc + 7, locals := ls, stack := .ref sa :: .ref T.heap.size :: .ref T.heap.size :: rest, locked := none }) rfl hsize rfl rfl (rest := rest) rfl
    (by rw [hb]; exact d7) (by rw [hb]; exact d10) hout hRframes (by simp only [List.map_cons, List.sum_cons, hcat]; omega) hlocks
  obtain ⟨f1, f2⟩ := vx_frame hsame
  rw [hhp] at f1 f2
  have hWs : s.WarmedH U.vm := State.WarmedH.trans hW0 hW
  have hcl : s.vm.findClass cls = some ce.cls := by
    have h9 := hO.cls
    rw [hvm] at h9
    exact h9
  have hall : s.sameButNew ({ U with vm := s.vm } : State) locs mc ms := by
    subst hA
    obtain ⟨e1, e2⟩ := hsame
    rw [State.setFrames_setFrames] at e1
    have h2 : (T.setVm s.vm).sameButNew ({ U with vm := s.vm } : State) [] (0 + 1) (0 + 6) := ⟨e1, e2⟩
    have h3 := X.same.trans h2
    rw [List.append_nil] at h3
    exact h3.mono hc hs
  refine ⟨U, ?_, .threw T.heap.size, hrun, hend, Or.inr ⟨T.heap.size, rfl, cls, ce, locs, hx U hWs.alike f1 (fun q hq => f2 q hq (fun z hz => nomatch hz)), hce, hO.vm, hcl, hWs, hall, hf⟩⟩
  refine st1 _ ?_
  show Steps p.tables e below (T1.setTop { method := m, pc := pc + 3, locals := ls, stack := .ref T.heap.size :: rest, locked := none }) _
  jvm_step X₁.here [X₁.here.top, hexec, d3', Value.category]
  exact X₁.ldcStringW hexec (own := own) (text := text) (index := is) (a := sa) hown' hstr'.1 hstr'.2
    (g := { method := m, pc := pc + 4, locals := ls, stack := .ref T.heap.size :: .ref T.heap.size :: rest, locked := none }) rfl d4' _ hsteps
end Ends
section Bodies
variable {l : Launch}
theorem vx_ofW {y : MethodName} {ws ws' : List Cond} {rm : Room} {Pc : Array Value → State → Prop} {Qc : Array Value → State → Outcome → State → Prop} {XC : String → State → State → Prop} {mc ms : Nat} {free : Addr → Prop} {cc : ByteArray} {maxL : Nat} {ret : Option FieldType}
    (hy : plainName y.cls = true) (hw : ws = Cond.code y cc maxL ret :: ws')
    (body : ∀ p e s m args below meth c s₁, BodyLoose p l y (headSpec ws rm) cc maxL ret e s m args below meth c s₁ → c.maxLocals = maxL → (∀ x ∈ c.exceptionTable.toList, False) → Pc args s →
      W p l e (headSpec ws rm).room s m args below meth c s.heap [] 0 0 (vx_MQ below Qc XC args s mc ms free) (entryFrame m args maxL)) : vx_Met l y ws rm Pc Qc XC mc ms free := by
  refine MetFree.of_bodyS (code := cc) (maxLocals := maxL) (ret := ret) hy ?_ ?_
  · intro args s m h hn
    obtain ⟨meth, c, h1, h2, h3, h4, h5, h6, -, -⟩ := Cond.code_spec hn (atoms_spec (ws := ws) h _ (by rw [hw]; exact List.mem_cons_self))
    exact ⟨meth, c, h1, h2, h3, h4, h5, h6⟩
  · intro p e s m args below meth c s₁ B hml hP _
    have hh0 : s₁.heap = s.heap := by rw [B.state]; rfl
    have ht : ∀ x ∈ c.exceptionTable.toList, False := by
      obtain ⟨meth9, c9, h1, h2, -, -, -, -, h7, -⟩ := Cond.code_spec B.named (atoms_spec (ws := ws) B.pre _ (by rw [hw]; exact List.mem_cons_self))
      cases Option.some.inj (h1.symm.trans B.method)
      cases Option.some.inj (h2.symm.trans (Stand.of_body B).code)
      intro x hx
      rw [Array.isEmpty_iff.mp h7] at hx
      cases hx
    obtain ⟨t, a1, o, b1, b2, b3⟩ := body p e s m args below meth c s₁ B hml ht hP s₁ hh0 (Stand.of_body B)
    exact ⟨t, o, a1, b1, b2, b3⟩

theorem vx_table {p : Program} {x y : MethodName} {S : Spec} {cc bytes : ByteArray} {maxL maxL' : Nat} {ret ret' : Option FieldType} {e : Env} {s s₁ : State} {m : MethodId} {args : Array Value} {below : List Frame} {meth : Method} {c : Code} {hh : List (Nat × Nat × Nat × Nat)}
    (B : BodyLoose p l y S cc maxL ret e s m args below meth c s₁) (h : (Cond.codeWith y bytes maxL' ret' hh).before args s = true) : c.exceptionTable.toList = tableOf hh := by
  obtain ⟨m9, meth9, c9, hn9, h1, h2, -, -, h6, -⟩ := Cond.codeWith_spec h
  cases Option.some.inj (hn9.symm.trans B.named)
  cases Option.some.inj (h1.symm.trans B.method)
  cases Option.some.inj (h2.symm.trans (Stand.of_body B).code)
  rw [← h6, table_eq]
end Bodies
end VXA


section VXS
variable {p : Program} {l : Launch} {e : Env} {R : Room} {s : State} {m : MethodId} {args : Array Value} {below : List Frame} {meth : Method} {c : Code} {T : State} {H : Heap} {locs : List Loc} {cells slots : Nat}
abbrev vx_CSW (R : Room) (s : State) (args : Array Value) (own : String) (index : Nat) (y : MethodName) (bytes : ByteArray) (maxL : Nat) (ret : Option FieldType) (hh : List (Nat × Nat × Nat × Nat)) (ws : List Cond) (rm : Room) (mc ms n : Nat) : Prop :=
  (rm.cells = mc ∧ rm.slots = ms ∧ rm.frames + 1 ≤ R.frames ∧ 8 + (maxL + 11) + rm.locals ≤ R.locals ∧ (∀ w ∈ ws, ∀ (a' : Array Value) (U : State), s.WarmedH U.vm → w.before a' U = true) ∧ Cond.codeWith y bytes maxL ret hh ∈ ws) ∧
  (Cond.codeWith y bytes maxL ret hh).before args s = true ∧ (Cond.initialized y.cls).before args s = true ∧ (y.cls ≠ "java/lang/invoke/MethodHandle" ∧ y.cls ≠ "java/lang/invoke/VarHandle") ∧
  (∀ sig, parseMethodDescriptor y.desc = some sig → n = sig.parameters.length) ∧ (Cond.methodLink own index y).before args s = true ∧ (Cond.static y).before args s = true
theorem vx_cwSW {own : String} {index maxL mc ms : Nat} {y : MethodName} {bytes : ByteArray} {ret : Option FieldType} {hh : List (Nat × Nat × Nat × Nat)} {Ts ws ws' : List Cond} {rm : Room} (n : Nat) (ht : ∀ w ∈ Ts, w.before args s = true) (hT : GoodIn Ts (va_wsS own index y ws)) (hw : ws = Cond.codeWith y bytes maxL ret hh :: ws') (hrc : rm.cells = mc) (hrs : rm.slots = ms)
    (hd : y.cls ≠ "java/lang/invoke/MethodHandle" ∧ y.cls ≠ "java/lang/invoke/VarHandle" ∧ (parseMethodDescriptor y.desc).map (fun d => d.parameters.length) = some n) (hR : rm.frames + 1 ≤ R.frames ∧ 8 + (maxL + 11) + rm.locals ≤ R.locals) :
    vx_CSW R s args own index y bytes maxL ret hh ws rm mc ms n := by
  have ok : ∀ w ∈ va_wsS own index y ws, w.before args s = true := fun w h => ht w (hT w h).1
  have hG : GoodIn Ts ws := fun w h => hT w (by unfold va_wsS; exact List.mem_append_right _ h)
  have hc : Cond.codeWith y bytes maxL ret hh ∈ ws := by rw [hw]; exact List.mem_cons_self
  refine ⟨⟨hrc, hrs, hR.1, hR.2, pay_in ht hG, hc⟩, ht _ (hG _ hc).1, ok _ (by simp [va_wsS]), ⟨hd.1, hd.2.1⟩, fun sig h => ?_, ok _ (by simp [va_wsS]), ok _ (by simp [va_wsS])⟩
  have h2 := hd.2.2
  rw [h] at h2
  exact (Option.some.inj h2).symm
theorem vx_callSW (X : Stand p l e R s m args below meth c T locs cells slots) (hexec : p.tables.exec = Jvm.exec) {own : String} {index : Nat} {y : MethodName} {bytes : ByteArray} {maxL : Nat} {ret : Option FieldType} {hh : List (Nat × Nat × Nat × Nat)}
    (hown : s.vm.findClass own = some m.cls) (hlink : (Cond.methodLink own index y).before args s = true) (hstat : (Cond.static y).before args s = true) (hinit : (Cond.initialized y.cls).before args s = true)
    (hcode : (Cond.codeWith y bytes maxL ret hh).before args s = true) (hy : y.cls ≠ "java/lang/invoke/MethodHandle" ∧ y.cls ≠ "java/lang/invoke/VarHandle")
    {W9 : Nat} {Pre : Pt → Array Value → Prop} {Post : Pt → Array Value → Option Value → Pt → Prop} (hK : Back l R p e below s args y 3 W9 Pre Post)
    {g : JFrame} (hg : g.method = m) (hsize : g.locals.size = c.maxLocals) {argsL rest : List Value} (hlen : ∀ sig, parseMethodDescriptor y.desc = some sig → argsL.length = sig.parameters.length)
    (hstack : g.stack = argsL.reverse ++ rest) (hW : 2 * g.monitorRoom + (rest.map fun v => v.category).sum ≤ W9) (hdg : decode c.code g.pc = .ok (.invokestatic index, 3))
    (hpre : ∀ vm₁, s.WarmedH vm₁ → Pre ⟨T.setVm vm₁, locs, cells, slots⟩ argsL.toArray) :
    ∃ (v : Option Value) (vm₁ : Vm) (B : Pt), s.WarmedH vm₁ ∧ Stand p l e R s m args below meth c B.U B.locs B.cells B.slots ∧ Post ⟨T.setVm vm₁, locs, cells, slots⟩ argsL.toArray v B ∧
      ∀ target, Steps p.tables e below (B.U.setTop { g with pc := g.pc + 3, stack := v.toList ++ rest }) target → Steps p.tables e below (T.setTop g) target := by
  obtain ⟨mk, methM, cM, hnamed, hmethM, -, -, -, -, -, -, hsigM⟩ := Cond.codeWith_spec hcode
  have hstatic : methM.isStatic = true := Cond.static_spec hnamed hmethM hstat
  obtain ⟨kP, hkP, -⟩ := className_of_methodNamed hnamed
  have hinitP : kP.init = .initialized := Cond.initialized_spec (findClass_of_methodNamed hnamed) hkP hinit
  obtain ⟨vm₁, X₁, hstep₁⟩ := X.invokestatic hexec hown hlink hnamed hmethM hstatic hkP hinitP hy (g := g) hg (argsL := argsL) (rest := rest) (hlen _ hsigM) hstack hdg
  obtain ⟨v, B, X', hpost, hsteps⟩ := hK m meth c ⟨T.setVm vm₁, locs, cells, slots⟩ { g with stack := rest } (.invokestatic index) mk argsL.toArray X₁ hg hsize hdg hW (X₁.named hnamed) (hpre vm₁ X₁.warmed)
  exact ⟨v, vm₁, B, X₁.warmed, X', hpost, fun target h => hstep₁ _ fun acts => by rw [doInvoke_state]; exact hsteps.trans h⟩
theorem vx_runSW {y : MethodName} {bytes cc : ByteArray} {maxL nL mc ms n index : Nat} {ret : Option FieldType} {hh : List (Nat × Nat × Nat × Nat)} {ws : List Cond} {rm : Room} {Pc : Array Value → State → Prop} {Qc : Array Value → State → Outcome → State → Prop} {free : Addr → Prop} {Ts : List Cond} {own : String} {As rest : List Value} {g : JFrame}
    (S : CallFix p m c cc nL s args Ts own) (hM : Met l y ws rm Pc Qc mc ms free) (cw : vx_CSW R s args own index y bytes maxL ret hh ws rm mc ms n) (hp : PreS s H Pc As)
    (hg : g.method = m) (hn : As.length = n) (hsize : g.locals.size = nL) (hstack : g.stack = As.reverse ++ rest) (hW : 2 * g.monitorRoom + (rest.map fun v => v.category).sum ≤ 8) (hdg : decode cc g.pc = .ok (.invokestatic index, 3)) (hf : cells + mc ≤ R.cells ∧ slots + ms ≤ R.slots) :
    va_Run p l e R s m args below meth c H locs cells slots mc ms g rest (Qc As.toArray) (free) := by
  obtain ⟨⟨hrc, hrs, hfr, hlo, hws, hcw⟩, hcode, hini, hy, hlen, hl, hstt⟩ := cw
  have hK : Back l R p e below s args y 3 8 (PreOf R mc ms Pc) (PostOf Qc mc ms free) := va_backW (hh := hh) (bytes := bytes) (maxL := maxL) (ret := ret) hM hp.1 hrc hrs hfr hlo hws hcw (fun a' U hW => word_at hW (Or.inl (by first | rfl | simp [Cond.onTables, Cond.keeps, Cond.steady])) hini)
  obtain ⟨hx, hb, hml, ho, -⟩ := S
  intro T hT X
  obtain ⟨v, vm₁, ⟨U', l2, c2, s2⟩, hW₁, X', ⟨g', mk, t, L, e1, e2, hq, h1, hL, h2, h3⟩, st⟩ := vx_callSW X hx (hh := hh) (bytes := bytes) (maxL := maxL) (ret := ret) ho hl hstt hini hcode hy hK hg (hsize.trans hml.symm) (argsL := As) (rest := rest) (fun sig h => hn.trans (hlen sig h)) hstack hW (by rw [hb]; exact hdg)
    (fun vm₁ hW₁ => ⟨hf.1, hf.2, hp.2 (T.setVm vm₁) hT hW₁⟩)
  dsimp only [Pt.U, Pt.locs, Pt.cells, Pt.slots] at X' e1 e2 h1 h2 h3 st
  subst h1; subst h2; subst h3
  exact ⟨v, (T.setVm vm₁).calling g' mk As.toArray, t, U', L, hT, X', hL, e1, e2, hq, st⟩

theorem vx_lt {D : va_G} {cl : List vw_C} {ws : va_W} {H1 : Heap} (h : va_P D cl ws H1) {k : Nat} {q : Nat × va_E} (hk : ws[k]? = some q) : q.1 < H1.size := (h k q hk).lt
end VXS

def RX0 : String := "ArrayText$Node"
def TX0 : u_T := fun k => match k with
  | 0 => ("ArrayText$Node", "kind", "I", false)
  | 1 => ("ArrayText$Node", "sign", "C", false)
  | 2 => ("ArrayText$Node", "number", "I", false)
  | 3 => ("ArrayText$Node", "left", "LArrayText$Node;", false)
  | 4 => ("ArrayText$Node", "right", "LArrayText$Node;", false)
  | _ => ("ArrayText$Node", "result", "LArrayText$NumberArray;", true)
def tyX0 : Nat → FieldType := fun k => match k with
  | 0 => .int
  | 1 => .char
  | 2 => .int
  | 3 => .object "ArrayText$Node"
  | 4 => .object "ArrayText$Node"
  | _ => .object "ArrayText$NumberArray"
abbrev wsX00 : List Cond := u_ws RX0 TX0 6
theorem nmX0 : ∀ a, a < 6 → ∀ b, b < 6 → a ≠ b → (TX0 a).2.1 ≠ (TX0 b).2.1 := by decide +kernel
theorem tyX0_ok : ∀ k, k < 6 → parseFieldDescriptor (TX0 k).2.2.1 = some (tyX0 k) := by decide +kernel
abbrev cX0_init : ByteArray := prog_2_method_1_code
def yX0_init : MethodName := ⟨RX0, "<init>", "()V"⟩
abbrev cX0_clear : ByteArray := prog_2_method_2_code
def yX0_clear : MethodName := ⟨RX0, "clear", "()V"⟩
abbrev cX0_makesArray : ByteArray := prog_2_method_3_code
def yX0_makesArray : MethodName := ⟨RX0, "makesArray", "()Z"⟩
def RX1 : String := "ArrayText$NumberArray"
def TX1 : u_T := fun k => match k with
  | 0 => ("ArrayText$NumberArray", "shape", "I", false)
  | _ => ("ArrayText$NumberArray", "elements", "[D", true)
def tyX1 : Nat → FieldType := fun k => match k with
  | 0 => .int
  | _ => .array .double
abbrev wsX10 : List Cond := u_ws RX1 TX1 2
theorem nmX1 : ∀ a, a < 2 → ∀ b, b < 2 → a ≠ b → (TX1 a).2.1 ≠ (TX1 b).2.1 := by decide +kernel
theorem tyX1_ok : ∀ k, k < 2 → parseFieldDescriptor (TX1 k).2.2.1 = some (tyX1 k) := by decide +kernel
abbrev cX1_init : ByteArray := prog_3_method_1_code
def yX1_init : MethodName := ⟨RX1, "<init>", "()V"⟩
abbrev cX1_count : ByteArray := prog_3_method_2_code
def yX1_count : MethodName := ⟨RX1, "count", "()I"⟩
abbrev cX1_hasElement : ByteArray := prog_3_method_3_code
def yX1_hasElement : MethodName := ⟨RX1, "hasElement", "(I)Z"⟩
abbrev cX1_becomeZeros : ByteArray := prog_3_method_4_code
def yX1_becomeZeros : MethodName := ⟨RX1, "becomeZeros", "(I)V"⟩
abbrev cX1_becomeCopy : ByteArray := prog_3_method_5_code
def yX1_becomeCopy : MethodName := ⟨RX1, "becomeCopy", "(LArrayText$NumberArray;)V"⟩
def RX2 : String := "ArrayText$Parser"
def TX2 : u_T := fun k => match k with
  | _ => ("", "", "", false)
def tyX2 : Nat → FieldType := fun k => match k with
  | _ => .int
abbrev wsX20 : List Cond := u_ws RX2 TX2 0
theorem nmX2 : ∀ a, a < 0 → ∀ b, b < 0 → a ≠ b → (TX2 a).2.1 ≠ (TX2 b).2.1 := by decide +kernel
theorem tyX2_ok : ∀ k, k < 0 → parseFieldDescriptor (TX2 k).2.2.1 = some (tyX2 k) := by decide +kernel
abbrev cX2_readWhole : ByteArray := prog_4_method_2_code
def yX2_readWhole : MethodName := ⟨RX2, "readWhole", "(LArrayText$Text;LArrayText$Tree;)LArrayText$Node;"⟩
abbrev cX2_readExpression : ByteArray := prog_4_method_3_code
def yX2_readExpression : MethodName := ⟨RX2, "readExpression", "(LArrayText$Text;LArrayText$Tree;I)LArrayText$Node;"⟩
abbrev cX2_readPart : ByteArray := prog_4_method_4_code
def yX2_readPart : MethodName := ⟨RX2, "readPart", "(LArrayText$Text;LArrayText$Tree;I)LArrayText$Node;"⟩
abbrev cX2_readConstant : ByteArray := prog_4_method_5_code
def yX2_readConstant : MethodName := ⟨RX2, "readConstant", "(LArrayText$Text;LArrayText$NumberArray;)V"⟩
abbrev cX2_readNumber : ByteArray := prog_4_method_6_code
def yX2_readNumber : MethodName := ⟨RX2, "readNumber", "(LArrayText$Text;)I"⟩
abbrev cX2_isDigit : ByteArray := prog_4_method_7_code
def yX2_isDigit : MethodName := ⟨RX2, "isDigit", "(C)Z"⟩
abbrev cX2_readFront : ByteArray := prog_4_method_8_code
def yX2_readFront : MethodName := ⟨RX2, "readFront", "(LArrayText$Text;LArrayText$Node;)Z"⟩
abbrev cX2_kindOfFront : ByteArray := prog_4_method_9_code
def yX2_kindOfFront : MethodName := ⟨RX2, "kindOfFront", "(C)I"⟩
abbrev cX2_readFoldingSign : ByteArray := prog_4_method_10_code
def yX2_readFoldingSign : MethodName := ⟨RX2, "readFoldingSign", "(LArrayText$Text;)C"⟩
abbrev cX2_readSign : ByteArray := prog_4_method_11_code
def yX2_readSign : MethodName := ⟨RX2, "readSign", "(LArrayText$Text;LArrayText$Node;)Z"⟩
abbrev cX2_kindOfSign : ByteArray := prog_4_method_12_code
def yX2_kindOfSign : MethodName := ⟨RX2, "kindOfSign", "(C)I"⟩
def RX3 : String := "ArrayText$ShapeFinder"
def TX3 : u_T := fun k => match k with
  | _ => ("", "", "", false)
def tyX3 : Nat → FieldType := fun k => match k with
  | _ => .int
abbrev wsX30 : List Cond := u_ws RX3 TX3 0
theorem nmX3 : ∀ a, a < 0 → ∀ b, b < 0 → a ≠ b → (TX3 a).2.1 ≠ (TX3 b).2.1 := by decide +kernel
theorem tyX3_ok : ∀ k, k < 0 → parseFieldDescriptor (TX3 k).2.2.1 = some (tyX3 k) := by decide +kernel
abbrev cX3_findAll : ByteArray := prog_5_method_2_code
def yX3_findAll : MethodName := ⟨RX3, "findAll", "(LArrayText$Tree;[LArrayText$NumberArray;)V"⟩
abbrev cX3_shapeFound : ByteArray := prog_5_method_3_code
def yX3_shapeFound : MethodName := ⟨RX3, "shapeFound", "(LArrayText$Node;[LArrayText$NumberArray;)I"⟩
abbrev cX3_shapeOfCount : ByteArray := prog_5_method_4_code
def yX3_shapeOfCount : MethodName := ⟨RX3, "shapeOfCount", "(I)I"⟩
abbrev cX3_shapeTurned : ByteArray := prog_5_method_5_code
def yX3_shapeTurned : MethodName := ⟨RX3, "shapeTurned", "(I)I"⟩
abbrev cX3_shapeReduced : ByteArray := prog_5_method_6_code
def yX3_shapeReduced : MethodName := ⟨RX3, "shapeReduced", "(I)I"⟩
abbrev cX3_shapeOfEach : ByteArray := prog_5_method_7_code
def yX3_shapeOfEach : MethodName := ⟨RX3, "shapeOfEach", "(II)I"⟩
abbrev cX3_shapeJoined : ByteArray := prog_5_method_8_code
def yX3_shapeJoined : MethodName := ⟨RX3, "shapeJoined", "(II)I"⟩
abbrev cX3_shapeAnew : ByteArray := prog_5_method_9_code
def yX3_shapeAnew : MethodName := ⟨RX3, "shapeAnew", "(LArrayText$Node;I)I"⟩
def RX4 : String := "ArrayText$Shapes"
def TX4 : u_T := fun k => match k with
  | _ => ("", "", "", false)
def tyX4 : Nat → FieldType := fun k => match k with
  | _ => .int
abbrev wsX40 : List Cond := u_ws RX4 TX4 0
theorem nmX4 : ∀ a, a < 0 → ∀ b, b < 0 → a ≠ b → (TX4 a).2.1 ≠ (TX4 b).2.1 := by decide +kernel
theorem tyX4_ok : ∀ k, k < 0 → parseFieldDescriptor (TX4 k).2.2.1 = some (tyX4 k) := by decide +kernel
abbrev cX4_exists : ByteArray := prog_6_method_2_code
def yX4_exists : MethodName := ⟨RX4, "exists", "(I)Z"⟩
abbrev cX4_fits : ByteArray := prog_6_method_3_code
def yX4_fits : MethodName := ⟨RX4, "fits", "(II)Z"⟩
abbrev cX4_tableOf : ByteArray := prog_6_method_4_code
def yX4_tableOf : MethodName := ⟨RX4, "tableOf", "(II)I"⟩
abbrev cX4_isTable : ByteArray := prog_6_method_5_code
def yX4_isTable : MethodName := ⟨RX4, "isTable", "(I)Z"⟩
abbrev cX4_lines : ByteArray := prog_6_method_6_code
def yX4_lines : MethodName := ⟨RX4, "lines", "(I)I"⟩
abbrev cX4_length : ByteArray := prog_6_method_7_code
def yX4_length : MethodName := ⟨RX4, "length", "(I)I"⟩
abbrev cX4_elements : ByteArray := prog_6_method_8_code
def yX4_elements : MethodName := ⟨RX4, "elements", "(I)I"⟩
def RX5 : String := "ArrayText$Text"
def TX5 : u_T := fun k => match k with
  | 0 => ("ArrayText$Text", "signs", "[C", true)
  | 1 => ("ArrayText$Text", "length", "I", false)
  | _ => ("ArrayText$Text", "place", "I", false)
def tyX5 : Nat → FieldType := fun k => match k with
  | 0 => .array .char
  | 1 => .int
  | _ => .int
abbrev wsX50 : List Cond := u_ws RX5 TX5 3
theorem nmX5 : ∀ a, a < 3 → ∀ b, b < 3 → a ≠ b → (TX5 a).2.1 ≠ (TX5 b).2.1 := by decide +kernel
theorem tyX5_ok : ∀ k, k < 3 → parseFieldDescriptor (TX5 k).2.2.1 = some (tyX5 k) := by decide +kernel
abbrev cX5_init : ByteArray := prog_7_method_1_code
def yX5_init : MethodName := ⟨RX5, "<init>", "()V"⟩
abbrev cX5_append : ByteArray := prog_7_method_2_code
def yX5_append : MethodName := ⟨RX5, "append", "(J)I"⟩
abbrev cX5_clear : ByteArray := prog_7_method_3_code
def yX5_clear : MethodName := ⟨RX5, "clear", "()I"⟩
abbrev cX5_startReading : ByteArray := prog_7_method_4_code
def yX5_startReading : MethodName := ⟨RX5, "startReading", "()V"⟩
abbrev cX5_next : ByteArray := prog_7_method_5_code
def yX5_next : MethodName := ⟨RX5, "next", "()C"⟩
abbrev cX5_pass : ByteArray := prog_7_method_6_code
def yX5_pass : MethodName := ⟨RX5, "pass", "()V"⟩
abbrev cX5_passIfNext : ByteArray := prog_7_method_7_code
def yX5_passIfNext : MethodName := ⟨RX5, "passIfNext", "(C)Z"⟩
abbrev cX5_signsIn : ByteArray := prog_7_method_8_code
def yX5_signsIn : MethodName := ⟨RX5, "signsIn", "(J)I"⟩
abbrev cX5_signOf : ByteArray := prog_7_method_9_code
def yX5_signOf : MethodName := ⟨RX5, "signOf", "(JI)I"⟩
def RX6 : String := "ArrayText$Tree"
def TX6 : u_T := fun k => match k with
  | 0 => ("ArrayText$Tree", "nodes", "[LArrayText$Node;", true)
  | _ => ("ArrayText$Tree", "count", "I", false)
def tyX6 : Nat → FieldType := fun k => match k with
  | 0 => .array (.object "ArrayText$Node")
  | _ => .int
abbrev wsX60 : List Cond := u_ws RX6 TX6 2
theorem nmX6 : ∀ a, a < 2 → ∀ b, b < 2 → a ≠ b → (TX6 a).2.1 ≠ (TX6 b).2.1 := by decide +kernel
theorem tyX6_ok : ∀ k, k < 2 → parseFieldDescriptor (TX6 k).2.2.1 = some (tyX6 k) := by decide +kernel
abbrev cX6_init : ByteArray := prog_8_method_1_code
def yX6_init : MethodName := ⟨RX6, "<init>", "()V"⟩
abbrev cX6_clear : ByteArray := prog_8_method_2_code
def yX6_clear : MethodName := ⟨RX6, "clear", "()V"⟩
abbrev cX6_add : ByteArray := prog_8_method_3_code
def yX6_add : MethodName := ⟨RX6, "add", "()LArrayText$Node;"⟩
abbrev cX6_arraysMade : ByteArray := prog_8_method_4_code
def yX6_arraysMade : MethodName := ⟨RX6, "arraysMade", "(LArrayText$Node;)I"⟩
def RX7 : String := "ArrayText$Worker"
def TX7 : u_T := fun k => match k with
  | _ => ("", "", "", false)
def tyX7 : Nat → FieldType := fun k => match k with
  | _ => .int
abbrev wsX70 : List Cond := u_ws RX7 TX7 0
theorem nmX7 : ∀ a, a < 0 → ∀ b, b < 0 → a ≠ b → (TX7 a).2.1 ≠ (TX7 b).2.1 := by decide +kernel
theorem tyX7_ok : ∀ k, k < 0 → parseFieldDescriptor (TX7 k).2.2.1 = some (tyX7 k) := by decide +kernel
abbrev cX7_workOutAll : ByteArray := prog_9_method_2_code
def yX7_workOutAll : MethodName := ⟨RX7, "workOutAll", "(LArrayText$Tree;[LArrayText$NumberArray;)V"⟩
abbrev cX7_workOut : ByteArray := prog_9_method_3_code
def yX7_workOut : MethodName := ⟨RX7, "workOut", "(LArrayText$Node;[LArrayText$NumberArray;)V"⟩
abbrev cX7_countUp : ByteArray := prog_9_method_4_code
def yX7_countUp : MethodName := ⟨RX7, "countUp", "(LArrayText$NumberArray;)V"⟩
abbrev cX7_negate : ByteArray := prog_9_method_5_code
def yX7_negate : MethodName := ⟨RX7, "negate", "(LArrayText$NumberArray;LArrayText$NumberArray;)V"⟩
abbrev cX7_turn : ByteArray := prog_9_method_6_code
def yX7_turn : MethodName := ⟨RX7, "turn", "(LArrayText$NumberArray;LArrayText$NumberArray;)V"⟩
abbrev cX7_reduce : ByteArray := prog_9_method_7_code
def yX7_reduce : MethodName := ⟨RX7, "reduce", "(CLArrayText$NumberArray;LArrayText$NumberArray;)V"⟩
abbrev cX7_runAlong : ByteArray := prog_9_method_8_code
def yX7_runAlong : MethodName := ⟨RX7, "runAlong", "(CLArrayText$NumberArray;LArrayText$NumberArray;)V"⟩
abbrev cX7_combineEach : ByteArray := prog_9_method_9_code
def yX7_combineEach : MethodName := ⟨RX7, "combineEach", "(CLArrayText$NumberArray;LArrayText$NumberArray;LArrayText$NumberArray;)V"⟩
abbrev cX7_elementFor : ByteArray := prog_9_method_10_code
def yX7_elementFor : MethodName := ⟨RX7, "elementFor", "(LArrayText$NumberArray;I)D"⟩
abbrev cX7_join : ByteArray := prog_9_method_11_code
def yX7_join : MethodName := ⟨RX7, "join", "(LArrayText$NumberArray;LArrayText$NumberArray;LArrayText$NumberArray;)V"⟩
abbrev cX7_fillAnew : ByteArray := prog_9_method_12_code
def yX7_fillAnew : MethodName := ⟨RX7, "fillAnew", "(LArrayText$NumberArray;LArrayText$NumberArray;)V"⟩
abbrev cX7_combined : ByteArray := prog_9_method_13_code
def yX7_combined : MethodName := ⟨RX7, "combined", "(CDD)D"⟩
abbrev cX7_combinedFreely : ByteArray := prog_9_method_14_code
def yX7_combinedFreely : MethodName := ⟨RX7, "combinedFreely", "(CDD)D"⟩
def RX8 : String := "ArrayText"
def TX8 : u_T := fun k => match k with
  | 0 => ("ArrayText", "variables", "[LArrayText$NumberArray;", true)
  | 1 => ("ArrayText", "text", "LArrayText$Text;", true)
  | 2 => ("ArrayText", "tree", "LArrayText$Tree;", true)
  | 3 => ("ArrayText", "madeByLatest", "I", false)
  | _ => ("ArrayText", "runsSoFar", "I", false)
def tyX8 : Nat → FieldType := fun k => match k with
  | 0 => .array (.object "ArrayText$NumberArray")
  | 1 => .object "ArrayText$Text"
  | 2 => .object "ArrayText$Tree"
  | 3 => .int
  | _ => .int
abbrev wsX80 : List Cond := u_ws RX8 TX8 5
theorem nmX8 : ∀ a, a < 5 → ∀ b, b < 5 → a ≠ b → (TX8 a).2.1 ≠ (TX8 b).2.1 := by decide +kernel
theorem tyX8_ok : ∀ k, k < 5 → parseFieldDescriptor (TX8 k).2.2.1 = some (tyX8 k) := by decide +kernel
abbrev cX8_init : ByteArray := prog_1_method_1_code
def yX8_init : MethodName := ⟨RX8, "<init>", "()V"⟩
abbrev cX8_write : ByteArray := prog_1_method_2_code
def yX8_write : MethodName := ⟨RX8, "write", "(J)I"⟩
abbrev cX8_erase : ByteArray := prog_1_method_3_code
def yX8_erase : MethodName := ⟨RX8, "erase", "()I"⟩
abbrev cX8_put : ByteArray := prog_1_method_4_code
def yX8_put : MethodName := ⟨RX8, "put", "(ID)Z"⟩
abbrev cX8_shape : ByteArray := prog_1_method_5_code
def yX8_shape : MethodName := ⟨RX8, "shape", "(II)Z"⟩
abbrev cX8_set : ByteArray := prog_1_method_6_code
def yX8_set : MethodName := ⟨RX8, "set", "(IID)Z"⟩
abbrev cX8_shapeOf : ByteArray := prog_1_method_7_code
def yX8_shapeOf : MethodName := ⟨RX8, "shapeOf", "(I)I"⟩
abbrev cX8_size : ByteArray := prog_1_method_8_code
def yX8_size : MethodName := ⟨RX8, "size", "(I)I"⟩
abbrev cX8_at : ByteArray := prog_1_method_9_code
def yX8_at : MethodName := ⟨RX8, "at", "(II)D"⟩
abbrev cX8_run : ByteArray := prog_1_method_10_code
def yX8_run : MethodName := ⟨RX8, "run", "(I)I"⟩
abbrev cX8_look : ByteArray := prog_1_method_11_code
def yX8_look : MethodName := ⟨RX8, "look", "()I"⟩
abbrev cX8_made : ByteArray := prog_1_method_12_code
def yX8_made : MethodName := ⟨RX8, "made", "()I"⟩
abbrev cX8_runs : ByteArray := prog_1_method_13_code
def yX8_runs : MethodName := ⟨RX8, "runs", "()I"⟩
abbrev cX8_isVariable : ByteArray := prog_1_method_14_code
def yX8_isVariable : MethodName := ⟨RX8, "isVariable", "(I)Z"⟩
abbrev cX8_isInRange : ByteArray := prog_1_method_15_code
def yX8_isInRange : MethodName := ⟨RX8, "isInRange", "(D)Z"⟩
def RX9 : String := "ArrayTextModel"
def TX9 : u_T := fun k => match k with
  | 0 => ("ArrayTextModel", "text", "[I", true)
  | 1 => ("ArrayTextModel", "length", "I", false)
  | 2 => ("ArrayTextModel", "shapes", "[I", true)
  | 3 => ("ArrayTextModel", "cells", "[D", true)
  | 4 => ("ArrayTextModel", "symbol", "[I", true)
  | 5 => ("ArrayTextModel", "about", "[I", true)
  | 6 => ("ArrayTextModel", "many", "[I", true)
  | 7 => ("ArrayTextModel", "numbers", "[I", true)
  | 8 => ("ArrayTextModel", "symbols", "I", false)
  | 9 => ("ArrayTextModel", "numberCount", "I", false)
  | 10 => ("ArrayTextModel", "now", "[D", true)
  | 11 => ("ArrayTextModel", "part", "[D", true)
  | 12 => ("ArrayTextModel", "right", "[D", true)
  | 13 => ("ArrayTextModel", "rightShape", "[I", true)
  | 14 => ("ArrayTextModel", "waiting", "[I", true)
  | 15 => ("ArrayTextModel", "nowShape", "I", false)
  | 16 => ("ArrayTextModel", "partShape", "I", false)
  | 17 => ("ArrayTextModel", "nowConstant", "Z", false)
  | 18 => ("ArrayTextModel", "partConstant", "Z", false)
  | 19 => ("ArrayTextModel", "nowCounts", "Z", false)
  | 20 => ("ArrayTextModel", "partCounts", "Z", false)
  | 21 => ("ArrayTextModel", "outOfRange", "Z", false)
  | 22 => ("ArrayTextModel", "arrays", "I", false)
  | 23 => ("ArrayTextModel", "error", "I", false)
  | 24 => ("ArrayTextModel", "made", "I", false)
  | 25 => ("ArrayTextModel", "runs", "I", false)
  | _ => ("ArrayTextModel", "thrown", "I", false)
def tyX9 : Nat → FieldType := fun k => match k with
  | 0 => .array .int
  | 1 => .int
  | 2 => .array .int
  | 3 => .array .double
  | 4 => .array .int
  | 5 => .array .int
  | 6 => .array .int
  | 7 => .array .int
  | 8 => .int
  | 9 => .int
  | 10 => .array .double
  | 11 => .array .double
  | 12 => .array .double
  | 13 => .array .int
  | 14 => .array .int
  | 15 => .int
  | 16 => .int
  | 17 => .boolean
  | 18 => .boolean
  | 19 => .boolean
  | 20 => .boolean
  | 21 => .boolean
  | 22 => .int
  | 23 => .int
  | 24 => .int
  | 25 => .int
  | _ => .int
abbrev wsX90 : List Cond := u_ws RX9 TX9 27
theorem nmX9 : ∀ a, a < 27 → ∀ b, b < 27 → a ≠ b → (TX9 a).2.1 ≠ (TX9 b).2.1 := by decide +kernel
theorem tyX9_ok : ∀ k, k < 27 → parseFieldDescriptor (TX9 k).2.2.1 = some (tyX9 k) := by decide +kernel
abbrev cX9_init : ByteArray := prog_11_method_1_code
def yX9_init : MethodName := ⟨RX9, "<init>", "()V"⟩
abbrev cX9_thrown : ByteArray := prog_11_method_2_code
def yX9_thrown : MethodName := ⟨RX9, "thrown", "()I"⟩
abbrev cX9_within : ByteArray := prog_11_method_3_code
def yX9_within : MethodName := ⟨RX9, "within", "(III)Z"⟩
abbrev cX9_write : ByteArray := prog_11_method_4_code
def yX9_write : MethodName := ⟨RX9, "write", "(J)I"⟩
abbrev cX9_erase : ByteArray := prog_11_method_5_code
def yX9_erase : MethodName := ⟨RX9, "erase", "()I"⟩
abbrev cX9_fits : ByteArray := prog_11_method_6_code
def yX9_fits : MethodName := ⟨RX9, "fits", "(D)Z"⟩
abbrev cX9_put : ByteArray := prog_11_method_7_code
def yX9_put : MethodName := ⟨RX9, "put", "(ID)Z"⟩
abbrev cX9_isShape : ByteArray := prog_11_method_8_code
def yX9_isShape : MethodName := ⟨RX9, "isShape", "(I)Z"⟩
abbrev cX9_count : ByteArray := prog_11_method_9_code
def yX9_count : MethodName := ⟨RX9, "count", "(I)I"⟩
abbrev cX9_shape : ByteArray := prog_11_method_10_code
def yX9_shape : MethodName := ⟨RX9, "shape", "(II)Z"⟩
abbrev cX9_has : ByteArray := prog_11_method_11_code
def yX9_has : MethodName := ⟨RX9, "has", "(II)Z"⟩
abbrev cX9_set : ByteArray := prog_11_method_12_code
def yX9_set : MethodName := ⟨RX9, "set", "(IID)Z"⟩
abbrev cX9_shapeOf : ByteArray := prog_11_method_13_code
def yX9_shapeOf : MethodName := ⟨RX9, "shapeOf", "(I)I"⟩
abbrev cX9_size : ByteArray := prog_11_method_14_code
def yX9_size : MethodName := ⟨RX9, "size", "(I)I"⟩
abbrev cX9_at : ByteArray := prog_11_method_15_code
def yX9_at : MethodName := ⟨RX9, "at", "(II)D"⟩
abbrev cX9_charAt : ByteArray := prog_11_method_16_code
def yX9_charAt : MethodName := ⟨RX9, "charAt", "(I)I"⟩
abbrev cX9_isDigit : ByteArray := prog_11_method_17_code
def yX9_isDigit : MethodName := ⟨RX9, "isDigit", "(I)Z"⟩
abbrev cX9_isSign : ByteArray := prog_11_method_18_code
def yX9_isSign : MethodName := ⟨RX9, "isSign", "(I)Z"⟩
abbrev cX9_reduces : ByteArray := prog_11_method_19_code
def yX9_reduces : MethodName := ⟨RX9, "reduces", "(I)Z"⟩
abbrev cX9_keep : ByteArray := prog_11_method_20_code
def yX9_keep : MethodName := ⟨RX9, "keep", "(III)V"⟩
abbrev cX9_number : ByteArray := prog_11_method_21_code
def yX9_number : MethodName := ⟨RX9, "number", "(I)I"⟩
abbrev cX9_constant : ByteArray := prog_11_method_22_code
def yX9_constant : MethodName := ⟨RX9, "constant", "(I)I"⟩
abbrev cX9_cut : ByteArray := prog_11_method_23_code
def yX9_cut : MethodName := ⟨RX9, "cut", "()Z"⟩
abbrev cX9_check : ByteArray := prog_11_method_24_code
def yX9_check : MethodName := ⟨RX9, "check", "(D)V"⟩
abbrev cX9_join : ByteArray := prog_11_method_25_code
def yX9_join : MethodName := ⟨RX9, "join", "(IDD)D"⟩
abbrev cX9_load : ByteArray := prog_11_method_26_code
def yX9_load : MethodName := ⟨RX9, "load", "(I)V"⟩
abbrev cX9_deliver : ByteArray := prog_11_method_27_code
def yX9_deliver : MethodName := ⟨RX9, "deliver", "(I)V"⟩
abbrev cX9_append : ByteArray := prog_11_method_28_code
def yX9_append : MethodName := ⟨RX9, "append", "(I)V"⟩
abbrev cX9_shapeAnew : ByteArray := prog_11_method_29_code
def yX9_shapeAnew : MethodName := ⟨RX9, "shapeAnew", "(I)V"⟩
abbrev cX9_pairs : ByteArray := prog_11_method_30_code
def yX9_pairs : MethodName := ⟨RX9, "pairs", "(II)V"⟩
abbrev cX9_front : ByteArray := prog_11_method_31_code
def yX9_front : MethodName := ⟨RX9, "front", "(I)V"⟩
abbrev cX9_turn : ByteArray := prog_11_method_32_code
def yX9_turn : MethodName := ⟨RX9, "turn", "()V"⟩
abbrev cX9_along : ByteArray := prog_11_method_33_code
def yX9_along : MethodName := ⟨RX9, "along", "(IZ)V"⟩
abbrev cX9_work : ByteArray := prog_11_method_34_code
def yX9_work : MethodName := ⟨RX9, "work", "()I"⟩
abbrev cX9_run : ByteArray := prog_11_method_35_code
def yX9_run : MethodName := ⟨RX9, "run", "(I)I"⟩
abbrev cX9_look : ByteArray := prog_11_method_36_code
def yX9_look : MethodName := ⟨RX9, "look", "()I"⟩
abbrev cX9_made : ByteArray := prog_11_method_37_code
def yX9_made : MethodName := ⟨RX9, "made", "()I"⟩
abbrev cX9_runs : ByteArray := prog_11_method_38_code
def yX9_runs : MethodName := ⟨RX9, "runs", "()I"⟩
def RJx00060 : String := "java/lang/ArrayIndexOutOfBoundsException"
def TJx00060 : u_T := fun k => match k with
  | 0 => ("java/lang/Throwable", "backtrace", "Ljava/lang/Object;", false)
  | 1 => ("java/lang/Throwable", "detailMessage", "Ljava/lang/String;", false)
  | 2 => ("java/lang/Throwable", "cause", "Ljava/lang/Throwable;", false)
  | 3 => ("java/lang/Throwable", "stackTrace", "[Ljava/lang/StackTraceElement;", false)
  | 4 => ("java/lang/Throwable", "depth", "I", false)
  | _ => ("java/lang/Throwable", "suppressedExceptions", "Ljava/util/List;", false)
def tyJx00060 : Nat → FieldType := fun k => match k with
  | 0 => .object "java/lang/Object"
  | 1 => .object "java/lang/String"
  | 2 => .object "java/lang/Throwable"
  | 3 => .array (.object "java/lang/StackTraceElement")
  | 4 => .int
  | _ => .object "java/util/List"
abbrev wsJx000600 : List Cond := u_ws RJx00060 TJx00060 6
theorem nmJx00060 : ∀ a, a < 6 → ∀ b, b < 6 → a ≠ b → (TJx00060 a).2.1 ≠ (TJx00060 b).2.1 := by decide +kernel
theorem tyJx00060_ok : ∀ k, k < 6 → parseFieldDescriptor (TJx00060 k).2.2.1 = some (tyJx00060 k) := by decide +kernel
abbrev cJx00060_init_a7421 : ByteArray := prog_13_method_2_code
def yJx00060_init_a7421 : MethodName := ⟨RJx00060, "<init>", "(Ljava/lang/String;)V"⟩
def RJ0 : String := "java/lang/String"
def TJ0 : u_T := fun k => match k with
  | 0 => ("java/lang/String", "value", "[B", true)
  | _ => ("java/lang/String", "coder", "B", true)
def tyJ0 : Nat → FieldType := fun k => match k with
  | 0 => .array .byte
  | _ => .byte
abbrev wsJ00 : List Cond := u_ws RJ0 TJ0 2
theorem nmJ0 : ∀ a, a < 2 → ∀ b, b < 2 → a ≠ b → (TJ0 a).2.1 ≠ (TJ0 b).2.1 := by decide +kernel
theorem tyJ0_ok : ∀ k, k < 2 → parseFieldDescriptor (TJ0 k).2.2.1 = some (tyJ0 k) := by decide +kernel
def RL : String := "ArrayTextLaw"
abbrev cL_run : ByteArray := method_3_code
def yL_run : MethodName := ⟨RL, "run", "(LArrayText;I[J)I"⟩
abbrev cL_look : ByteArray := method_4_code
def yL_look : MethodName := ⟨RL, "look", "(LArrayText;[J)I"⟩
abbrev cL_law : ByteArray := code
def yL_law : MethodName := ⟨RL, "law", "([I)Z"⟩
abbrev vwCl : List vw_C := [(RJ0, TJ0, 2), (RJx00060, TJx00060, 6), (RX0, TX0, 6), (RX1, TX1, 2), (RX5, TX5, 3), (RX6, TX6, 2), (RX8, TX8, 5), (RX9, TX9, 27)]
end
section
def lw_all : List Cond := lw_tbl.filter goodWord
theorem lw_allTbl {w : Cond} (h : w ∈ lw_all) : w ∈ lw_tbl := (List.mem_filter.mp h).1
theorem lw_allGood {w : Cond} (h : w ∈ lw_all) : (w.onTables && w.keeps) = true ∨ ∃ ty, w = .arrayClass ty := good_of_word (List.mem_filter.mp h).2
theorem qm {w : Cond} (i : Nat) (h : tables_1[i]? = some w) (g : goodWord w = true) : w ∈ lw_all := List.mem_filter.mpr ⟨List.mem_append_right _ (List.mem_of_getElem? h), g⟩
theorem qp {w : Cond} (i : Nat) (h : (k2_sels lw_privs)[i]? = some w) (g : goodWord w = true) : w ∈ lw_all := List.mem_filter.mpr ⟨List.mem_append_left _ (List.mem_of_getElem? h), g⟩
theorem q0 : (Jvm.Cond.initialized "ArrayTextLaw") ∈ lw_all := qm 0 (by decide +kernel) (by decide +kernel)
theorem q1 : (Jvm.Cond.initialized "ArrayText") ∈ lw_all := qm 1 (by decide +kernel) (by decide +kernel)
theorem q2 : (Jvm.Cond.initialized "ArrayText$NumberArray") ∈ lw_all := qm 2 (by decide +kernel) (by decide +kernel)
theorem q3 : (Jvm.Cond.initialized "ArrayText$Text") ∈ lw_all := qm 3 (by decide +kernel) (by decide +kernel)
theorem q4 : (Jvm.Cond.initialized "ArrayText$Tree") ∈ lw_all := qm 4 (by decide +kernel) (by decide +kernel)
theorem q5 : (Jvm.Cond.initialized "ArrayText$Node") ∈ lw_all := qm 5 (by decide +kernel) (by decide +kernel)
theorem q6 : (Jvm.Cond.initialized "ArrayTextModel") ∈ lw_all := qm 6 (by decide +kernel) (by decide +kernel)
theorem q7 : (Jvm.Cond.initialized "ArrayText$Shapes") ∈ lw_all := qm 7 (by decide +kernel) (by decide +kernel)
theorem q8 : (Jvm.Cond.initialized "java/lang/Throwable") ∈ lw_all := qm 8 (by decide +kernel) (by decide +kernel)
theorem q9 : (Jvm.Cond.initialized "java/lang/Exception") ∈ lw_all := qm 9 (by decide +kernel) (by decide +kernel)
theorem q10 : (Jvm.Cond.initialized "java/lang/RuntimeException") ∈ lw_all := qm 10 (by decide +kernel) (by decide +kernel)
theorem q11 : (Jvm.Cond.initialized "java/lang/IndexOutOfBoundsException") ∈ lw_all := qm 11 (by decide +kernel) (by decide +kernel)
theorem q12 : (Jvm.Cond.initialized "java/lang/ArrayIndexOutOfBoundsException") ∈ lw_all := qm 12 (by decide +kernel) (by decide +kernel)
theorem q13 : (Jvm.Cond.initialized "java/lang/String") ∈ lw_all := qm 13 (by decide +kernel) (by decide +kernel)
theorem q14 : (Jvm.Cond.initialized "java/lang/ArithmeticException") ∈ lw_all := qm 14 (by decide +kernel) (by decide +kernel)
theorem q15 : (Jvm.Cond.initialized "ArrayText$Parser") ∈ lw_all := qm 15 (by decide +kernel) (by decide +kernel)
theorem q16 : (Jvm.Cond.initialized "java/lang/IllegalArgumentException") ∈ lw_all := qm 16 (by decide +kernel) (by decide +kernel)
theorem q17 : (Jvm.Cond.initialized "ArrayText$ShapeFinder") ∈ lw_all := qm 17 (by decide +kernel) (by decide +kernel)
theorem q18 : (Jvm.Cond.initialized "java/lang/UnsupportedOperationException") ∈ lw_all := qm 18 (by decide +kernel) (by decide +kernel)
theorem q19 : (Jvm.Cond.initialized "java/lang/IllegalStateException") ∈ lw_all := qm 19 (by decide +kernel) (by decide +kernel)
theorem q20 : (Jvm.Cond.initialized "ArrayText$Worker") ∈ lw_all := qm 20 (by decide +kernel) (by decide +kernel)
theorem q21 : (Jvm.Cond.classLink "ArrayTextLaw" (8 : Nat) "ArrayText") ∈ lw_all := qm 21 (by decide +kernel) (by decide +kernel)
theorem q22 : (Jvm.Cond.instantiable "ArrayText" (5 : Nat)) ∈ lw_all := qm 22 (by decide +kernel) (by decide +kernel)
theorem q23 : (Jvm.Cond.methodLink "ArrayTextLaw" (27 : Nat) ({ cls := "ArrayText", name := "<init>", desc := "()V" } : Jvm.MethodName)) ∈ lw_all := qm 23 (by decide +kernel) (by decide +kernel)
theorem q24 : (Jvm.Cond.instanceMethod ({ cls := "ArrayText", name := "<init>", desc := "()V" } : Jvm.MethodName)) ∈ lw_all := qm 24 (by decide +kernel) (by decide +kernel)
theorem q25 : (Jvm.Cond.code ({ cls := "ArrayText", name := "<init>", desc := "()V" } : Jvm.MethodName) prog_1_method_1_code (2 : Nat) (Option.none : Option Jvm.ClassFile.FieldType)) ∈ lw_all := qm 25 (by decide +kernel) (by decide +kernel)
theorem q26 : (Jvm.Cond.methodLink "ArrayText" (3 : Nat) ({ cls := "java/lang/Object", name := "<init>", desc := "()V" } : Jvm.MethodName)) ∈ lw_all := qm 26 (by decide +kernel) (by decide +kernel)
theorem q27 : (Jvm.Cond.instanceMethod ({ cls := "java/lang/Object", name := "<init>", desc := "()V" } : Jvm.MethodName)) ∈ lw_all := qm 27 (by decide +kernel) (by decide +kernel)
theorem q28 : (Jvm.Cond.code ({ cls := "java/lang/Object", name := "<init>", desc := "()V" } : Jvm.MethodName) object_method_1_code (1 : Nat) (Option.none : Option Jvm.ClassFile.FieldType)) ∈ lw_all := qm 28 (by decide +kernel) (by decide +kernel)
theorem q29 : (Jvm.Cond.classLink "ArrayText" (9 : Nat) "ArrayText$NumberArray") ∈ lw_all := qm 29 (by decide +kernel) (by decide +kernel)
theorem q31 : (Jvm.Cond.instantiable "ArrayText$NumberArray" (2 : Nat)) ∈ lw_all := qm 31 (by decide +kernel) (by decide +kernel)
theorem q33 : (Jvm.Cond.instanceMethod ({ cls := "ArrayText$NumberArray", name := "<init>", desc := "()V" } : Jvm.MethodName)) ∈ lw_all := qm 33 (by decide +kernel) (by decide +kernel)
theorem q34 : (Jvm.Cond.code ({ cls := "ArrayText$NumberArray", name := "<init>", desc := "()V" } : Jvm.MethodName) prog_3_method_1_code (1 : Nat) (Option.none : Option Jvm.ClassFile.FieldType)) ∈ lw_all := qm 34 (by decide +kernel) (by decide +kernel)
theorem q35 : (Jvm.Cond.methodLink "ArrayText$NumberArray" (3 : Nat) ({ cls := "java/lang/Object", name := "<init>", desc := "()V" } : Jvm.MethodName)) ∈ lw_all := qm 35 (by decide +kernel) (by decide +kernel)
theorem q36 : (Jvm.Cond.fieldLink "ArrayText$NumberArray" (9 : Nat) "ArrayText$NumberArray" "shape" "I") ∈ lw_all := qm 36 (by decide +kernel) (by decide +kernel)
theorem q37 : (Jvm.Cond.fieldLink "ArrayText$ShapeFinder" (31 : Nat) "ArrayText$NumberArray" "shape" "I") ∈ lw_all := qm 37 (by decide +kernel) (by decide +kernel)
theorem q38 : (Jvm.Cond.fieldLink "ArrayText" (46 : Nat) "ArrayText$NumberArray" "shape" "I") ∈ lw_all := qm 38 (by decide +kernel) (by decide +kernel)
theorem q39 : (Jvm.Cond.fieldLink "ArrayText$Parser" (99 : Nat) "ArrayText$NumberArray" "shape" "I") ∈ lw_all := qm 39 (by decide +kernel) (by decide +kernel)
theorem q40 : (Jvm.Cond.fieldLink "ArrayText$Worker" (89 : Nat) "ArrayText$NumberArray" "shape" "I") ∈ lw_all := qm 40 (by decide +kernel) (by decide +kernel)
theorem q41 : (Jvm.Cond.fieldLink "ArrayText$NumberArray" (15 : Nat) "ArrayText$NumberArray" "elements" "[D") ∈ lw_all := qm 41 (by decide +kernel) (by decide +kernel)
theorem q42 : (Jvm.Cond.fieldLink "ArrayText$Worker" (85 : Nat) "ArrayText$NumberArray" "elements" "[D") ∈ lw_all := qm 42 (by decide +kernel) (by decide +kernel)
theorem q43 : (Jvm.Cond.fieldLink "ArrayText" (50 : Nat) "ArrayText$NumberArray" "elements" "[D") ∈ lw_all := qm 43 (by decide +kernel) (by decide +kernel)
theorem q44 : (Jvm.Cond.fieldLink "ArrayText$Parser" (93 : Nat) "ArrayText$NumberArray" "elements" "[D") ∈ lw_all := qm 44 (by decide +kernel) (by decide +kernel)
theorem q45 : (Jvm.Cond.fieldLink "ArrayText$ShapeFinder" (113 : Nat) "ArrayText$NumberArray" "elements" "[D") ∈ lw_all := qm 45 (by decide +kernel) (by decide +kernel)
theorem q46 : (Jvm.Cond.lays "ArrayText$NumberArray" "ArrayText$NumberArray" "shape" "I") ∈ lw_all := qm 46 (by decide +kernel) (by decide +kernel)
theorem q48 : (Jvm.Cond.laysFinal "ArrayText$NumberArray" "ArrayText$NumberArray" "elements" "[D") ∈ lw_all := qm 48 (by decide +kernel) (by decide +kernel)
theorem q51 : (Jvm.Cond.arrayClass Jvm.ClassFile.FieldType.double) ∈ lw_all := qm 51 (by decide +kernel) (by decide +kernel)
theorem q52 : (Jvm.Cond.classLink "ArrayText" (16 : Nat) "ArrayText$Text") ∈ lw_all := qm 52 (by decide +kernel) (by decide +kernel)
theorem q53 : (Jvm.Cond.instantiable "ArrayText$Text" (3 : Nat)) ∈ lw_all := qm 53 (by decide +kernel) (by decide +kernel)
theorem q55 : (Jvm.Cond.instanceMethod ({ cls := "ArrayText$Text", name := "<init>", desc := "()V" } : Jvm.MethodName)) ∈ lw_all := qm 55 (by decide +kernel) (by decide +kernel)
theorem q56 : (Jvm.Cond.code ({ cls := "ArrayText$Text", name := "<init>", desc := "()V" } : Jvm.MethodName) prog_7_method_1_code (1 : Nat) (Option.none : Option Jvm.ClassFile.FieldType)) ∈ lw_all := qm 56 (by decide +kernel) (by decide +kernel)
theorem q57 : (Jvm.Cond.methodLink "ArrayText$Text" (3 : Nat) ({ cls := "java/lang/Object", name := "<init>", desc := "()V" } : Jvm.MethodName)) ∈ lw_all := qm 57 (by decide +kernel) (by decide +kernel)
theorem q58 : (Jvm.Cond.fieldLink "ArrayText$Text" (9 : Nat) "ArrayText$Text" "signs" "[C") ∈ lw_all := qm 58 (by decide +kernel) (by decide +kernel)
theorem q59 : (Jvm.Cond.fieldLink "ArrayText$Text" (19 : Nat) "ArrayText$Text" "length" "I") ∈ lw_all := qm 59 (by decide +kernel) (by decide +kernel)
theorem q60 : (Jvm.Cond.fieldLink "ArrayText$Text" (27 : Nat) "ArrayText$Text" "place" "I") ∈ lw_all := qm 60 (by decide +kernel) (by decide +kernel)
theorem q61 : (Jvm.Cond.laysFinal "ArrayText$Text" "ArrayText$Text" "signs" "[C") ∈ lw_all := qm 61 (by decide +kernel) (by decide +kernel)
theorem q63 : (Jvm.Cond.lays "ArrayText$Text" "ArrayText$Text" "length" "I") ∈ lw_all := qm 63 (by decide +kernel) (by decide +kernel)
theorem q65 : (Jvm.Cond.lays "ArrayText$Text" "ArrayText$Text" "place" "I") ∈ lw_all := qm 65 (by decide +kernel) (by decide +kernel)
theorem q68 : (Jvm.Cond.arrayClass Jvm.ClassFile.FieldType.char) ∈ lw_all := qm 68 (by decide +kernel) (by decide +kernel)
theorem q69 : (Jvm.Cond.classLink "ArrayText" (23 : Nat) "ArrayText$Tree") ∈ lw_all := qm 69 (by decide +kernel) (by decide +kernel)
theorem q70 : (Jvm.Cond.instantiable "ArrayText$Tree" (2 : Nat)) ∈ lw_all := qm 70 (by decide +kernel) (by decide +kernel)
theorem q71 : (Jvm.Cond.methodLink "ArrayText" (25 : Nat) ({ cls := "ArrayText$Tree", name := "<init>", desc := "()V" } : Jvm.MethodName)) ∈ lw_all := qm 71 (by decide +kernel) (by decide +kernel)
theorem q72 : (Jvm.Cond.instanceMethod ({ cls := "ArrayText$Tree", name := "<init>", desc := "()V" } : Jvm.MethodName)) ∈ lw_all := qm 72 (by decide +kernel) (by decide +kernel)
theorem q73 : (Jvm.Cond.code ({ cls := "ArrayText$Tree", name := "<init>", desc := "()V" } : Jvm.MethodName) prog_8_method_1_code (2 : Nat) (Option.none : Option Jvm.ClassFile.FieldType)) ∈ lw_all := qm 73 (by decide +kernel) (by decide +kernel)
theorem q74 : (Jvm.Cond.methodLink "ArrayText$Tree" (3 : Nat) ({ cls := "java/lang/Object", name := "<init>", desc := "()V" } : Jvm.MethodName)) ∈ lw_all := qm 74 (by decide +kernel) (by decide +kernel)
theorem q75 : (Jvm.Cond.classLink "ArrayText$Tree" (9 : Nat) "ArrayText$Node") ∈ lw_all := qm 75 (by decide +kernel) (by decide +kernel)
theorem q77 : (Jvm.Cond.instantiable "ArrayText$Node" (6 : Nat)) ∈ lw_all := qm 77 (by decide +kernel) (by decide +kernel)
theorem q79 : (Jvm.Cond.instanceMethod ({ cls := "ArrayText$Node", name := "<init>", desc := "()V" } : Jvm.MethodName)) ∈ lw_all := qm 79 (by decide +kernel) (by decide +kernel)
theorem q80 : (Jvm.Cond.code ({ cls := "ArrayText$Node", name := "<init>", desc := "()V" } : Jvm.MethodName) prog_2_method_1_code (1 : Nat) (Option.none : Option Jvm.ClassFile.FieldType)) ∈ lw_all := qm 80 (by decide +kernel) (by decide +kernel)
theorem q81 : (Jvm.Cond.methodLink "ArrayText$Node" (3 : Nat) ({ cls := "java/lang/Object", name := "<init>", desc := "()V" } : Jvm.MethodName)) ∈ lw_all := qm 81 (by decide +kernel) (by decide +kernel)
theorem q82 : (Jvm.Cond.classLink "ArrayText$Node" (9 : Nat) "ArrayText$NumberArray") ∈ lw_all := qm 82 (by decide +kernel) (by decide +kernel)
theorem q84 : (Jvm.Cond.fieldLink "ArrayText$Node" (18 : Nat) "ArrayText$Node" "kind" "I") ∈ lw_all := qm 84 (by decide +kernel) (by decide +kernel)
theorem q85 : (Jvm.Cond.fieldLink "ArrayText$ShapeFinder" (36 : Nat) "ArrayText$Node" "kind" "I") ∈ lw_all := qm 85 (by decide +kernel) (by decide +kernel)
theorem q86 : (Jvm.Cond.fieldLink "ArrayText$Worker" (25 : Nat) "ArrayText$Node" "kind" "I") ∈ lw_all := qm 86 (by decide +kernel) (by decide +kernel)
theorem q87 : (Jvm.Cond.fieldLink "ArrayText$Parser" (71 : Nat) "ArrayText$Node" "kind" "I") ∈ lw_all := qm 87 (by decide +kernel) (by decide +kernel)
theorem q88 : (Jvm.Cond.fieldLink "ArrayText$Node" (22 : Nat) "ArrayText$Node" "sign" "C") ∈ lw_all := qm 88 (by decide +kernel) (by decide +kernel)
theorem q89 : (Jvm.Cond.fieldLink "ArrayText$Worker" (57 : Nat) "ArrayText$Node" "sign" "C") ∈ lw_all := qm 89 (by decide +kernel) (by decide +kernel)
theorem q90 : (Jvm.Cond.fieldLink "ArrayText$Parser" (115 : Nat) "ArrayText$Node" "sign" "C") ∈ lw_all := qm 90 (by decide +kernel) (by decide +kernel)
theorem q91 : (Jvm.Cond.fieldLink "ArrayText$Node" (26 : Nat) "ArrayText$Node" "number" "I") ∈ lw_all := qm 91 (by decide +kernel) (by decide +kernel)
theorem q92 : (Jvm.Cond.fieldLink "ArrayText$ShapeFinder" (39 : Nat) "ArrayText$Node" "number" "I") ∈ lw_all := qm 92 (by decide +kernel) (by decide +kernel)
theorem q93 : (Jvm.Cond.fieldLink "ArrayText$Worker" (34 : Nat) "ArrayText$Node" "number" "I") ∈ lw_all := qm 93 (by decide +kernel) (by decide +kernel)
theorem q94 : (Jvm.Cond.fieldLink "ArrayText$Parser" (75 : Nat) "ArrayText$Node" "number" "I") ∈ lw_all := qm 94 (by decide +kernel) (by decide +kernel)
theorem q95 : (Jvm.Cond.fieldLink "ArrayText$Node" (29 : Nat) "ArrayText$Node" "left" "LArrayText$Node;") ∈ lw_all := qm 95 (by decide +kernel) (by decide +kernel)
theorem q96 : (Jvm.Cond.fieldLink "ArrayText$Parser" (52 : Nat) "ArrayText$Node" "left" "LArrayText$Node;") ∈ lw_all := qm 96 (by decide +kernel) (by decide +kernel)
theorem q97 : (Jvm.Cond.fieldLink "ArrayText$ShapeFinder" (56 : Nat) "ArrayText$Node" "left" "LArrayText$Node;") ∈ lw_all := qm 97 (by decide +kernel) (by decide +kernel)
theorem q98 : (Jvm.Cond.fieldLink "ArrayText$Worker" (68 : Nat) "ArrayText$Node" "left" "LArrayText$Node;") ∈ lw_all := qm 98 (by decide +kernel) (by decide +kernel)
theorem q99 : (Jvm.Cond.fieldLink "ArrayText$Node" (33 : Nat) "ArrayText$Node" "right" "LArrayText$Node;") ∈ lw_all := qm 99 (by decide +kernel) (by decide +kernel)
theorem q100 : (Jvm.Cond.fieldLink "ArrayText$Parser" (58 : Nat) "ArrayText$Node" "right" "LArrayText$Node;") ∈ lw_all := qm 100 (by decide +kernel) (by decide +kernel)
theorem q101 : (Jvm.Cond.fieldLink "ArrayText$ShapeFinder" (46 : Nat) "ArrayText$Node" "right" "LArrayText$Node;") ∈ lw_all := qm 101 (by decide +kernel) (by decide +kernel)
theorem q102 : (Jvm.Cond.fieldLink "ArrayText$Worker" (46 : Nat) "ArrayText$Node" "right" "LArrayText$Node;") ∈ lw_all := qm 102 (by decide +kernel) (by decide +kernel)
theorem q103 : (Jvm.Cond.fieldLink "ArrayText$Node" (12 : Nat) "ArrayText$Node" "result" "LArrayText$NumberArray;") ∈ lw_all := qm 103 (by decide +kernel) (by decide +kernel)
theorem q104 : (Jvm.Cond.fieldLink "ArrayText$ShapeFinder" (19 : Nat) "ArrayText$Node" "result" "LArrayText$NumberArray;") ∈ lw_all := qm 104 (by decide +kernel) (by decide +kernel)
theorem q105 : (Jvm.Cond.fieldLink "ArrayText$Worker" (30 : Nat) "ArrayText$Node" "result" "LArrayText$NumberArray;") ∈ lw_all := qm 105 (by decide +kernel) (by decide +kernel)
theorem q106 : (Jvm.Cond.fieldLink "ArrayText$Parser" (85 : Nat) "ArrayText$Node" "result" "LArrayText$NumberArray;") ∈ lw_all := qm 106 (by decide +kernel) (by decide +kernel)
theorem q107 : (Jvm.Cond.fieldLink "ArrayText" (93 : Nat) "ArrayText$Node" "result" "LArrayText$NumberArray;") ∈ lw_all := qm 107 (by decide +kernel) (by decide +kernel)
theorem q108 : (Jvm.Cond.lays "ArrayText$Node" "ArrayText$Node" "kind" "I") ∈ lw_all := qm 108 (by decide +kernel) (by decide +kernel)
theorem q110 : (Jvm.Cond.lays "ArrayText$Node" "ArrayText$Node" "sign" "C") ∈ lw_all := qm 110 (by decide +kernel) (by decide +kernel)
theorem q112 : (Jvm.Cond.lays "ArrayText$Node" "ArrayText$Node" "number" "I") ∈ lw_all := qm 112 (by decide +kernel) (by decide +kernel)
theorem q114 : (Jvm.Cond.lays "ArrayText$Node" "ArrayText$Node" "left" "LArrayText$Node;") ∈ lw_all := qm 114 (by decide +kernel) (by decide +kernel)
theorem q116 : (Jvm.Cond.lays "ArrayText$Node" "ArrayText$Node" "right" "LArrayText$Node;") ∈ lw_all := qm 116 (by decide +kernel) (by decide +kernel)
theorem q118 : (Jvm.Cond.laysFinal "ArrayText$Node" "ArrayText$Node" "result" "LArrayText$NumberArray;") ∈ lw_all := qm 118 (by decide +kernel) (by decide +kernel)
theorem q121 : (Jvm.Cond.fieldLink "ArrayText$Tree" (11 : Nat) "ArrayText$Tree" "nodes" "[LArrayText$Node;") ∈ lw_all := qm 121 (by decide +kernel) (by decide +kernel)
theorem q122 : (Jvm.Cond.fieldLink "ArrayText$ShapeFinder" (15 : Nat) "ArrayText$Tree" "nodes" "[LArrayText$Node;") ∈ lw_all := qm 122 (by decide +kernel) (by decide +kernel)
theorem q123 : (Jvm.Cond.fieldLink "ArrayText$Worker" (15 : Nat) "ArrayText$Tree" "nodes" "[LArrayText$Node;") ∈ lw_all := qm 123 (by decide +kernel) (by decide +kernel)
theorem q124 : (Jvm.Cond.fieldLink "ArrayText$ShapeFinder" (9 : Nat) "ArrayText$Tree" "count" "I") ∈ lw_all := qm 124 (by decide +kernel) (by decide +kernel)
theorem q125 : (Jvm.Cond.fieldLink "ArrayText$Worker" (9 : Nat) "ArrayText$Tree" "count" "I") ∈ lw_all := qm 125 (by decide +kernel) (by decide +kernel)
theorem q126 : (Jvm.Cond.fieldLink "ArrayText$Tree" (18 : Nat) "ArrayText$Tree" "count" "I") ∈ lw_all := qm 126 (by decide +kernel) (by decide +kernel)
theorem q127 : (Jvm.Cond.laysFinal "ArrayText$Tree" "ArrayText$Tree" "nodes" "[LArrayText$Node;") ∈ lw_all := qm 127 (by decide +kernel) (by decide +kernel)
theorem q129 : (Jvm.Cond.lays "ArrayText$Tree" "ArrayText$Tree" "count" "I") ∈ lw_all := qm 129 (by decide +kernel) (by decide +kernel)
theorem q132 : (Jvm.Cond.fieldLink "ArrayText" (11 : Nat) "ArrayText" "variables" "[LArrayText$NumberArray;") ∈ lw_all := qm 132 (by decide +kernel) (by decide +kernel)
theorem q133 : (Jvm.Cond.fieldLink "ArrayText" (19 : Nat) "ArrayText" "text" "LArrayText$Text;") ∈ lw_all := qm 133 (by decide +kernel) (by decide +kernel)
theorem q134 : (Jvm.Cond.fieldLink "ArrayText" (26 : Nat) "ArrayText" "tree" "LArrayText$Tree;") ∈ lw_all := qm 134 (by decide +kernel) (by decide +kernel)
theorem q135 : (Jvm.Cond.fieldLink "ArrayText" (107 : Nat) "ArrayText" "madeByLatest" "I") ∈ lw_all := qm 135 (by decide +kernel) (by decide +kernel)
theorem q136 : (Jvm.Cond.fieldLink "ArrayText" (110 : Nat) "ArrayText" "runsSoFar" "I") ∈ lw_all := qm 136 (by decide +kernel) (by decide +kernel)
theorem q137 : (Jvm.Cond.laysFinal "ArrayText" "ArrayText" "variables" "[LArrayText$NumberArray;") ∈ lw_all := qm 137 (by decide +kernel) (by decide +kernel)
theorem q139 : (Jvm.Cond.laysFinal "ArrayText" "ArrayText" "text" "LArrayText$Text;") ∈ lw_all := qm 139 (by decide +kernel) (by decide +kernel)
theorem q141 : (Jvm.Cond.laysFinal "ArrayText" "ArrayText" "tree" "LArrayText$Tree;") ∈ lw_all := qm 141 (by decide +kernel) (by decide +kernel)
theorem q143 : (Jvm.Cond.lays "ArrayText" "ArrayText" "madeByLatest" "I") ∈ lw_all := qm 143 (by decide +kernel) (by decide +kernel)
theorem q145 : (Jvm.Cond.lays "ArrayText" "ArrayText" "runsSoFar" "I") ∈ lw_all := qm 145 (by decide +kernel) (by decide +kernel)
theorem q148 : (Jvm.Cond.methodLink "ArrayTextLaw" (33 : Nat) ({ cls := "ArrayText", name := "write", desc := "(J)I" } : Jvm.MethodName)) ∈ lw_all := qm 148 (by decide +kernel) (by decide +kernel)
theorem q149 : (Jvm.Cond.instanceMethod ({ cls := "ArrayText", name := "write", desc := "(J)I" } : Jvm.MethodName)) ∈ lw_all := qm 149 (by decide +kernel) (by decide +kernel)
theorem q150 : (Jvm.Cond.selects "ArrayText" ({ cls := "ArrayText", name := "write", desc := "(J)I" } : Jvm.MethodName) ({ cls := "ArrayText", name := "write", desc := "(J)I" } : Jvm.MethodName)) ∈ lw_all := qm 150 (by decide +kernel) (by decide +kernel)
theorem q151 : (Jvm.Cond.code ({ cls := "ArrayText", name := "write", desc := "(J)I" } : Jvm.MethodName) prog_1_method_2_code (3 : Nat) (Option.some Jvm.ClassFile.FieldType.int)) ∈ lw_all := qm 151 (by decide +kernel) (by decide +kernel)
theorem q152 : (Jvm.Cond.methodLink "ArrayText" (30 : Nat) ({ cls := "ArrayText$Text", name := "append", desc := "(J)I" } : Jvm.MethodName)) ∈ lw_all := qm 152 (by decide +kernel) (by decide +kernel)
theorem q153 : (Jvm.Cond.instanceMethod ({ cls := "ArrayText$Text", name := "append", desc := "(J)I" } : Jvm.MethodName)) ∈ lw_all := qm 153 (by decide +kernel) (by decide +kernel)
theorem q154 : (Jvm.Cond.selects "ArrayText$Text" ({ cls := "ArrayText$Text", name := "append", desc := "(J)I" } : Jvm.MethodName) ({ cls := "ArrayText$Text", name := "append", desc := "(J)I" } : Jvm.MethodName)) ∈ lw_all := qm 154 (by decide +kernel) (by decide +kernel)
theorem q155 : (Jvm.Cond.code ({ cls := "ArrayText$Text", name := "append", desc := "(J)I" } : Jvm.MethodName) prog_7_method_2_code (5 : Nat) (Option.some Jvm.ClassFile.FieldType.int)) ∈ lw_all := qm 155 (by decide +kernel) (by decide +kernel)
theorem q156 : (Jvm.Cond.methodLink "ArrayText$Text" (15 : Nat) ({ cls := "ArrayText$Text", name := "signsIn", desc := "(J)I" } : Jvm.MethodName)) ∈ lw_all := qm 156 (by decide +kernel) (by decide +kernel)
theorem q157 : (Jvm.Cond.static ({ cls := "ArrayText$Text", name := "signsIn", desc := "(J)I" } : Jvm.MethodName)) ∈ lw_all := qm 157 (by decide +kernel) (by decide +kernel)
theorem q158 : (Jvm.Cond.code ({ cls := "ArrayText$Text", name := "signsIn", desc := "(J)I" } : Jvm.MethodName) prog_7_method_8_code (4 : Nat) (Option.some Jvm.ClassFile.FieldType.int)) ∈ lw_all := qm 158 (by decide +kernel) (by decide +kernel)
theorem q159 : (Jvm.Cond.methodLink "ArrayText$Text" (23 : Nat) ({ cls := "ArrayText$Text", name := "signOf", desc := "(JI)I" } : Jvm.MethodName)) ∈ lw_all := qm 159 (by decide +kernel) (by decide +kernel)
theorem q160 : (Jvm.Cond.static ({ cls := "ArrayText$Text", name := "signOf", desc := "(JI)I" } : Jvm.MethodName)) ∈ lw_all := qm 160 (by decide +kernel) (by decide +kernel)
theorem q161 : (Jvm.Cond.code ({ cls := "ArrayText$Text", name := "signOf", desc := "(JI)I" } : Jvm.MethodName) prog_7_method_9_code (3 : Nat) (Option.some Jvm.ClassFile.FieldType.int)) ∈ lw_all := qm 161 (by decide +kernel) (by decide +kernel)
theorem q162 : (Jvm.Cond.methodLink "ArrayTextLaw" (38 : Nat) ({ cls := "ArrayText", name := "erase", desc := "()I" } : Jvm.MethodName)) ∈ lw_all := qm 162 (by decide +kernel) (by decide +kernel)
theorem q163 : (Jvm.Cond.instanceMethod ({ cls := "ArrayText", name := "erase", desc := "()I" } : Jvm.MethodName)) ∈ lw_all := qm 163 (by decide +kernel) (by decide +kernel)
theorem q164 : (Jvm.Cond.selects "ArrayText" ({ cls := "ArrayText", name := "erase", desc := "()I" } : Jvm.MethodName) ({ cls := "ArrayText", name := "erase", desc := "()I" } : Jvm.MethodName)) ∈ lw_all := qm 164 (by decide +kernel) (by decide +kernel)
theorem q165 : (Jvm.Cond.code ({ cls := "ArrayText", name := "erase", desc := "()I" } : Jvm.MethodName) prog_1_method_3_code (1 : Nat) (Option.some Jvm.ClassFile.FieldType.int)) ∈ lw_all := qm 165 (by decide +kernel) (by decide +kernel)
theorem q166 : (Jvm.Cond.methodLink "ArrayText" (34 : Nat) ({ cls := "ArrayText$Text", name := "clear", desc := "()I" } : Jvm.MethodName)) ∈ lw_all := qm 166 (by decide +kernel) (by decide +kernel)
theorem q167 : (Jvm.Cond.instanceMethod ({ cls := "ArrayText$Text", name := "clear", desc := "()I" } : Jvm.MethodName)) ∈ lw_all := qm 167 (by decide +kernel) (by decide +kernel)
theorem q168 : (Jvm.Cond.selects "ArrayText$Text" ({ cls := "ArrayText$Text", name := "clear", desc := "()I" } : Jvm.MethodName) ({ cls := "ArrayText$Text", name := "clear", desc := "()I" } : Jvm.MethodName)) ∈ lw_all := qm 168 (by decide +kernel) (by decide +kernel)
theorem q169 : (Jvm.Cond.code ({ cls := "ArrayText$Text", name := "clear", desc := "()I" } : Jvm.MethodName) prog_7_method_3_code (2 : Nat) (Option.some Jvm.ClassFile.FieldType.int)) ∈ lw_all := qm 169 (by decide +kernel) (by decide +kernel)
theorem q170 : (Jvm.Cond.methodLink "ArrayTextLaw" (44 : Nat) ({ cls := "ArrayText", name := "put", desc := "(ID)Z" } : Jvm.MethodName)) ∈ lw_all := qm 170 (by decide +kernel) (by decide +kernel)
theorem q171 : (Jvm.Cond.instanceMethod ({ cls := "ArrayText", name := "put", desc := "(ID)Z" } : Jvm.MethodName)) ∈ lw_all := qm 171 (by decide +kernel) (by decide +kernel)
theorem q172 : (Jvm.Cond.selects "ArrayText" ({ cls := "ArrayText", name := "put", desc := "(ID)Z" } : Jvm.MethodName) ({ cls := "ArrayText", name := "put", desc := "(ID)Z" } : Jvm.MethodName)) ∈ lw_all := qm 172 (by decide +kernel) (by decide +kernel)
theorem q173 : (Jvm.Cond.code ({ cls := "ArrayText", name := "put", desc := "(ID)Z" } : Jvm.MethodName) prog_1_method_4_code (4 : Nat) (Option.some Jvm.ClassFile.FieldType.boolean)) ∈ lw_all := qm 173 (by decide +kernel) (by decide +kernel)
theorem q174 : (Jvm.Cond.methodLink "ArrayText" (38 : Nat) ({ cls := "ArrayText", name := "isVariable", desc := "(I)Z" } : Jvm.MethodName)) ∈ lw_all := qm 174 (by decide +kernel) (by decide +kernel)
theorem q175 : (Jvm.Cond.static ({ cls := "ArrayText", name := "isVariable", desc := "(I)Z" } : Jvm.MethodName)) ∈ lw_all := qm 175 (by decide +kernel) (by decide +kernel)
theorem q176 : (Jvm.Cond.code ({ cls := "ArrayText", name := "isVariable", desc := "(I)Z" } : Jvm.MethodName) prog_1_method_14_code (1 : Nat) (Option.some Jvm.ClassFile.FieldType.boolean)) ∈ lw_all := qm 176 (by decide +kernel) (by decide +kernel)
theorem q177 : (Jvm.Cond.methodLink "ArrayText" (42 : Nat) ({ cls := "ArrayText", name := "isInRange", desc := "(D)Z" } : Jvm.MethodName)) ∈ lw_all := qm 177 (by decide +kernel) (by decide +kernel)
theorem q178 : (Jvm.Cond.static ({ cls := "ArrayText", name := "isInRange", desc := "(D)Z" } : Jvm.MethodName)) ∈ lw_all := qm 178 (by decide +kernel) (by decide +kernel)
theorem q179 : (Jvm.Cond.code ({ cls := "ArrayText", name := "isInRange", desc := "(D)Z" } : Jvm.MethodName) prog_1_method_15_code (2 : Nat) (Option.some Jvm.ClassFile.FieldType.boolean)) ∈ lw_all := qm 179 (by decide +kernel) (by decide +kernel)
theorem q180 : (Jvm.Cond.constantDouble "ArrayText" (113 : Nat) (14009883241494872064 : UInt64)) ∈ lw_all := qm 180 (by decide +kernel) (by decide +kernel)
theorem q181 : (Jvm.Cond.constantDouble "ArrayText" (115 : Nat) (4786511204640096256 : UInt64)) ∈ lw_all := qm 181 (by decide +kernel) (by decide +kernel)
theorem q182 : (Jvm.Cond.methodLink "ArrayTextLaw" (49 : Nat) ({ cls := "ArrayText", name := "shape", desc := "(II)Z" } : Jvm.MethodName)) ∈ lw_all := qm 182 (by decide +kernel) (by decide +kernel)
theorem q183 : (Jvm.Cond.instanceMethod ({ cls := "ArrayText", name := "shape", desc := "(II)Z" } : Jvm.MethodName)) ∈ lw_all := qm 183 (by decide +kernel) (by decide +kernel)
theorem q184 : (Jvm.Cond.selects "ArrayText" ({ cls := "ArrayText", name := "shape", desc := "(II)Z" } : Jvm.MethodName) ({ cls := "ArrayText", name := "shape", desc := "(II)Z" } : Jvm.MethodName)) ∈ lw_all := qm 184 (by decide +kernel) (by decide +kernel)
theorem q185 : (Jvm.Cond.code ({ cls := "ArrayText", name := "shape", desc := "(II)Z" } : Jvm.MethodName) prog_1_method_5_code (3 : Nat) (Option.some Jvm.ClassFile.FieldType.boolean)) ∈ lw_all := qm 185 (by decide +kernel) (by decide +kernel)
theorem q186 : (Jvm.Cond.methodLink "ArrayText" (54 : Nat) ({ cls := "ArrayText$Shapes", name := "exists", desc := "(I)Z" } : Jvm.MethodName)) ∈ lw_all := qm 186 (by decide +kernel) (by decide +kernel)
theorem q187 : (Jvm.Cond.static ({ cls := "ArrayText$Shapes", name := "exists", desc := "(I)Z" } : Jvm.MethodName)) ∈ lw_all := qm 187 (by decide +kernel) (by decide +kernel)
theorem q188 : (Jvm.Cond.code ({ cls := "ArrayText$Shapes", name := "exists", desc := "(I)Z" } : Jvm.MethodName) prog_6_method_2_code (1 : Nat) (Option.some Jvm.ClassFile.FieldType.boolean)) ∈ lw_all := qm 188 (by decide +kernel) (by decide +kernel)
theorem q189 : (Jvm.Cond.methodLink "ArrayText$Shapes" (9 : Nat) ({ cls := "ArrayText$Shapes", name := "tableOf", desc := "(II)I" } : Jvm.MethodName)) ∈ lw_all := qm 189 (by decide +kernel) (by decide +kernel)
theorem q190 : (Jvm.Cond.static ({ cls := "ArrayText$Shapes", name := "tableOf", desc := "(II)I" } : Jvm.MethodName)) ∈ lw_all := qm 190 (by decide +kernel) (by decide +kernel)
theorem q191 : (Jvm.Cond.code ({ cls := "ArrayText$Shapes", name := "tableOf", desc := "(II)I" } : Jvm.MethodName) prog_6_method_4_code (2 : Nat) (Option.some Jvm.ClassFile.FieldType.int)) ∈ lw_all := qm 191 (by decide +kernel) (by decide +kernel)
theorem q192 : (Jvm.Cond.methodLink "ArrayText$Shapes" (15 : Nat) ({ cls := "ArrayText$Shapes", name := "lines", desc := "(I)I" } : Jvm.MethodName)) ∈ lw_all := qm 192 (by decide +kernel) (by decide +kernel)
theorem q193 : (Jvm.Cond.static ({ cls := "ArrayText$Shapes", name := "lines", desc := "(I)I" } : Jvm.MethodName)) ∈ lw_all := qm 193 (by decide +kernel) (by decide +kernel)
theorem q194 : (Jvm.Cond.code ({ cls := "ArrayText$Shapes", name := "lines", desc := "(I)I" } : Jvm.MethodName) prog_6_method_6_code (1 : Nat) (Option.some Jvm.ClassFile.FieldType.int)) ∈ lw_all := qm 194 (by decide +kernel) (by decide +kernel)
theorem q195 : (Jvm.Cond.methodLink "ArrayText$Shapes" (19 : Nat) ({ cls := "ArrayText$Shapes", name := "length", desc := "(I)I" } : Jvm.MethodName)) ∈ lw_all := qm 195 (by decide +kernel) (by decide +kernel)
theorem q196 : (Jvm.Cond.static ({ cls := "ArrayText$Shapes", name := "length", desc := "(I)I" } : Jvm.MethodName)) ∈ lw_all := qm 196 (by decide +kernel) (by decide +kernel)
theorem q197 : (Jvm.Cond.code ({ cls := "ArrayText$Shapes", name := "length", desc := "(I)I" } : Jvm.MethodName) prog_6_method_7_code (1 : Nat) (Option.some Jvm.ClassFile.FieldType.int)) ∈ lw_all := qm 197 (by decide +kernel) (by decide +kernel)
theorem q198 : (Jvm.Cond.methodLink "ArrayText$Shapes" (22 : Nat) ({ cls := "ArrayText$Shapes", name := "fits", desc := "(II)Z" } : Jvm.MethodName)) ∈ lw_all := qm 198 (by decide +kernel) (by decide +kernel)
theorem q199 : (Jvm.Cond.static ({ cls := "ArrayText$Shapes", name := "fits", desc := "(II)Z" } : Jvm.MethodName)) ∈ lw_all := qm 199 (by decide +kernel) (by decide +kernel)
theorem q200 : (Jvm.Cond.code ({ cls := "ArrayText$Shapes", name := "fits", desc := "(II)Z" } : Jvm.MethodName) prog_6_method_3_code (2 : Nat) (Option.some Jvm.ClassFile.FieldType.boolean)) ∈ lw_all := qm 200 (by decide +kernel) (by decide +kernel)
theorem q201 : (Jvm.Cond.methodLink "ArrayText" (59 : Nat) ({ cls := "ArrayText$NumberArray", name := "becomeZeros", desc := "(I)V" } : Jvm.MethodName)) ∈ lw_all := qm 201 (by decide +kernel) (by decide +kernel)
theorem q202 : (Jvm.Cond.instanceMethod ({ cls := "ArrayText$NumberArray", name := "becomeZeros", desc := "(I)V" } : Jvm.MethodName)) ∈ lw_all := qm 202 (by decide +kernel) (by decide +kernel)
theorem q203 : (Jvm.Cond.selects "ArrayText$NumberArray" ({ cls := "ArrayText$NumberArray", name := "becomeZeros", desc := "(I)V" } : Jvm.MethodName) ({ cls := "ArrayText$NumberArray", name := "becomeZeros", desc := "(I)V" } : Jvm.MethodName)) ∈ lw_all := qm 203 (by decide +kernel) (by decide +kernel)
theorem q204 : (Jvm.Cond.code ({ cls := "ArrayText$NumberArray", name := "becomeZeros", desc := "(I)V" } : Jvm.MethodName) prog_3_method_4_code (3 : Nat) (Option.none : Option Jvm.ClassFile.FieldType)) ∈ lw_all := qm 204 (by decide +kernel) (by decide +kernel)
theorem q205 : (Jvm.Cond.methodLink "ArrayTextLaw" (54 : Nat) ({ cls := "ArrayText", name := "set", desc := "(IID)Z" } : Jvm.MethodName)) ∈ lw_all := qm 205 (by decide +kernel) (by decide +kernel)
theorem q206 : (Jvm.Cond.instanceMethod ({ cls := "ArrayText", name := "set", desc := "(IID)Z" } : Jvm.MethodName)) ∈ lw_all := qm 206 (by decide +kernel) (by decide +kernel)
theorem q207 : (Jvm.Cond.selects "ArrayText" ({ cls := "ArrayText", name := "set", desc := "(IID)Z" } : Jvm.MethodName) ({ cls := "ArrayText", name := "set", desc := "(IID)Z" } : Jvm.MethodName)) ∈ lw_all := qm 207 (by decide +kernel) (by decide +kernel)
theorem q208 : (Jvm.Cond.code ({ cls := "ArrayText", name := "set", desc := "(IID)Z" } : Jvm.MethodName) prog_1_method_6_code (5 : Nat) (Option.some Jvm.ClassFile.FieldType.boolean)) ∈ lw_all := qm 208 (by decide +kernel) (by decide +kernel)
theorem q209 : (Jvm.Cond.methodLink "ArrayText" (63 : Nat) ({ cls := "ArrayText$NumberArray", name := "hasElement", desc := "(I)Z" } : Jvm.MethodName)) ∈ lw_all := qm 209 (by decide +kernel) (by decide +kernel)
theorem q210 : (Jvm.Cond.instanceMethod ({ cls := "ArrayText$NumberArray", name := "hasElement", desc := "(I)Z" } : Jvm.MethodName)) ∈ lw_all := qm 210 (by decide +kernel) (by decide +kernel)
theorem q211 : (Jvm.Cond.selects "ArrayText$NumberArray" ({ cls := "ArrayText$NumberArray", name := "hasElement", desc := "(I)Z" } : Jvm.MethodName) ({ cls := "ArrayText$NumberArray", name := "hasElement", desc := "(I)Z" } : Jvm.MethodName)) ∈ lw_all := qm 211 (by decide +kernel) (by decide +kernel)
theorem q212 : (Jvm.Cond.code ({ cls := "ArrayText$NumberArray", name := "hasElement", desc := "(I)Z" } : Jvm.MethodName) prog_3_method_3_code (2 : Nat) (Option.some Jvm.ClassFile.FieldType.boolean)) ∈ lw_all := qm 212 (by decide +kernel) (by decide +kernel)
theorem q213 : (Jvm.Cond.methodLink "ArrayText$NumberArray" (24 : Nat) ({ cls := "ArrayText$NumberArray", name := "count", desc := "()I" } : Jvm.MethodName)) ∈ lw_all := qm 213 (by decide +kernel) (by decide +kernel)
theorem q214 : (Jvm.Cond.instanceMethod ({ cls := "ArrayText$NumberArray", name := "count", desc := "()I" } : Jvm.MethodName)) ∈ lw_all := qm 214 (by decide +kernel) (by decide +kernel)
theorem q215 : (Jvm.Cond.selects "ArrayText$NumberArray" ({ cls := "ArrayText$NumberArray", name := "count", desc := "()I" } : Jvm.MethodName) ({ cls := "ArrayText$NumberArray", name := "count", desc := "()I" } : Jvm.MethodName)) ∈ lw_all := qm 215 (by decide +kernel) (by decide +kernel)
theorem q216 : (Jvm.Cond.code ({ cls := "ArrayText$NumberArray", name := "count", desc := "()I" } : Jvm.MethodName) prog_3_method_2_code (1 : Nat) (Option.some Jvm.ClassFile.FieldType.int)) ∈ lw_all := qm 216 (by decide +kernel) (by decide +kernel)
theorem q217 : (Jvm.Cond.methodLink "ArrayText$NumberArray" (19 : Nat) ({ cls := "ArrayText$Shapes", name := "elements", desc := "(I)I" } : Jvm.MethodName)) ∈ lw_all := qm 217 (by decide +kernel) (by decide +kernel)
theorem q218 : (Jvm.Cond.static ({ cls := "ArrayText$Shapes", name := "elements", desc := "(I)I" } : Jvm.MethodName)) ∈ lw_all := qm 218 (by decide +kernel) (by decide +kernel)
theorem q219 : (Jvm.Cond.code ({ cls := "ArrayText$Shapes", name := "elements", desc := "(I)I" } : Jvm.MethodName) prog_6_method_8_code (1 : Nat) (Option.some Jvm.ClassFile.FieldType.int)) ∈ lw_all := qm 219 (by decide +kernel) (by decide +kernel)
theorem q220 : (Jvm.Cond.methodLink "ArrayTextLaw" (59 : Nat) ({ cls := "ArrayText", name := "shapeOf", desc := "(I)I" } : Jvm.MethodName)) ∈ lw_all := qm 220 (by decide +kernel) (by decide +kernel)
theorem q221 : (Jvm.Cond.instanceMethod ({ cls := "ArrayText", name := "shapeOf", desc := "(I)I" } : Jvm.MethodName)) ∈ lw_all := qm 221 (by decide +kernel) (by decide +kernel)
theorem q222 : (Jvm.Cond.selects "ArrayText" ({ cls := "ArrayText", name := "shapeOf", desc := "(I)I" } : Jvm.MethodName) ({ cls := "ArrayText", name := "shapeOf", desc := "(I)I" } : Jvm.MethodName)) ∈ lw_all := qm 222 (by decide +kernel) (by decide +kernel)
theorem q223 : (Jvm.Cond.code ({ cls := "ArrayText", name := "shapeOf", desc := "(I)I" } : Jvm.MethodName) prog_1_method_7_code (2 : Nat) (Option.some Jvm.ClassFile.FieldType.int)) ∈ lw_all := qm 223 (by decide +kernel) (by decide +kernel)
theorem q224 : (Jvm.Cond.methodLink "ArrayTextLaw" (63 : Nat) ({ cls := "ArrayText", name := "size", desc := "(I)I" } : Jvm.MethodName)) ∈ lw_all := qm 224 (by decide +kernel) (by decide +kernel)
theorem q225 : (Jvm.Cond.instanceMethod ({ cls := "ArrayText", name := "size", desc := "(I)I" } : Jvm.MethodName)) ∈ lw_all := qm 225 (by decide +kernel) (by decide +kernel)
theorem q226 : (Jvm.Cond.selects "ArrayText" ({ cls := "ArrayText", name := "size", desc := "(I)I" } : Jvm.MethodName) ({ cls := "ArrayText", name := "size", desc := "(I)I" } : Jvm.MethodName)) ∈ lw_all := qm 226 (by decide +kernel) (by decide +kernel)
theorem q227 : (Jvm.Cond.code ({ cls := "ArrayText", name := "size", desc := "(I)I" } : Jvm.MethodName) prog_1_method_8_code (2 : Nat) (Option.some Jvm.ClassFile.FieldType.int)) ∈ lw_all := qm 227 (by decide +kernel) (by decide +kernel)
theorem q228 : (Jvm.Cond.methodLink "ArrayText" (66 : Nat) ({ cls := "ArrayText$NumberArray", name := "count", desc := "()I" } : Jvm.MethodName)) ∈ lw_all := qm 228 (by decide +kernel) (by decide +kernel)
theorem q229 : (Jvm.Cond.methodLink "ArrayTextLaw" (67 : Nat) ({ cls := "ArrayText", name := "at", desc := "(II)D" } : Jvm.MethodName)) ∈ lw_all := qm 229 (by decide +kernel) (by decide +kernel)
theorem q230 : (Jvm.Cond.instanceMethod ({ cls := "ArrayText", name := "at", desc := "(II)D" } : Jvm.MethodName)) ∈ lw_all := qm 230 (by decide +kernel) (by decide +kernel)
theorem q231 : (Jvm.Cond.selects "ArrayText" ({ cls := "ArrayText", name := "at", desc := "(II)D" } : Jvm.MethodName) ({ cls := "ArrayText", name := "at", desc := "(II)D" } : Jvm.MethodName)) ∈ lw_all := qm 231 (by decide +kernel) (by decide +kernel)
theorem q232 : (Jvm.Cond.code ({ cls := "ArrayText", name := "at", desc := "(II)D" } : Jvm.MethodName) prog_1_method_9_code (3 : Nat) (Option.some Jvm.ClassFile.FieldType.double)) ∈ lw_all := qm 232 (by decide +kernel) (by decide +kernel)
theorem q233 : (Jvm.Cond.methodLink "ArrayTextLaw" (85 : Nat) ({ cls := "ArrayText", name := "made", desc := "()I" } : Jvm.MethodName)) ∈ lw_all := qm 233 (by decide +kernel) (by decide +kernel)
theorem q234 : (Jvm.Cond.instanceMethod ({ cls := "ArrayText", name := "made", desc := "()I" } : Jvm.MethodName)) ∈ lw_all := qm 234 (by decide +kernel) (by decide +kernel)
theorem q235 : (Jvm.Cond.selects "ArrayText" ({ cls := "ArrayText", name := "made", desc := "()I" } : Jvm.MethodName) ({ cls := "ArrayText", name := "made", desc := "()I" } : Jvm.MethodName)) ∈ lw_all := qm 235 (by decide +kernel) (by decide +kernel)
theorem q236 : (Jvm.Cond.code ({ cls := "ArrayText", name := "made", desc := "()I" } : Jvm.MethodName) prog_1_method_12_code (1 : Nat) (Option.some Jvm.ClassFile.FieldType.int)) ∈ lw_all := qm 236 (by decide +kernel) (by decide +kernel)
theorem q237 : (Jvm.Cond.methodLink "ArrayTextLaw" (89 : Nat) ({ cls := "ArrayText", name := "runs", desc := "()I" } : Jvm.MethodName)) ∈ lw_all := qm 237 (by decide +kernel) (by decide +kernel)
theorem q238 : (Jvm.Cond.instanceMethod ({ cls := "ArrayText", name := "runs", desc := "()I" } : Jvm.MethodName)) ∈ lw_all := qm 238 (by decide +kernel) (by decide +kernel)
theorem q239 : (Jvm.Cond.selects "ArrayText" ({ cls := "ArrayText", name := "runs", desc := "()I" } : Jvm.MethodName) ({ cls := "ArrayText", name := "runs", desc := "()I" } : Jvm.MethodName)) ∈ lw_all := qm 239 (by decide +kernel) (by decide +kernel)
theorem q240 : (Jvm.Cond.code ({ cls := "ArrayText", name := "runs", desc := "()I" } : Jvm.MethodName) prog_1_method_13_code (1 : Nat) (Option.some Jvm.ClassFile.FieldType.int)) ∈ lw_all := qm 240 (by decide +kernel) (by decide +kernel)
theorem q241 : (Jvm.Cond.methodLink "ArrayTextLaw" (72 : Nat) ({ cls := "ArrayTextLaw", name := "run", desc := "(LArrayText;I[J)I" } : Jvm.MethodName)) ∈ lw_all := qm 241 (by decide +kernel) (by decide +kernel)
theorem q242 : (Jvm.Cond.static ({ cls := "ArrayTextLaw", name := "run", desc := "(LArrayText;I[J)I" } : Jvm.MethodName)) ∈ lw_all := qm 242 (by decide +kernel) (by decide +kernel)
theorem q244 : (Jvm.Cond.classLink "ArrayTextLaw" (13 : Nat) "java/lang/IndexOutOfBoundsException") ∈ lw_all := qm 244 (by decide +kernel) (by decide +kernel)
theorem q245 : (Jvm.Cond.instantiable "java/lang/ArrayIndexOutOfBoundsException" (6 : Nat)) ∈ lw_all := qm 245 (by decide +kernel) (by decide +kernel)
theorem q246 : (Jvm.Cond.instanceMethod ({ cls := "java/lang/ArrayIndexOutOfBoundsException", name := "<init>", desc := "(Ljava/lang/String;)V" } : Jvm.MethodName)) ∈ lw_all := qm 246 (by decide +kernel) (by decide +kernel)
theorem q247 : (Jvm.Cond.code ({ cls := "java/lang/ArrayIndexOutOfBoundsException", name := "<init>", desc := "(Ljava/lang/String;)V" } : Jvm.MethodName) prog_13_method_2_code (2 : Nat) (Option.none : Option Jvm.ClassFile.FieldType)) ∈ lw_all := qm 247 (by decide +kernel) (by decide +kernel)
theorem q248 : (Jvm.Cond.methodLink "java/lang/ArrayIndexOutOfBoundsException" (7 : Nat) ({ cls := "java/lang/IndexOutOfBoundsException", name := "<init>", desc := "(Ljava/lang/String;)V" } : Jvm.MethodName)) ∈ lw_all := qm 248 (by decide +kernel) (by decide +kernel)
theorem q249 : (Jvm.Cond.instanceMethod ({ cls := "java/lang/IndexOutOfBoundsException", name := "<init>", desc := "(Ljava/lang/String;)V" } : Jvm.MethodName)) ∈ lw_all := qm 249 (by decide +kernel) (by decide +kernel)
theorem q250 : (Jvm.Cond.code ({ cls := "java/lang/IndexOutOfBoundsException", name := "<init>", desc := "(Ljava/lang/String;)V" } : Jvm.MethodName) prog_17_method_2_code (2 : Nat) (Option.none : Option Jvm.ClassFile.FieldType)) ∈ lw_all := qm 250 (by decide +kernel) (by decide +kernel)
theorem q251 : (Jvm.Cond.methodLink "java/lang/IndexOutOfBoundsException" (7 : Nat) ({ cls := "java/lang/RuntimeException", name := "<init>", desc := "(Ljava/lang/String;)V" } : Jvm.MethodName)) ∈ lw_all := qm 251 (by decide +kernel) (by decide +kernel)
theorem q252 : (Jvm.Cond.instanceMethod ({ cls := "java/lang/RuntimeException", name := "<init>", desc := "(Ljava/lang/String;)V" } : Jvm.MethodName)) ∈ lw_all := qm 252 (by decide +kernel) (by decide +kernel)
theorem q253 : (Jvm.Cond.code ({ cls := "java/lang/RuntimeException", name := "<init>", desc := "(Ljava/lang/String;)V" } : Jvm.MethodName) prog_18_method_2_code (2 : Nat) (Option.none : Option Jvm.ClassFile.FieldType)) ∈ lw_all := qm 253 (by decide +kernel) (by decide +kernel)
theorem q254 : (Jvm.Cond.methodLink "java/lang/RuntimeException" (7 : Nat) ({ cls := "java/lang/Exception", name := "<init>", desc := "(Ljava/lang/String;)V" } : Jvm.MethodName)) ∈ lw_all := qm 254 (by decide +kernel) (by decide +kernel)
theorem q255 : (Jvm.Cond.instanceMethod ({ cls := "java/lang/Exception", name := "<init>", desc := "(Ljava/lang/String;)V" } : Jvm.MethodName)) ∈ lw_all := qm 255 (by decide +kernel) (by decide +kernel)
theorem q256 : (Jvm.Cond.code ({ cls := "java/lang/Exception", name := "<init>", desc := "(Ljava/lang/String;)V" } : Jvm.MethodName) prog_14_method_2_code (2 : Nat) (Option.none : Option Jvm.ClassFile.FieldType)) ∈ lw_all := qm 256 (by decide +kernel) (by decide +kernel)
theorem q257 : (Jvm.Cond.methodLink "java/lang/Exception" (7 : Nat) ({ cls := "java/lang/Throwable", name := "<init>", desc := "(Ljava/lang/String;)V" } : Jvm.MethodName)) ∈ lw_all := qm 257 (by decide +kernel) (by decide +kernel)
theorem q258 : (Jvm.Cond.instanceMethod ({ cls := "java/lang/Throwable", name := "<init>", desc := "(Ljava/lang/String;)V" } : Jvm.MethodName)) ∈ lw_all := qm 258 (by decide +kernel) (by decide +kernel)
theorem q259 : (Jvm.Cond.code ({ cls := "java/lang/Throwable", name := "<init>", desc := "(Ljava/lang/String;)V" } : Jvm.MethodName) prog_20_method_2_code (2 : Nat) (Option.none : Option Jvm.ClassFile.FieldType)) ∈ lw_all := qm 259 (by decide +kernel) (by decide +kernel)
theorem q260 : (Jvm.Cond.methodLink "java/lang/Throwable" (1 : Nat) ({ cls := "java/lang/Object", name := "<init>", desc := "()V" } : Jvm.MethodName)) ∈ lw_all := qm 260 (by decide +kernel) (by decide +kernel)
theorem q261 : (Jvm.Cond.fieldLink "java/lang/Throwable" (13 : Nat) "java/lang/Throwable" "UNASSIGNED_STACK" "[Ljava/lang/StackTraceElement;") ∈ lw_all := qm 261 (by decide +kernel) (by decide +kernel)
theorem q263 : (Jvm.Cond.fieldLink "java/lang/Throwable" (20 : Nat) "java/lang/Throwable" "SUPPRESSED_SENTINEL" "Ljava/util/List;") ∈ lw_all := qm 263 (by decide +kernel) (by decide +kernel)
theorem q265 : (Jvm.Cond.methodLink "java/lang/Throwable" (27 : Nat) ({ cls := "java/lang/Throwable", name := "fillInStackTrace", desc := "()Ljava/lang/Throwable;" } : Jvm.MethodName)) ∈ lw_all := qm 265 (by decide +kernel) (by decide +kernel)
theorem q266 : (Jvm.Cond.instanceMethod ({ cls := "java/lang/Throwable", name := "fillInStackTrace", desc := "()Ljava/lang/Throwable;" } : Jvm.MethodName)) ∈ lw_all := qm 266 (by decide +kernel) (by decide +kernel)
theorem q268 : (Jvm.Cond.selects "java/lang/ArithmeticException" ({ cls := "java/lang/Throwable", name := "fillInStackTrace", desc := "()Ljava/lang/Throwable;" } : Jvm.MethodName) ({ cls := "java/lang/Throwable", name := "fillInStackTrace", desc := "()Ljava/lang/Throwable;" } : Jvm.MethodName)) ∈ lw_all := qm 268 (by decide +kernel) (by decide +kernel)
theorem q269 : (Jvm.Cond.selects "java/lang/ArrayIndexOutOfBoundsException" ({ cls := "java/lang/Throwable", name := "fillInStackTrace", desc := "()Ljava/lang/Throwable;" } : Jvm.MethodName) ({ cls := "java/lang/Throwable", name := "fillInStackTrace", desc := "()Ljava/lang/Throwable;" } : Jvm.MethodName)) ∈ lw_all := qm 269 (by decide +kernel) (by decide +kernel)
theorem q270 : (Jvm.Cond.selects "java/lang/IllegalArgumentException" ({ cls := "java/lang/Throwable", name := "fillInStackTrace", desc := "()Ljava/lang/Throwable;" } : Jvm.MethodName) ({ cls := "java/lang/Throwable", name := "fillInStackTrace", desc := "()Ljava/lang/Throwable;" } : Jvm.MethodName)) ∈ lw_all := qm 270 (by decide +kernel) (by decide +kernel)
theorem q271 : (Jvm.Cond.selects "java/lang/IllegalStateException" ({ cls := "java/lang/Throwable", name := "fillInStackTrace", desc := "()Ljava/lang/Throwable;" } : Jvm.MethodName) ({ cls := "java/lang/Throwable", name := "fillInStackTrace", desc := "()Ljava/lang/Throwable;" } : Jvm.MethodName)) ∈ lw_all := qm 271 (by decide +kernel) (by decide +kernel)
theorem q272 : (Jvm.Cond.selects "java/lang/IndexOutOfBoundsException" ({ cls := "java/lang/Throwable", name := "fillInStackTrace", desc := "()Ljava/lang/Throwable;" } : Jvm.MethodName) ({ cls := "java/lang/Throwable", name := "fillInStackTrace", desc := "()Ljava/lang/Throwable;" } : Jvm.MethodName)) ∈ lw_all := qm 272 (by decide +kernel) (by decide +kernel)
theorem q273 : (Jvm.Cond.selects "java/lang/UnsupportedOperationException" ({ cls := "java/lang/Throwable", name := "fillInStackTrace", desc := "()Ljava/lang/Throwable;" } : Jvm.MethodName) ({ cls := "java/lang/Throwable", name := "fillInStackTrace", desc := "()Ljava/lang/Throwable;" } : Jvm.MethodName)) ∈ lw_all := qm 273 (by decide +kernel) (by decide +kernel)
theorem q275 : (Jvm.Cond.methodLink "java/lang/Throwable" (202 : Nat) ({ cls := "java/lang/Throwable", name := "fillInStackTrace", desc := "(I)Ljava/lang/Throwable;" } : Jvm.MethodName)) ∈ lw_all := qm 275 (by decide +kernel) (by decide +kernel)
theorem q277 : (Jvm.Cond.instanceMethod ({ cls := "java/lang/Throwable", name := "fillInStackTrace", desc := "(I)Ljava/lang/Throwable;" } : Jvm.MethodName)) ∈ lw_all := qm 277 (by decide +kernel) (by decide +kernel)
theorem q278 : (Jvm.Cond.instantiable "java/lang/Throwable" (6 : Nat)) ∈ lw_all := qm 278 (by decide +kernel) (by decide +kernel)
theorem q280 : (Jvm.Cond.fieldLink "java/lang/Throwable" (198 : Nat) "java/lang/Throwable" "backtrace" "Ljava/lang/Object;") ∈ lw_all := qm 280 (by decide +kernel) (by decide +kernel)
theorem q281 : (Jvm.Cond.fieldLink "java/lang/Throwable" (31 : Nat) "java/lang/Throwable" "detailMessage" "Ljava/lang/String;") ∈ lw_all := qm 281 (by decide +kernel) (by decide +kernel)
theorem q282 : (Jvm.Cond.fieldLink "java/lang/Throwable" (7 : Nat) "java/lang/Throwable" "cause" "Ljava/lang/Throwable;") ∈ lw_all := qm 282 (by decide +kernel) (by decide +kernel)
theorem q283 : (Jvm.Cond.fieldLink "java/lang/Throwable" (17 : Nat) "java/lang/Throwable" "stackTrace" "[Ljava/lang/StackTraceElement;") ∈ lw_all := qm 283 (by decide +kernel) (by decide +kernel)
theorem q284 : (Jvm.Cond.fieldLink "java/lang/Throwable" (24 : Nat) "java/lang/Throwable" "suppressedExceptions" "Ljava/util/List;") ∈ lw_all := qm 284 (by decide +kernel) (by decide +kernel)
theorem q285 : (Jvm.Cond.lays "java/lang/ArrayIndexOutOfBoundsException" "java/lang/Throwable" "backtrace" "Ljava/lang/Object;") ∈ lw_all := qm 285 (by decide +kernel) (by decide +kernel)
theorem q287 : (Jvm.Cond.lays "java/lang/ArrayIndexOutOfBoundsException" "java/lang/Throwable" "detailMessage" "Ljava/lang/String;") ∈ lw_all := qm 287 (by decide +kernel) (by decide +kernel)
theorem q289 : (Jvm.Cond.lays "java/lang/ArrayIndexOutOfBoundsException" "java/lang/Throwable" "cause" "Ljava/lang/Throwable;") ∈ lw_all := qm 289 (by decide +kernel) (by decide +kernel)
theorem q291 : (Jvm.Cond.lays "java/lang/ArrayIndexOutOfBoundsException" "java/lang/Throwable" "stackTrace" "[Ljava/lang/StackTraceElement;") ∈ lw_all := qm 291 (by decide +kernel) (by decide +kernel)
theorem q293 : (Jvm.Cond.lays "java/lang/ArrayIndexOutOfBoundsException" "java/lang/Throwable" "depth" "I") ∈ lw_all := qm 293 (by decide +kernel) (by decide +kernel)
theorem q295 : (Jvm.Cond.lays "java/lang/ArrayIndexOutOfBoundsException" "java/lang/Throwable" "suppressedExceptions" "Ljava/util/List;") ∈ lw_all := qm 295 (by decide +kernel) (by decide +kernel)
theorem q307 : (Jvm.Cond.selects "java/lang/ArrayIndexOutOfBoundsException" ({ cls := "java/lang/Throwable", name := "fillInStackTrace", desc := "(I)Ljava/lang/Throwable;" } : Jvm.MethodName) ({ cls := "java/lang/Throwable", name := "fillInStackTrace", desc := "(I)Ljava/lang/Throwable;" } : Jvm.MethodName)) ∈ lw_all := qm 307 (by decide +kernel) (by decide +kernel)
theorem q308 : (Jvm.Cond.lays "java/lang/Throwable" "java/lang/Throwable" "cause" "Ljava/lang/Throwable;") ∈ lw_all := qm 308 (by decide +kernel) (by decide +kernel)
theorem q309 : (Jvm.Cond.lays "java/lang/Throwable" "java/lang/Throwable" "stackTrace" "[Ljava/lang/StackTraceElement;") ∈ lw_all := qm 309 (by decide +kernel) (by decide +kernel)
theorem q310 : (Jvm.Cond.lays "java/lang/Throwable" "java/lang/Throwable" "suppressedExceptions" "Ljava/util/List;") ∈ lw_all := qm 310 (by decide +kernel) (by decide +kernel)
theorem q311 : (Jvm.Cond.lays "java/lang/Throwable" "java/lang/Throwable" "detailMessage" "Ljava/lang/String;") ∈ lw_all := qm 311 (by decide +kernel) (by decide +kernel)
theorem q312 : (Jvm.Cond.lays "java/lang/Throwable" "java/lang/Throwable" "backtrace" "Ljava/lang/Object;") ∈ lw_all := qm 312 (by decide +kernel) (by decide +kernel)
theorem q313 : (Jvm.Cond.fieldLink "java/lang/Throwable" (198 : Nat) "java/lang/Throwable" "backtrace" "Ljava/lang/Object;") ∈ lw_all := qm 313 (by decide +kernel) (by decide +kernel)
theorem q315 : (Jvm.Cond.instanceMethod ({ cls := "java/lang/Throwable", name := "<init>", desc := "()V" } : Jvm.MethodName)) ∈ lw_all := qm 315 (by decide +kernel) (by decide +kernel)
theorem q316 : (Jvm.Cond.code ({ cls := "java/lang/Throwable", name := "<init>", desc := "()V" } : Jvm.MethodName) prog_20_method_1_code (1 : Nat) (Option.none : Option Jvm.ClassFile.FieldType)) ∈ lw_all := qm 316 (by decide +kernel) (by decide +kernel)
theorem q317 : (Jvm.Cond.instantiable "java/lang/String" (4 : Nat)) ∈ lw_all := qm 317 (by decide +kernel) (by decide +kernel)
theorem q318 : (Jvm.Cond.arrayClass Jvm.ClassFile.FieldType.byte) ∈ lw_all := qm 318 (by decide +kernel) (by decide +kernel)
theorem q319 : (Jvm.Cond.laysFinal "java/lang/String" "java/lang/String" "value" "[B") ∈ lw_all := qm 319 (by decide +kernel) (by decide +kernel)
theorem q321 : (Jvm.Cond.laysFinal "java/lang/String" "java/lang/String" "coder" "B") ∈ lw_all := qm 321 (by decide +kernel) (by decide +kernel)
theorem q323 : (Jvm.Cond.classLink "ArrayTextLaw" (15 : Nat) "java/lang/IllegalArgumentException") ∈ lw_all := qm 323 (by decide +kernel) (by decide +kernel)
theorem q324 : (Jvm.Cond.classLink "ArrayTextLaw" (17 : Nat) "java/lang/IllegalStateException") ∈ lw_all := qm 324 (by decide +kernel) (by decide +kernel)
theorem q325 : (Jvm.Cond.classLink "ArrayTextLaw" (19 : Nat) "java/lang/UnsupportedOperationException") ∈ lw_all := qm 325 (by decide +kernel) (by decide +kernel)
theorem q326 : (Jvm.Cond.classLink "ArrayTextLaw" (21 : Nat) "java/lang/ArithmeticException") ∈ lw_all := qm 326 (by decide +kernel) (by decide +kernel)
theorem q327 : (Jvm.Cond.instantiable "java/lang/ArithmeticException" (6 : Nat)) ∈ lw_all := qm 327 (by decide +kernel) (by decide +kernel)
theorem q328 : (Jvm.Cond.instanceMethod ({ cls := "java/lang/ArithmeticException", name := "<init>", desc := "(Ljava/lang/String;)V" } : Jvm.MethodName)) ∈ lw_all := qm 328 (by decide +kernel) (by decide +kernel)
theorem q329 : (Jvm.Cond.code ({ cls := "java/lang/ArithmeticException", name := "<init>", desc := "(Ljava/lang/String;)V" } : Jvm.MethodName) prog_12_method_2_code (2 : Nat) (Option.none : Option Jvm.ClassFile.FieldType)) ∈ lw_all := qm 329 (by decide +kernel) (by decide +kernel)
theorem q330 : (Jvm.Cond.methodLink "java/lang/ArithmeticException" (7 : Nat) ({ cls := "java/lang/RuntimeException", name := "<init>", desc := "(Ljava/lang/String;)V" } : Jvm.MethodName)) ∈ lw_all := qm 330 (by decide +kernel) (by decide +kernel)
theorem q331 : (Jvm.Cond.lays "java/lang/ArithmeticException" "java/lang/Throwable" "backtrace" "Ljava/lang/Object;") ∈ lw_all := qm 331 (by decide +kernel) (by decide +kernel)
theorem q332 : (Jvm.Cond.lays "java/lang/ArithmeticException" "java/lang/Throwable" "detailMessage" "Ljava/lang/String;") ∈ lw_all := qm 332 (by decide +kernel) (by decide +kernel)
theorem q333 : (Jvm.Cond.lays "java/lang/ArithmeticException" "java/lang/Throwable" "cause" "Ljava/lang/Throwable;") ∈ lw_all := qm 333 (by decide +kernel) (by decide +kernel)
theorem q334 : (Jvm.Cond.lays "java/lang/ArithmeticException" "java/lang/Throwable" "stackTrace" "[Ljava/lang/StackTraceElement;") ∈ lw_all := qm 334 (by decide +kernel) (by decide +kernel)
theorem q335 : (Jvm.Cond.lays "java/lang/ArithmeticException" "java/lang/Throwable" "depth" "I") ∈ lw_all := qm 335 (by decide +kernel) (by decide +kernel)
theorem q336 : (Jvm.Cond.lays "java/lang/ArithmeticException" "java/lang/Throwable" "suppressedExceptions" "Ljava/util/List;") ∈ lw_all := qm 336 (by decide +kernel) (by decide +kernel)
theorem q339 : (Jvm.Cond.selects "java/lang/ArithmeticException" ({ cls := "java/lang/Throwable", name := "fillInStackTrace", desc := "(I)Ljava/lang/Throwable;" } : Jvm.MethodName) ({ cls := "java/lang/Throwable", name := "fillInStackTrace", desc := "(I)Ljava/lang/Throwable;" } : Jvm.MethodName)) ∈ lw_all := qm 339 (by decide +kernel) (by decide +kernel)
theorem q340 : (Jvm.Cond.methodLink "ArrayTextLaw" (7 : Nat) ({ cls := "ArrayText", name := "run", desc := "(I)I" } : Jvm.MethodName)) ∈ lw_all := qm 340 (by decide +kernel) (by decide +kernel)
theorem q341 : (Jvm.Cond.instanceMethod ({ cls := "ArrayText", name := "run", desc := "(I)I" } : Jvm.MethodName)) ∈ lw_all := qm 341 (by decide +kernel) (by decide +kernel)
theorem q342 : (Jvm.Cond.selects "ArrayText" ({ cls := "ArrayText", name := "run", desc := "(I)I" } : Jvm.MethodName) ({ cls := "ArrayText", name := "run", desc := "(I)I" } : Jvm.MethodName)) ∈ lw_all := qm 342 (by decide +kernel) (by decide +kernel)
theorem q343 : (Jvm.Cond.code ({ cls := "ArrayText", name := "run", desc := "(I)I" } : Jvm.MethodName) prog_1_method_10_code (3 : Nat) (Option.some Jvm.ClassFile.FieldType.int)) ∈ lw_all := qm 343 (by decide +kernel) (by decide +kernel)
theorem q344 : (Jvm.Cond.classLink "ArrayText" (69 : Nat) "java/lang/IndexOutOfBoundsException") ∈ lw_all := qm 344 (by decide +kernel) (by decide +kernel)
theorem q345 : (Jvm.Cond.instantiable "java/lang/IndexOutOfBoundsException" (6 : Nat)) ∈ lw_all := qm 345 (by decide +kernel) (by decide +kernel)
theorem q347 : (Jvm.Cond.selects "java/lang/IndexOutOfBoundsException" ({ cls := "java/lang/Throwable", name := "fillInStackTrace", desc := "(I)Ljava/lang/Throwable;" } : Jvm.MethodName) ({ cls := "java/lang/Throwable", name := "fillInStackTrace", desc := "(I)Ljava/lang/Throwable;" } : Jvm.MethodName)) ∈ lw_all := qm 347 (by decide +kernel) (by decide +kernel)
theorem q348 : (Jvm.Cond.lays "java/lang/IndexOutOfBoundsException" "java/lang/Throwable" "cause" "Ljava/lang/Throwable;") ∈ lw_all := qm 348 (by decide +kernel) (by decide +kernel)
theorem q349 : (Jvm.Cond.lays "java/lang/IndexOutOfBoundsException" "java/lang/Throwable" "stackTrace" "[Ljava/lang/StackTraceElement;") ∈ lw_all := qm 349 (by decide +kernel) (by decide +kernel)
theorem q350 : (Jvm.Cond.lays "java/lang/IndexOutOfBoundsException" "java/lang/Throwable" "suppressedExceptions" "Ljava/util/List;") ∈ lw_all := qm 350 (by decide +kernel) (by decide +kernel)
theorem q351 : (Jvm.Cond.lays "java/lang/IndexOutOfBoundsException" "java/lang/Throwable" "detailMessage" "Ljava/lang/String;") ∈ lw_all := qm 351 (by decide +kernel) (by decide +kernel)
theorem q352 : (Jvm.Cond.lays "java/lang/IndexOutOfBoundsException" "java/lang/Throwable" "backtrace" "Ljava/lang/Object;") ∈ lw_all := qm 352 (by decide +kernel) (by decide +kernel)
theorem q354 : (Jvm.Cond.methodLink "ArrayText" (73 : Nat) ({ cls := "java/lang/IndexOutOfBoundsException", name := "<init>", desc := "(Ljava/lang/String;)V" } : Jvm.MethodName)) ∈ lw_all := qm 354 (by decide +kernel) (by decide +kernel)
theorem q355 : (Jvm.Cond.lays "java/lang/IndexOutOfBoundsException" "java/lang/Throwable" "depth" "I") ∈ lw_all := qm 355 (by decide +kernel) (by decide +kernel)
theorem q357 : (Jvm.Cond.methodLink "ArrayText" (76 : Nat) ({ cls := "ArrayText$Parser", name := "readWhole", desc := "(LArrayText$Text;LArrayText$Tree;)LArrayText$Node;" } : Jvm.MethodName)) ∈ lw_all := qm 357 (by decide +kernel) (by decide +kernel)
theorem q358 : (Jvm.Cond.static ({ cls := "ArrayText$Parser", name := "readWhole", desc := "(LArrayText$Text;LArrayText$Tree;)LArrayText$Node;" } : Jvm.MethodName)) ∈ lw_all := qm 358 (by decide +kernel) (by decide +kernel)
theorem q359 : (Jvm.Cond.code ({ cls := "ArrayText$Parser", name := "readWhole", desc := "(LArrayText$Text;LArrayText$Tree;)LArrayText$Node;" } : Jvm.MethodName) prog_4_method_2_code (3 : Nat) (Option.some (Jvm.ClassFile.FieldType.object "ArrayText$Node"))) ∈ lw_all := qm 359 (by decide +kernel) (by decide +kernel)
theorem q360 : (Jvm.Cond.methodLink "ArrayText$Parser" (9 : Nat) ({ cls := "ArrayText$Text", name := "startReading", desc := "()V" } : Jvm.MethodName)) ∈ lw_all := qm 360 (by decide +kernel) (by decide +kernel)
theorem q361 : (Jvm.Cond.instanceMethod ({ cls := "ArrayText$Text", name := "startReading", desc := "()V" } : Jvm.MethodName)) ∈ lw_all := qm 361 (by decide +kernel) (by decide +kernel)
theorem q362 : (Jvm.Cond.selects "ArrayText$Text" ({ cls := "ArrayText$Text", name := "startReading", desc := "()V" } : Jvm.MethodName) ({ cls := "ArrayText$Text", name := "startReading", desc := "()V" } : Jvm.MethodName)) ∈ lw_all := qm 362 (by decide +kernel) (by decide +kernel)
theorem q363 : (Jvm.Cond.code ({ cls := "ArrayText$Text", name := "startReading", desc := "()V" } : Jvm.MethodName) prog_7_method_4_code (1 : Nat) (Option.none : Option Jvm.ClassFile.FieldType)) ∈ lw_all := qm 363 (by decide +kernel) (by decide +kernel)
theorem q364 : (Jvm.Cond.methodLink "ArrayText$Parser" (14 : Nat) ({ cls := "ArrayText$Tree", name := "clear", desc := "()V" } : Jvm.MethodName)) ∈ lw_all := qm 364 (by decide +kernel) (by decide +kernel)
theorem q365 : (Jvm.Cond.instanceMethod ({ cls := "ArrayText$Tree", name := "clear", desc := "()V" } : Jvm.MethodName)) ∈ lw_all := qm 365 (by decide +kernel) (by decide +kernel)
theorem q366 : (Jvm.Cond.selects "ArrayText$Tree" ({ cls := "ArrayText$Tree", name := "clear", desc := "()V" } : Jvm.MethodName) ({ cls := "ArrayText$Tree", name := "clear", desc := "()V" } : Jvm.MethodName)) ∈ lw_all := qm 366 (by decide +kernel) (by decide +kernel)
theorem q367 : (Jvm.Cond.code ({ cls := "ArrayText$Tree", name := "clear", desc := "()V" } : Jvm.MethodName) prog_8_method_2_code (1 : Nat) (Option.none : Option Jvm.ClassFile.FieldType)) ∈ lw_all := qm 367 (by decide +kernel) (by decide +kernel)
theorem q368 : (Jvm.Cond.methodLink "ArrayText$Parser" (19 : Nat) ({ cls := "ArrayText$Parser", name := "readExpression", desc := "(LArrayText$Text;LArrayText$Tree;I)LArrayText$Node;" } : Jvm.MethodName)) ∈ lw_all := qm 368 (by decide +kernel) (by decide +kernel)
theorem q369 : (Jvm.Cond.static ({ cls := "ArrayText$Parser", name := "readExpression", desc := "(LArrayText$Text;LArrayText$Tree;I)LArrayText$Node;" } : Jvm.MethodName)) ∈ lw_all := qm 369 (by decide +kernel) (by decide +kernel)
theorem q370 : (Jvm.Cond.code ({ cls := "ArrayText$Parser", name := "readExpression", desc := "(LArrayText$Text;LArrayText$Tree;I)LArrayText$Node;" } : Jvm.MethodName) prog_4_method_3_code (5 : Nat) (Option.some (Jvm.ClassFile.FieldType.object "ArrayText$Node"))) ∈ lw_all := qm 370 (by decide +kernel) (by decide +kernel)
theorem q371 : (Jvm.Cond.classLink "ArrayText$Parser" (29 : Nat) "java/lang/IllegalArgumentException") ∈ lw_all := qm 371 (by decide +kernel) (by decide +kernel)
theorem q372 : (Jvm.Cond.instantiable "java/lang/IllegalArgumentException" (6 : Nat)) ∈ lw_all := qm 372 (by decide +kernel) (by decide +kernel)
theorem q374 : (Jvm.Cond.selects "java/lang/IllegalArgumentException" ({ cls := "java/lang/Throwable", name := "fillInStackTrace", desc := "(I)Ljava/lang/Throwable;" } : Jvm.MethodName) ({ cls := "java/lang/Throwable", name := "fillInStackTrace", desc := "(I)Ljava/lang/Throwable;" } : Jvm.MethodName)) ∈ lw_all := qm 374 (by decide +kernel) (by decide +kernel)
theorem q375 : (Jvm.Cond.lays "java/lang/IllegalArgumentException" "java/lang/Throwable" "cause" "Ljava/lang/Throwable;") ∈ lw_all := qm 375 (by decide +kernel) (by decide +kernel)
theorem q376 : (Jvm.Cond.lays "java/lang/IllegalArgumentException" "java/lang/Throwable" "stackTrace" "[Ljava/lang/StackTraceElement;") ∈ lw_all := qm 376 (by decide +kernel) (by decide +kernel)
theorem q377 : (Jvm.Cond.lays "java/lang/IllegalArgumentException" "java/lang/Throwable" "suppressedExceptions" "Ljava/util/List;") ∈ lw_all := qm 377 (by decide +kernel) (by decide +kernel)
theorem q378 : (Jvm.Cond.lays "java/lang/IllegalArgumentException" "java/lang/Throwable" "detailMessage" "Ljava/lang/String;") ∈ lw_all := qm 378 (by decide +kernel) (by decide +kernel)
theorem q379 : (Jvm.Cond.lays "java/lang/IllegalArgumentException" "java/lang/Throwable" "backtrace" "Ljava/lang/Object;") ∈ lw_all := qm 379 (by decide +kernel) (by decide +kernel)
theorem q381 : (Jvm.Cond.methodLink "ArrayText$Parser" (33 : Nat) ({ cls := "java/lang/IllegalArgumentException", name := "<init>", desc := "(Ljava/lang/String;)V" } : Jvm.MethodName)) ∈ lw_all := qm 381 (by decide +kernel) (by decide +kernel)
theorem q382 : (Jvm.Cond.instanceMethod ({ cls := "java/lang/IllegalArgumentException", name := "<init>", desc := "(Ljava/lang/String;)V" } : Jvm.MethodName)) ∈ lw_all := qm 382 (by decide +kernel) (by decide +kernel)
theorem q383 : (Jvm.Cond.code ({ cls := "java/lang/IllegalArgumentException", name := "<init>", desc := "(Ljava/lang/String;)V" } : Jvm.MethodName) prog_15_method_2_code (2 : Nat) (Option.none : Option Jvm.ClassFile.FieldType)) ∈ lw_all := qm 383 (by decide +kernel) (by decide +kernel)
theorem q384 : (Jvm.Cond.methodLink "java/lang/IllegalArgumentException" (7 : Nat) ({ cls := "java/lang/RuntimeException", name := "<init>", desc := "(Ljava/lang/String;)V" } : Jvm.MethodName)) ∈ lw_all := qm 384 (by decide +kernel) (by decide +kernel)
theorem q385 : (Jvm.Cond.lays "java/lang/IllegalArgumentException" "java/lang/Throwable" "depth" "I") ∈ lw_all := qm 385 (by decide +kernel) (by decide +kernel)
theorem q387 : (Jvm.Cond.methodLink "ArrayText$Parser" (38 : Nat) ({ cls := "ArrayText$Tree", name := "add", desc := "()LArrayText$Node;" } : Jvm.MethodName)) ∈ lw_all := qm 387 (by decide +kernel) (by decide +kernel)
theorem q388 : (Jvm.Cond.instanceMethod ({ cls := "ArrayText$Tree", name := "add", desc := "()LArrayText$Node;" } : Jvm.MethodName)) ∈ lw_all := qm 388 (by decide +kernel) (by decide +kernel)
theorem q389 : (Jvm.Cond.selects "ArrayText$Tree" ({ cls := "ArrayText$Tree", name := "add", desc := "()LArrayText$Node;" } : Jvm.MethodName) ({ cls := "ArrayText$Tree", name := "add", desc := "()LArrayText$Node;" } : Jvm.MethodName)) ∈ lw_all := qm 389 (by decide +kernel) (by decide +kernel)
theorem q390 : (Jvm.Cond.code ({ cls := "ArrayText$Tree", name := "add", desc := "()LArrayText$Node;" } : Jvm.MethodName) prog_8_method_3_code (2 : Nat) (Option.some (Jvm.ClassFile.FieldType.object "ArrayText$Node"))) ∈ lw_all := qm 390 (by decide +kernel) (by decide +kernel)
theorem q391 : (Jvm.Cond.classLink "ArrayText$Tree" (22 : Nat) "java/lang/IllegalArgumentException") ∈ lw_all := qm 391 (by decide +kernel) (by decide +kernel)
theorem q393 : (Jvm.Cond.methodLink "ArrayText$Tree" (26 : Nat) ({ cls := "java/lang/IllegalArgumentException", name := "<init>", desc := "(Ljava/lang/String;)V" } : Jvm.MethodName)) ∈ lw_all := qm 393 (by decide +kernel) (by decide +kernel)
theorem q394 : (Jvm.Cond.methodLink "ArrayText$Tree" (29 : Nat) ({ cls := "ArrayText$Node", name := "clear", desc := "()V" } : Jvm.MethodName)) ∈ lw_all := qm 394 (by decide +kernel) (by decide +kernel)
theorem q395 : (Jvm.Cond.instanceMethod ({ cls := "ArrayText$Node", name := "clear", desc := "()V" } : Jvm.MethodName)) ∈ lw_all := qm 395 (by decide +kernel) (by decide +kernel)
theorem q396 : (Jvm.Cond.selects "ArrayText$Node" ({ cls := "ArrayText$Node", name := "clear", desc := "()V" } : Jvm.MethodName) ({ cls := "ArrayText$Node", name := "clear", desc := "()V" } : Jvm.MethodName)) ∈ lw_all := qm 396 (by decide +kernel) (by decide +kernel)
theorem q397 : (Jvm.Cond.code ({ cls := "ArrayText$Node", name := "clear", desc := "()V" } : Jvm.MethodName) prog_2_method_2_code (1 : Nat) (Option.none : Option Jvm.ClassFile.FieldType)) ∈ lw_all := qm 397 (by decide +kernel) (by decide +kernel)
theorem q398 : (Jvm.Cond.methodLink "ArrayText$Parser" (42 : Nat) ({ cls := "ArrayText$Parser", name := "readFront", desc := "(LArrayText$Text;LArrayText$Node;)Z" } : Jvm.MethodName)) ∈ lw_all := qm 398 (by decide +kernel) (by decide +kernel)
theorem q399 : (Jvm.Cond.static ({ cls := "ArrayText$Parser", name := "readFront", desc := "(LArrayText$Text;LArrayText$Node;)Z" } : Jvm.MethodName)) ∈ lw_all := qm 399 (by decide +kernel) (by decide +kernel)
theorem q400 : (Jvm.Cond.code ({ cls := "ArrayText$Parser", name := "readFront", desc := "(LArrayText$Text;LArrayText$Node;)Z" } : Jvm.MethodName) prog_4_method_8_code (2 : Nat) (Option.some Jvm.ClassFile.FieldType.boolean)) ∈ lw_all := qm 400 (by decide +kernel) (by decide +kernel)
theorem q401 : (Jvm.Cond.methodLink "ArrayText$Parser" (25 : Nat) ({ cls := "ArrayText$Text", name := "next", desc := "()C" } : Jvm.MethodName)) ∈ lw_all := qm 401 (by decide +kernel) (by decide +kernel)
theorem q402 : (Jvm.Cond.instanceMethod ({ cls := "ArrayText$Text", name := "next", desc := "()C" } : Jvm.MethodName)) ∈ lw_all := qm 402 (by decide +kernel) (by decide +kernel)
theorem q403 : (Jvm.Cond.selects "ArrayText$Text" ({ cls := "ArrayText$Text", name := "next", desc := "()C" } : Jvm.MethodName) ({ cls := "ArrayText$Text", name := "next", desc := "()C" } : Jvm.MethodName)) ∈ lw_all := qm 403 (by decide +kernel) (by decide +kernel)
theorem q404 : (Jvm.Cond.code ({ cls := "ArrayText$Text", name := "next", desc := "()C" } : Jvm.MethodName) prog_7_method_5_code (1 : Nat) (Option.some Jvm.ClassFile.FieldType.char)) ∈ lw_all := qm 404 (by decide +kernel) (by decide +kernel)
theorem q405 : (Jvm.Cond.methodLink "ArrayText$Parser" (107 : Nat) ({ cls := "ArrayText$Parser", name := "kindOfFront", desc := "(C)I" } : Jvm.MethodName)) ∈ lw_all := qm 405 (by decide +kernel) (by decide +kernel)
theorem q406 : (Jvm.Cond.static ({ cls := "ArrayText$Parser", name := "kindOfFront", desc := "(C)I" } : Jvm.MethodName)) ∈ lw_all := qm 406 (by decide +kernel) (by decide +kernel)
theorem q407 : (Jvm.Cond.code ({ cls := "ArrayText$Parser", name := "kindOfFront", desc := "(C)I" } : Jvm.MethodName) prog_4_method_9_code (1 : Nat) (Option.some Jvm.ClassFile.FieldType.int)) ∈ lw_all := qm 407 (by decide +kernel) (by decide +kernel)
theorem q408 : (Jvm.Cond.methodLink "ArrayText$Parser" (78 : Nat) ({ cls := "ArrayText$Text", name := "pass", desc := "()V" } : Jvm.MethodName)) ∈ lw_all := qm 408 (by decide +kernel) (by decide +kernel)
theorem q409 : (Jvm.Cond.instanceMethod ({ cls := "ArrayText$Text", name := "pass", desc := "()V" } : Jvm.MethodName)) ∈ lw_all := qm 409 (by decide +kernel) (by decide +kernel)
theorem q410 : (Jvm.Cond.selects "ArrayText$Text" ({ cls := "ArrayText$Text", name := "pass", desc := "()V" } : Jvm.MethodName) ({ cls := "ArrayText$Text", name := "pass", desc := "()V" } : Jvm.MethodName)) ∈ lw_all := qm 410 (by decide +kernel) (by decide +kernel)
theorem q411 : (Jvm.Cond.code ({ cls := "ArrayText$Text", name := "pass", desc := "()V" } : Jvm.MethodName) prog_7_method_6_code (1 : Nat) (Option.none : Option Jvm.ClassFile.FieldType)) ∈ lw_all := qm 411 (by decide +kernel) (by decide +kernel)
theorem q412 : (Jvm.Cond.methodLink "ArrayText$Parser" (111 : Nat) ({ cls := "ArrayText$Parser", name := "readFoldingSign", desc := "(LArrayText$Text;)C" } : Jvm.MethodName)) ∈ lw_all := qm 412 (by decide +kernel) (by decide +kernel)
theorem q413 : (Jvm.Cond.static ({ cls := "ArrayText$Parser", name := "readFoldingSign", desc := "(LArrayText$Text;)C" } : Jvm.MethodName)) ∈ lw_all := qm 413 (by decide +kernel) (by decide +kernel)
theorem q414 : (Jvm.Cond.code ({ cls := "ArrayText$Parser", name := "readFoldingSign", desc := "(LArrayText$Text;)C" } : Jvm.MethodName) prog_4_method_10_code (2 : Nat) (Option.some Jvm.ClassFile.FieldType.char)) ∈ lw_all := qm 414 (by decide +kernel) (by decide +kernel)
theorem q416 : (Jvm.Cond.methodLink "ArrayText$Parser" (46 : Nat) ({ cls := "ArrayText$Parser", name := "readPart", desc := "(LArrayText$Text;LArrayText$Tree;I)LArrayText$Node;" } : Jvm.MethodName)) ∈ lw_all := qm 416 (by decide +kernel) (by decide +kernel)
theorem q417 : (Jvm.Cond.static ({ cls := "ArrayText$Parser", name := "readPart", desc := "(LArrayText$Text;LArrayText$Tree;I)LArrayText$Node;" } : Jvm.MethodName)) ∈ lw_all := qm 417 (by decide +kernel) (by decide +kernel)
theorem q418 : (Jvm.Cond.code ({ cls := "ArrayText$Parser", name := "readPart", desc := "(LArrayText$Text;LArrayText$Tree;I)LArrayText$Node;" } : Jvm.MethodName) prog_4_method_4_code (4 : Nat) (Option.some (Jvm.ClassFile.FieldType.object "ArrayText$Node"))) ∈ lw_all := qm 418 (by decide +kernel) (by decide +kernel)
theorem q419 : (Jvm.Cond.methodLink "ArrayText$Parser" (61 : Nat) ({ cls := "ArrayText$Text", name := "passIfNext", desc := "(C)Z" } : Jvm.MethodName)) ∈ lw_all := qm 419 (by decide +kernel) (by decide +kernel)
theorem q420 : (Jvm.Cond.instanceMethod ({ cls := "ArrayText$Text", name := "passIfNext", desc := "(C)Z" } : Jvm.MethodName)) ∈ lw_all := qm 420 (by decide +kernel) (by decide +kernel)
theorem q421 : (Jvm.Cond.selects "ArrayText$Text" ({ cls := "ArrayText$Text", name := "passIfNext", desc := "(C)Z" } : Jvm.MethodName) ({ cls := "ArrayText$Text", name := "passIfNext", desc := "(C)Z" } : Jvm.MethodName)) ∈ lw_all := qm 421 (by decide +kernel) (by decide +kernel)
theorem q422 : (Jvm.Cond.code ({ cls := "ArrayText$Text", name := "passIfNext", desc := "(C)Z" } : Jvm.MethodName) prog_7_method_7_code (2 : Nat) (Option.some Jvm.ClassFile.FieldType.boolean)) ∈ lw_all := qm 422 (by decide +kernel) (by decide +kernel)
theorem q423 : (Jvm.Cond.methodLink "ArrayText$Text" (30 : Nat) ({ cls := "ArrayText$Text", name := "next", desc := "()C" } : Jvm.MethodName)) ∈ lw_all := qm 423 (by decide +kernel) (by decide +kernel)
theorem q424 : (Jvm.Cond.methodLink "ArrayText$Text" (34 : Nat) ({ cls := "ArrayText$Text", name := "pass", desc := "()V" } : Jvm.MethodName)) ∈ lw_all := qm 424 (by decide +kernel) (by decide +kernel)
theorem q427 : (Jvm.Cond.methodLink "ArrayText$Parser" (81 : Nat) ({ cls := "ArrayText$Parser", name := "readNumber", desc := "(LArrayText$Text;)I" } : Jvm.MethodName)) ∈ lw_all := qm 427 (by decide +kernel) (by decide +kernel)
theorem q428 : (Jvm.Cond.static ({ cls := "ArrayText$Parser", name := "readNumber", desc := "(LArrayText$Text;)I" } : Jvm.MethodName)) ∈ lw_all := qm 428 (by decide +kernel) (by decide +kernel)
theorem q429 : (Jvm.Cond.code ({ cls := "ArrayText$Parser", name := "readNumber", desc := "(LArrayText$Text;)I" } : Jvm.MethodName) prog_4_method_6_code (3 : Nat) (Option.some Jvm.ClassFile.FieldType.int)) ∈ lw_all := qm 429 (by decide +kernel) (by decide +kernel)
theorem q430 : (Jvm.Cond.methodLink "ArrayText$Parser" (102 : Nat) ({ cls := "ArrayText$Parser", name := "isDigit", desc := "(C)Z" } : Jvm.MethodName)) ∈ lw_all := qm 430 (by decide +kernel) (by decide +kernel)
theorem q431 : (Jvm.Cond.static ({ cls := "ArrayText$Parser", name := "isDigit", desc := "(C)Z" } : Jvm.MethodName)) ∈ lw_all := qm 431 (by decide +kernel) (by decide +kernel)
theorem q432 : (Jvm.Cond.code ({ cls := "ArrayText$Parser", name := "isDigit", desc := "(C)Z" } : Jvm.MethodName) prog_4_method_7_code (1 : Nat) (Option.some Jvm.ClassFile.FieldType.boolean)) ∈ lw_all := qm 432 (by decide +kernel) (by decide +kernel)
theorem q434 : (Jvm.Cond.methodLink "ArrayText$Parser" (89 : Nat) ({ cls := "ArrayText$Parser", name := "readConstant", desc := "(LArrayText$Text;LArrayText$NumberArray;)V" } : Jvm.MethodName)) ∈ lw_all := qm 434 (by decide +kernel) (by decide +kernel)
theorem q435 : (Jvm.Cond.static ({ cls := "ArrayText$Parser", name := "readConstant", desc := "(LArrayText$Text;LArrayText$NumberArray;)V" } : Jvm.MethodName)) ∈ lw_all := qm 435 (by decide +kernel) (by decide +kernel)
theorem q436 : (Jvm.Cond.code ({ cls := "ArrayText$Parser", name := "readConstant", desc := "(LArrayText$Text;LArrayText$NumberArray;)V" } : Jvm.MethodName) prog_4_method_5_code (3 : Nat) (Option.none : Option Jvm.ClassFile.FieldType)) ∈ lw_all := qm 436 (by decide +kernel) (by decide +kernel)
theorem q437 : (Jvm.Cond.methodLink "ArrayText$Parser" (49 : Nat) ({ cls := "ArrayText$Parser", name := "readSign", desc := "(LArrayText$Text;LArrayText$Node;)Z" } : Jvm.MethodName)) ∈ lw_all := qm 437 (by decide +kernel) (by decide +kernel)
theorem q438 : (Jvm.Cond.static ({ cls := "ArrayText$Parser", name := "readSign", desc := "(LArrayText$Text;LArrayText$Node;)Z" } : Jvm.MethodName)) ∈ lw_all := qm 438 (by decide +kernel) (by decide +kernel)
theorem q439 : (Jvm.Cond.code ({ cls := "ArrayText$Parser", name := "readSign", desc := "(LArrayText$Text;LArrayText$Node;)Z" } : Jvm.MethodName) prog_4_method_11_code (2 : Nat) (Option.some Jvm.ClassFile.FieldType.boolean)) ∈ lw_all := qm 439 (by decide +kernel) (by decide +kernel)
theorem q440 : (Jvm.Cond.methodLink "ArrayText$Parser" (121 : Nat) ({ cls := "ArrayText$Parser", name := "kindOfSign", desc := "(C)I" } : Jvm.MethodName)) ∈ lw_all := qm 440 (by decide +kernel) (by decide +kernel)
theorem q441 : (Jvm.Cond.static ({ cls := "ArrayText$Parser", name := "kindOfSign", desc := "(C)I" } : Jvm.MethodName)) ∈ lw_all := qm 441 (by decide +kernel) (by decide +kernel)
theorem q442 : (Jvm.Cond.code ({ cls := "ArrayText$Parser", name := "kindOfSign", desc := "(C)I" } : Jvm.MethodName) prog_4_method_12_code (1 : Nat) (Option.some Jvm.ClassFile.FieldType.int)) ∈ lw_all := qm 442 (by decide +kernel) (by decide +kernel)
theorem q444 : (Jvm.Cond.methodLink "ArrayText" (82 : Nat) ({ cls := "ArrayText$ShapeFinder", name := "findAll", desc := "(LArrayText$Tree;[LArrayText$NumberArray;)V" } : Jvm.MethodName)) ∈ lw_all := qm 444 (by decide +kernel) (by decide +kernel)
theorem q445 : (Jvm.Cond.static ({ cls := "ArrayText$ShapeFinder", name := "findAll", desc := "(LArrayText$Tree;[LArrayText$NumberArray;)V" } : Jvm.MethodName)) ∈ lw_all := qm 445 (by decide +kernel) (by decide +kernel)
theorem q446 : (Jvm.Cond.code ({ cls := "ArrayText$ShapeFinder", name := "findAll", desc := "(LArrayText$Tree;[LArrayText$NumberArray;)V" } : Jvm.MethodName) prog_5_method_2_code (4 : Nat) (Option.none : Option Jvm.ClassFile.FieldType)) ∈ lw_all := qm 446 (by decide +kernel) (by decide +kernel)
theorem q447 : (Jvm.Cond.methodLink "ArrayText$ShapeFinder" (25 : Nat) ({ cls := "ArrayText$ShapeFinder", name := "shapeFound", desc := "(LArrayText$Node;[LArrayText$NumberArray;)I" } : Jvm.MethodName)) ∈ lw_all := qm 447 (by decide +kernel) (by decide +kernel)
theorem q448 : (Jvm.Cond.static ({ cls := "ArrayText$ShapeFinder", name := "shapeFound", desc := "(LArrayText$Node;[LArrayText$NumberArray;)I" } : Jvm.MethodName)) ∈ lw_all := qm 448 (by decide +kernel) (by decide +kernel)
theorem q449 : (Jvm.Cond.code ({ cls := "ArrayText$ShapeFinder", name := "shapeFound", desc := "(LArrayText$Node;[LArrayText$NumberArray;)I" } : Jvm.MethodName) prog_5_method_3_code (2 : Nat) (Option.some Jvm.ClassFile.FieldType.int)) ∈ lw_all := qm 449 (by decide +kernel) (by decide +kernel)
theorem q450 : (Jvm.Cond.methodLink "ArrayText$ShapeFinder" (42 : Nat) ({ cls := "ArrayText$ShapeFinder", name := "shapeOfCount", desc := "(I)I" } : Jvm.MethodName)) ∈ lw_all := qm 450 (by decide +kernel) (by decide +kernel)
theorem q451 : (Jvm.Cond.static ({ cls := "ArrayText$ShapeFinder", name := "shapeOfCount", desc := "(I)I" } : Jvm.MethodName)) ∈ lw_all := qm 451 (by decide +kernel) (by decide +kernel)
theorem q452 : (Jvm.Cond.code ({ cls := "ArrayText$ShapeFinder", name := "shapeOfCount", desc := "(I)I" } : Jvm.MethodName) prog_5_method_4_code (1 : Nat) (Option.some Jvm.ClassFile.FieldType.int)) ∈ lw_all := qm 452 (by decide +kernel) (by decide +kernel)
theorem q453 : (Jvm.Cond.methodLink "ArrayText$ShapeFinder" (73 : Nat) ({ cls := "ArrayText$Shapes", name := "fits", desc := "(II)Z" } : Jvm.MethodName)) ∈ lw_all := qm 453 (by decide +kernel) (by decide +kernel)
theorem q454 : (Jvm.Cond.classLink "ArrayText$ShapeFinder" (79 : Nat) "java/lang/UnsupportedOperationException") ∈ lw_all := qm 454 (by decide +kernel) (by decide +kernel)
theorem q455 : (Jvm.Cond.instantiable "java/lang/UnsupportedOperationException" (6 : Nat)) ∈ lw_all := qm 455 (by decide +kernel) (by decide +kernel)
theorem q457 : (Jvm.Cond.selects "java/lang/UnsupportedOperationException" ({ cls := "java/lang/Throwable", name := "fillInStackTrace", desc := "(I)Ljava/lang/Throwable;" } : Jvm.MethodName) ({ cls := "java/lang/Throwable", name := "fillInStackTrace", desc := "(I)Ljava/lang/Throwable;" } : Jvm.MethodName)) ∈ lw_all := qm 457 (by decide +kernel) (by decide +kernel)
theorem q458 : (Jvm.Cond.lays "java/lang/UnsupportedOperationException" "java/lang/Throwable" "cause" "Ljava/lang/Throwable;") ∈ lw_all := qm 458 (by decide +kernel) (by decide +kernel)
theorem q459 : (Jvm.Cond.lays "java/lang/UnsupportedOperationException" "java/lang/Throwable" "stackTrace" "[Ljava/lang/StackTraceElement;") ∈ lw_all := qm 459 (by decide +kernel) (by decide +kernel)
theorem q460 : (Jvm.Cond.lays "java/lang/UnsupportedOperationException" "java/lang/Throwable" "suppressedExceptions" "Ljava/util/List;") ∈ lw_all := qm 460 (by decide +kernel) (by decide +kernel)
theorem q461 : (Jvm.Cond.lays "java/lang/UnsupportedOperationException" "java/lang/Throwable" "detailMessage" "Ljava/lang/String;") ∈ lw_all := qm 461 (by decide +kernel) (by decide +kernel)
theorem q462 : (Jvm.Cond.lays "java/lang/UnsupportedOperationException" "java/lang/Throwable" "backtrace" "Ljava/lang/Object;") ∈ lw_all := qm 462 (by decide +kernel) (by decide +kernel)
theorem q464 : (Jvm.Cond.methodLink "ArrayText$ShapeFinder" (83 : Nat) ({ cls := "java/lang/UnsupportedOperationException", name := "<init>", desc := "(Ljava/lang/String;)V" } : Jvm.MethodName)) ∈ lw_all := qm 464 (by decide +kernel) (by decide +kernel)
theorem q465 : (Jvm.Cond.instanceMethod ({ cls := "java/lang/UnsupportedOperationException", name := "<init>", desc := "(Ljava/lang/String;)V" } : Jvm.MethodName)) ∈ lw_all := qm 465 (by decide +kernel) (by decide +kernel)
theorem q466 : (Jvm.Cond.code ({ cls := "java/lang/UnsupportedOperationException", name := "<init>", desc := "(Ljava/lang/String;)V" } : Jvm.MethodName) prog_21_method_2_code (2 : Nat) (Option.none : Option Jvm.ClassFile.FieldType)) ∈ lw_all := qm 466 (by decide +kernel) (by decide +kernel)
theorem q467 : (Jvm.Cond.methodLink "java/lang/UnsupportedOperationException" (7 : Nat) ({ cls := "java/lang/RuntimeException", name := "<init>", desc := "(Ljava/lang/String;)V" } : Jvm.MethodName)) ∈ lw_all := qm 467 (by decide +kernel) (by decide +kernel)
theorem q468 : (Jvm.Cond.lays "java/lang/UnsupportedOperationException" "java/lang/Throwable" "depth" "I") ∈ lw_all := qm 468 (by decide +kernel) (by decide +kernel)
theorem q470 : (Jvm.Cond.methodLink "ArrayText$ShapeFinder" (50 : Nat) ({ cls := "ArrayText$ShapeFinder", name := "shapeTurned", desc := "(I)I" } : Jvm.MethodName)) ∈ lw_all := qm 470 (by decide +kernel) (by decide +kernel)
theorem q471 : (Jvm.Cond.static ({ cls := "ArrayText$ShapeFinder", name := "shapeTurned", desc := "(I)I" } : Jvm.MethodName)) ∈ lw_all := qm 471 (by decide +kernel) (by decide +kernel)
theorem q472 : (Jvm.Cond.code ({ cls := "ArrayText$ShapeFinder", name := "shapeTurned", desc := "(I)I" } : Jvm.MethodName) prog_5_method_5_code (1 : Nat) (Option.some Jvm.ClassFile.FieldType.int)) ∈ lw_all := qm 472 (by decide +kernel) (by decide +kernel)
theorem q473 : (Jvm.Cond.methodLink "ArrayText$ShapeFinder" (86 : Nat) ({ cls := "ArrayText$Shapes", name := "isTable", desc := "(I)Z" } : Jvm.MethodName)) ∈ lw_all := qm 473 (by decide +kernel) (by decide +kernel)
theorem q474 : (Jvm.Cond.static ({ cls := "ArrayText$Shapes", name := "isTable", desc := "(I)Z" } : Jvm.MethodName)) ∈ lw_all := qm 474 (by decide +kernel) (by decide +kernel)
theorem q475 : (Jvm.Cond.code ({ cls := "ArrayText$Shapes", name := "isTable", desc := "(I)Z" } : Jvm.MethodName) prog_6_method_5_code (1 : Nat) (Option.some Jvm.ClassFile.FieldType.boolean)) ∈ lw_all := qm 475 (by decide +kernel) (by decide +kernel)
theorem q476 : (Jvm.Cond.methodLink "ArrayText$ShapeFinder" (90 : Nat) ({ cls := "ArrayText$Shapes", name := "length", desc := "(I)I" } : Jvm.MethodName)) ∈ lw_all := qm 476 (by decide +kernel) (by decide +kernel)
theorem q477 : (Jvm.Cond.methodLink "ArrayText$ShapeFinder" (93 : Nat) ({ cls := "ArrayText$Shapes", name := "lines", desc := "(I)I" } : Jvm.MethodName)) ∈ lw_all := qm 477 (by decide +kernel) (by decide +kernel)
theorem q478 : (Jvm.Cond.methodLink "ArrayText$ShapeFinder" (96 : Nat) ({ cls := "ArrayText$Shapes", name := "tableOf", desc := "(II)I" } : Jvm.MethodName)) ∈ lw_all := qm 478 (by decide +kernel) (by decide +kernel)
theorem q479 : (Jvm.Cond.methodLink "ArrayText$ShapeFinder" (53 : Nat) ({ cls := "ArrayText$ShapeFinder", name := "shapeReduced", desc := "(I)I" } : Jvm.MethodName)) ∈ lw_all := qm 479 (by decide +kernel) (by decide +kernel)
theorem q480 : (Jvm.Cond.static ({ cls := "ArrayText$ShapeFinder", name := "shapeReduced", desc := "(I)I" } : Jvm.MethodName)) ∈ lw_all := qm 480 (by decide +kernel) (by decide +kernel)
theorem q481 : (Jvm.Cond.code ({ cls := "ArrayText$ShapeFinder", name := "shapeReduced", desc := "(I)I" } : Jvm.MethodName) prog_5_method_6_code (1 : Nat) (Option.some Jvm.ClassFile.FieldType.int)) ∈ lw_all := qm 481 (by decide +kernel) (by decide +kernel)
theorem q482 : (Jvm.Cond.methodLink "ArrayText$ShapeFinder" (59 : Nat) ({ cls := "ArrayText$ShapeFinder", name := "shapeOfEach", desc := "(II)I" } : Jvm.MethodName)) ∈ lw_all := qm 482 (by decide +kernel) (by decide +kernel)
theorem q483 : (Jvm.Cond.static ({ cls := "ArrayText$ShapeFinder", name := "shapeOfEach", desc := "(II)I" } : Jvm.MethodName)) ∈ lw_all := qm 483 (by decide +kernel) (by decide +kernel)
theorem q484 : (Jvm.Cond.code ({ cls := "ArrayText$ShapeFinder", name := "shapeOfEach", desc := "(II)I" } : Jvm.MethodName) prog_5_method_7_code (2 : Nat) (Option.some Jvm.ClassFile.FieldType.int)) ∈ lw_all := qm 484 (by decide +kernel) (by decide +kernel)
theorem q485 : (Jvm.Cond.classLink "ArrayText$ShapeFinder" (99 : Nat) "java/lang/IllegalStateException") ∈ lw_all := qm 485 (by decide +kernel) (by decide +kernel)
theorem q486 : (Jvm.Cond.instantiable "java/lang/IllegalStateException" (6 : Nat)) ∈ lw_all := qm 486 (by decide +kernel) (by decide +kernel)
theorem q488 : (Jvm.Cond.selects "java/lang/IllegalStateException" ({ cls := "java/lang/Throwable", name := "fillInStackTrace", desc := "(I)Ljava/lang/Throwable;" } : Jvm.MethodName) ({ cls := "java/lang/Throwable", name := "fillInStackTrace", desc := "(I)Ljava/lang/Throwable;" } : Jvm.MethodName)) ∈ lw_all := qm 488 (by decide +kernel) (by decide +kernel)
theorem q489 : (Jvm.Cond.lays "java/lang/IllegalStateException" "java/lang/Throwable" "cause" "Ljava/lang/Throwable;") ∈ lw_all := qm 489 (by decide +kernel) (by decide +kernel)
theorem q490 : (Jvm.Cond.lays "java/lang/IllegalStateException" "java/lang/Throwable" "stackTrace" "[Ljava/lang/StackTraceElement;") ∈ lw_all := qm 490 (by decide +kernel) (by decide +kernel)
theorem q491 : (Jvm.Cond.lays "java/lang/IllegalStateException" "java/lang/Throwable" "suppressedExceptions" "Ljava/util/List;") ∈ lw_all := qm 491 (by decide +kernel) (by decide +kernel)
theorem q492 : (Jvm.Cond.lays "java/lang/IllegalStateException" "java/lang/Throwable" "detailMessage" "Ljava/lang/String;") ∈ lw_all := qm 492 (by decide +kernel) (by decide +kernel)
theorem q493 : (Jvm.Cond.lays "java/lang/IllegalStateException" "java/lang/Throwable" "backtrace" "Ljava/lang/Object;") ∈ lw_all := qm 493 (by decide +kernel) (by decide +kernel)
theorem q495 : (Jvm.Cond.methodLink "ArrayText$ShapeFinder" (103 : Nat) ({ cls := "java/lang/IllegalStateException", name := "<init>", desc := "(Ljava/lang/String;)V" } : Jvm.MethodName)) ∈ lw_all := qm 495 (by decide +kernel) (by decide +kernel)
theorem q496 : (Jvm.Cond.instanceMethod ({ cls := "java/lang/IllegalStateException", name := "<init>", desc := "(Ljava/lang/String;)V" } : Jvm.MethodName)) ∈ lw_all := qm 496 (by decide +kernel) (by decide +kernel)
theorem q497 : (Jvm.Cond.code ({ cls := "java/lang/IllegalStateException", name := "<init>", desc := "(Ljava/lang/String;)V" } : Jvm.MethodName) prog_16_method_2_code (2 : Nat) (Option.none : Option Jvm.ClassFile.FieldType)) ∈ lw_all := qm 497 (by decide +kernel) (by decide +kernel)
theorem q498 : (Jvm.Cond.methodLink "java/lang/IllegalStateException" (7 : Nat) ({ cls := "java/lang/RuntimeException", name := "<init>", desc := "(Ljava/lang/String;)V" } : Jvm.MethodName)) ∈ lw_all := qm 498 (by decide +kernel) (by decide +kernel)
theorem q499 : (Jvm.Cond.lays "java/lang/IllegalStateException" "java/lang/Throwable" "depth" "I") ∈ lw_all := qm 499 (by decide +kernel) (by decide +kernel)
theorem q501 : (Jvm.Cond.methodLink "ArrayText$ShapeFinder" (63 : Nat) ({ cls := "ArrayText$ShapeFinder", name := "shapeJoined", desc := "(II)I" } : Jvm.MethodName)) ∈ lw_all := qm 501 (by decide +kernel) (by decide +kernel)
theorem q502 : (Jvm.Cond.static ({ cls := "ArrayText$ShapeFinder", name := "shapeJoined", desc := "(II)I" } : Jvm.MethodName)) ∈ lw_all := qm 502 (by decide +kernel) (by decide +kernel)
theorem q503 : (Jvm.Cond.code ({ cls := "ArrayText$ShapeFinder", name := "shapeJoined", desc := "(II)I" } : Jvm.MethodName) prog_5_method_8_code (3 : Nat) (Option.some Jvm.ClassFile.FieldType.int)) ∈ lw_all := qm 503 (by decide +kernel) (by decide +kernel)
theorem q505 : (Jvm.Cond.methodLink "ArrayText$ShapeFinder" (106 : Nat) ({ cls := "ArrayText$Shapes", name := "elements", desc := "(I)I" } : Jvm.MethodName)) ∈ lw_all := qm 505 (by decide +kernel) (by decide +kernel)
theorem q507 : (Jvm.Cond.methodLink "ArrayText$ShapeFinder" (66 : Nat) ({ cls := "ArrayText$NumberArray", name := "count", desc := "()I" } : Jvm.MethodName)) ∈ lw_all := qm 507 (by decide +kernel) (by decide +kernel)
theorem q508 : (Jvm.Cond.methodLink "ArrayText$ShapeFinder" (69 : Nat) ({ cls := "ArrayText$ShapeFinder", name := "shapeAnew", desc := "(LArrayText$Node;I)I" } : Jvm.MethodName)) ∈ lw_all := qm 508 (by decide +kernel) (by decide +kernel)
theorem q509 : (Jvm.Cond.static ({ cls := "ArrayText$ShapeFinder", name := "shapeAnew", desc := "(LArrayText$Node;I)I" } : Jvm.MethodName)) ∈ lw_all := qm 509 (by decide +kernel) (by decide +kernel)
theorem q510 : (Jvm.Cond.code ({ cls := "ArrayText$ShapeFinder", name := "shapeAnew", desc := "(LArrayText$Node;I)I" } : Jvm.MethodName) prog_5_method_9_code (5 : Nat) (Option.some Jvm.ClassFile.FieldType.int)) ∈ lw_all := qm 510 (by decide +kernel) (by decide +kernel)
theorem q514 : (Jvm.Cond.methodLink "ArrayText" (88 : Nat) ({ cls := "ArrayText$Worker", name := "workOutAll", desc := "(LArrayText$Tree;[LArrayText$NumberArray;)V" } : Jvm.MethodName)) ∈ lw_all := qm 514 (by decide +kernel) (by decide +kernel)
theorem q515 : (Jvm.Cond.static ({ cls := "ArrayText$Worker", name := "workOutAll", desc := "(LArrayText$Tree;[LArrayText$NumberArray;)V" } : Jvm.MethodName)) ∈ lw_all := qm 515 (by decide +kernel) (by decide +kernel)
theorem q516 : (Jvm.Cond.code ({ cls := "ArrayText$Worker", name := "workOutAll", desc := "(LArrayText$Tree;[LArrayText$NumberArray;)V" } : Jvm.MethodName) prog_9_method_2_code (3 : Nat) (Option.none : Option Jvm.ClassFile.FieldType)) ∈ lw_all := qm 516 (by decide +kernel) (by decide +kernel)
theorem q517 : (Jvm.Cond.methodLink "ArrayText$Worker" (19 : Nat) ({ cls := "ArrayText$Worker", name := "workOut", desc := "(LArrayText$Node;[LArrayText$NumberArray;)V" } : Jvm.MethodName)) ∈ lw_all := qm 517 (by decide +kernel) (by decide +kernel)
theorem q518 : (Jvm.Cond.static ({ cls := "ArrayText$Worker", name := "workOut", desc := "(LArrayText$Node;[LArrayText$NumberArray;)V" } : Jvm.MethodName)) ∈ lw_all := qm 518 (by decide +kernel) (by decide +kernel)
theorem q519 : (Jvm.Cond.code ({ cls := "ArrayText$Worker", name := "workOut", desc := "(LArrayText$Node;[LArrayText$NumberArray;)V" } : Jvm.MethodName) prog_9_method_3_code (2 : Nat) (Option.none : Option Jvm.ClassFile.FieldType)) ∈ lw_all := qm 519 (by decide +kernel) (by decide +kernel)
theorem q520 : (Jvm.Cond.methodLink "ArrayText$Worker" (37 : Nat) ({ cls := "ArrayText$NumberArray", name := "becomeCopy", desc := "(LArrayText$NumberArray;)V" } : Jvm.MethodName)) ∈ lw_all := qm 520 (by decide +kernel) (by decide +kernel)
theorem q521 : (Jvm.Cond.instanceMethod ({ cls := "ArrayText$NumberArray", name := "becomeCopy", desc := "(LArrayText$NumberArray;)V" } : Jvm.MethodName)) ∈ lw_all := qm 521 (by decide +kernel) (by decide +kernel)
theorem q522 : (Jvm.Cond.selects "ArrayText$NumberArray" ({ cls := "ArrayText$NumberArray", name := "becomeCopy", desc := "(LArrayText$NumberArray;)V" } : Jvm.MethodName) ({ cls := "ArrayText$NumberArray", name := "becomeCopy", desc := "(LArrayText$NumberArray;)V" } : Jvm.MethodName)) ∈ lw_all := qm 522 (by decide +kernel) (by decide +kernel)
theorem q523 : (Jvm.Cond.code ({ cls := "ArrayText$NumberArray", name := "becomeCopy", desc := "(LArrayText$NumberArray;)V" } : Jvm.MethodName) prog_3_method_5_code (3 : Nat) (Option.none : Option Jvm.ClassFile.FieldType)) ∈ lw_all := qm 523 (by decide +kernel) (by decide +kernel)
theorem q524 : (Jvm.Cond.methodLink "ArrayText$Worker" (43 : Nat) ({ cls := "ArrayText$Worker", name := "countUp", desc := "(LArrayText$NumberArray;)V" } : Jvm.MethodName)) ∈ lw_all := qm 524 (by decide +kernel) (by decide +kernel)
theorem q525 : (Jvm.Cond.static ({ cls := "ArrayText$Worker", name := "countUp", desc := "(LArrayText$NumberArray;)V" } : Jvm.MethodName)) ∈ lw_all := qm 525 (by decide +kernel) (by decide +kernel)
theorem q526 : (Jvm.Cond.code ({ cls := "ArrayText$Worker", name := "countUp", desc := "(LArrayText$NumberArray;)V" } : Jvm.MethodName) prog_9_method_4_code (3 : Nat) (Option.none : Option Jvm.ClassFile.FieldType)) ∈ lw_all := qm 526 (by decide +kernel) (by decide +kernel)
theorem q527 : (Jvm.Cond.methodLink "ArrayText$Worker" (82 : Nat) ({ cls := "ArrayText$NumberArray", name := "count", desc := "()I" } : Jvm.MethodName)) ∈ lw_all := qm 527 (by decide +kernel) (by decide +kernel)
theorem q528 : (Jvm.Cond.methodLink "ArrayText$Worker" (50 : Nat) ({ cls := "ArrayText$Worker", name := "negate", desc := "(LArrayText$NumberArray;LArrayText$NumberArray;)V" } : Jvm.MethodName)) ∈ lw_all := qm 528 (by decide +kernel) (by decide +kernel)
theorem q529 : (Jvm.Cond.static ({ cls := "ArrayText$Worker", name := "negate", desc := "(LArrayText$NumberArray;LArrayText$NumberArray;)V" } : Jvm.MethodName)) ∈ lw_all := qm 529 (by decide +kernel) (by decide +kernel)
theorem q530 : (Jvm.Cond.code ({ cls := "ArrayText$Worker", name := "negate", desc := "(LArrayText$NumberArray;LArrayText$NumberArray;)V" } : Jvm.MethodName) prog_9_method_5_code (4 : Nat) (Option.none : Option Jvm.ClassFile.FieldType)) ∈ lw_all := qm 530 (by decide +kernel) (by decide +kernel)
theorem q531 : (Jvm.Cond.methodLink "ArrayText$Worker" (54 : Nat) ({ cls := "ArrayText$Worker", name := "turn", desc := "(LArrayText$NumberArray;LArrayText$NumberArray;)V" } : Jvm.MethodName)) ∈ lw_all := qm 531 (by decide +kernel) (by decide +kernel)
theorem q532 : (Jvm.Cond.static ({ cls := "ArrayText$Worker", name := "turn", desc := "(LArrayText$NumberArray;LArrayText$NumberArray;)V" } : Jvm.MethodName)) ∈ lw_all := qm 532 (by decide +kernel) (by decide +kernel)
theorem q533 : (Jvm.Cond.code ({ cls := "ArrayText$Worker", name := "turn", desc := "(LArrayText$NumberArray;LArrayText$NumberArray;)V" } : Jvm.MethodName) prog_9_method_6_code (6 : Nat) (Option.none : Option Jvm.ClassFile.FieldType)) ∈ lw_all := qm 533 (by decide +kernel) (by decide +kernel)
theorem q534 : (Jvm.Cond.methodLink "ArrayText$Worker" (92 : Nat) ({ cls := "ArrayText$Shapes", name := "isTable", desc := "(I)Z" } : Jvm.MethodName)) ∈ lw_all := qm 534 (by decide +kernel) (by decide +kernel)
theorem q535 : (Jvm.Cond.methodLink "ArrayText$Worker" (98 : Nat) ({ cls := "ArrayText$Shapes", name := "lines", desc := "(I)I" } : Jvm.MethodName)) ∈ lw_all := qm 535 (by decide +kernel) (by decide +kernel)
theorem q536 : (Jvm.Cond.methodLink "ArrayText$Worker" (102 : Nat) ({ cls := "ArrayText$Shapes", name := "length", desc := "(I)I" } : Jvm.MethodName)) ∈ lw_all := qm 536 (by decide +kernel) (by decide +kernel)
theorem q537 : (Jvm.Cond.methodLink "ArrayText$Worker" (61 : Nat) ({ cls := "ArrayText$Worker", name := "reduce", desc := "(CLArrayText$NumberArray;LArrayText$NumberArray;)V" } : Jvm.MethodName)) ∈ lw_all := qm 537 (by decide +kernel) (by decide +kernel)
theorem q538 : (Jvm.Cond.static ({ cls := "ArrayText$Worker", name := "reduce", desc := "(CLArrayText$NumberArray;LArrayText$NumberArray;)V" } : Jvm.MethodName)) ∈ lw_all := qm 538 (by decide +kernel) (by decide +kernel)
theorem q539 : (Jvm.Cond.code ({ cls := "ArrayText$Worker", name := "reduce", desc := "(CLArrayText$NumberArray;LArrayText$NumberArray;)V" } : Jvm.MethodName) prog_9_method_7_code (9 : Nat) (Option.none : Option Jvm.ClassFile.FieldType)) ∈ lw_all := qm 539 (by decide +kernel) (by decide +kernel)
theorem q540 : (Jvm.Cond.methodLink "ArrayText$Worker" (105 : Nat) ({ cls := "ArrayText$Worker", name := "combined", desc := "(CDD)D" } : Jvm.MethodName)) ∈ lw_all := qm 540 (by decide +kernel) (by decide +kernel)
theorem q541 : (Jvm.Cond.static ({ cls := "ArrayText$Worker", name := "combined", desc := "(CDD)D" } : Jvm.MethodName)) ∈ lw_all := qm 541 (by decide +kernel) (by decide +kernel)
theorem q542 : (Jvm.Cond.code ({ cls := "ArrayText$Worker", name := "combined", desc := "(CDD)D" } : Jvm.MethodName) prog_9_method_13_code (7 : Nat) (Option.some Jvm.ClassFile.FieldType.double)) ∈ lw_all := qm 542 (by decide +kernel) (by decide +kernel)
theorem q543 : (Jvm.Cond.methodLink "ArrayText$Worker" (113 : Nat) ({ cls := "ArrayText$Worker", name := "combinedFreely", desc := "(CDD)D" } : Jvm.MethodName)) ∈ lw_all := qm 543 (by decide +kernel) (by decide +kernel)
theorem q544 : (Jvm.Cond.static ({ cls := "ArrayText$Worker", name := "combinedFreely", desc := "(CDD)D" } : Jvm.MethodName)) ∈ lw_all := qm 544 (by decide +kernel) (by decide +kernel)
theorem q545 : (Jvm.Cond.code ({ cls := "ArrayText$Worker", name := "combinedFreely", desc := "(CDD)D" } : Jvm.MethodName) prog_9_method_14_code (5 : Nat) (Option.some Jvm.ClassFile.FieldType.double)) ∈ lw_all := qm 545 (by decide +kernel) (by decide +kernel)
theorem q547 : (Jvm.Cond.classLink "ArrayText$Worker" (120 : Nat) "java/lang/ArithmeticException") ∈ lw_all := qm 547 (by decide +kernel) (by decide +kernel)
theorem q549 : (Jvm.Cond.methodLink "ArrayText$Worker" (124 : Nat) ({ cls := "java/lang/ArithmeticException", name := "<init>", desc := "(Ljava/lang/String;)V" } : Jvm.MethodName)) ∈ lw_all := qm 549 (by decide +kernel) (by decide +kernel)
theorem q550 : (Jvm.Cond.methodLink "ArrayText$Worker" (65 : Nat) ({ cls := "ArrayText$Worker", name := "runAlong", desc := "(CLArrayText$NumberArray;LArrayText$NumberArray;)V" } : Jvm.MethodName)) ∈ lw_all := qm 550 (by decide +kernel) (by decide +kernel)
theorem q551 : (Jvm.Cond.static ({ cls := "ArrayText$Worker", name := "runAlong", desc := "(CLArrayText$NumberArray;LArrayText$NumberArray;)V" } : Jvm.MethodName)) ∈ lw_all := qm 551 (by decide +kernel) (by decide +kernel)
theorem q552 : (Jvm.Cond.code ({ cls := "ArrayText$Worker", name := "runAlong", desc := "(CLArrayText$NumberArray;LArrayText$NumberArray;)V" } : Jvm.MethodName) prog_9_method_8_code (9 : Nat) (Option.none : Option Jvm.ClassFile.FieldType)) ∈ lw_all := qm 552 (by decide +kernel) (by decide +kernel)
theorem q553 : (Jvm.Cond.methodLink "ArrayText$Worker" (71 : Nat) ({ cls := "ArrayText$Worker", name := "combineEach", desc := "(CLArrayText$NumberArray;LArrayText$NumberArray;LArrayText$NumberArray;)V" } : Jvm.MethodName)) ∈ lw_all := qm 553 (by decide +kernel) (by decide +kernel)
theorem q554 : (Jvm.Cond.static ({ cls := "ArrayText$Worker", name := "combineEach", desc := "(CLArrayText$NumberArray;LArrayText$NumberArray;LArrayText$NumberArray;)V" } : Jvm.MethodName)) ∈ lw_all := qm 554 (by decide +kernel) (by decide +kernel)
theorem q555 : (Jvm.Cond.code ({ cls := "ArrayText$Worker", name := "combineEach", desc := "(CLArrayText$NumberArray;LArrayText$NumberArray;LArrayText$NumberArray;)V" } : Jvm.MethodName) prog_9_method_9_code (6 : Nat) (Option.none : Option Jvm.ClassFile.FieldType)) ∈ lw_all := qm 555 (by decide +kernel) (by decide +kernel)
theorem q556 : (Jvm.Cond.methodLink "ArrayText$Worker" (109 : Nat) ({ cls := "ArrayText$Worker", name := "elementFor", desc := "(LArrayText$NumberArray;I)D" } : Jvm.MethodName)) ∈ lw_all := qm 556 (by decide +kernel) (by decide +kernel)
theorem q557 : (Jvm.Cond.static ({ cls := "ArrayText$Worker", name := "elementFor", desc := "(LArrayText$NumberArray;I)D" } : Jvm.MethodName)) ∈ lw_all := qm 557 (by decide +kernel) (by decide +kernel)
theorem q558 : (Jvm.Cond.code ({ cls := "ArrayText$Worker", name := "elementFor", desc := "(LArrayText$NumberArray;I)D" } : Jvm.MethodName) prog_9_method_10_code (2 : Nat) (Option.some Jvm.ClassFile.FieldType.double)) ∈ lw_all := qm 558 (by decide +kernel) (by decide +kernel)
theorem q559 : (Jvm.Cond.methodLink "ArrayText$Worker" (75 : Nat) ({ cls := "ArrayText$Worker", name := "join", desc := "(LArrayText$NumberArray;LArrayText$NumberArray;LArrayText$NumberArray;)V" } : Jvm.MethodName)) ∈ lw_all := qm 559 (by decide +kernel) (by decide +kernel)
theorem q560 : (Jvm.Cond.static ({ cls := "ArrayText$Worker", name := "join", desc := "(LArrayText$NumberArray;LArrayText$NumberArray;LArrayText$NumberArray;)V" } : Jvm.MethodName)) ∈ lw_all := qm 560 (by decide +kernel) (by decide +kernel)
theorem q561 : (Jvm.Cond.code ({ cls := "ArrayText$Worker", name := "join", desc := "(LArrayText$NumberArray;LArrayText$NumberArray;LArrayText$NumberArray;)V" } : Jvm.MethodName) prog_9_method_11_code (6 : Nat) (Option.none : Option Jvm.ClassFile.FieldType)) ∈ lw_all := qm 561 (by decide +kernel) (by decide +kernel)
theorem q562 : (Jvm.Cond.methodLink "ArrayText$Worker" (79 : Nat) ({ cls := "ArrayText$Worker", name := "fillAnew", desc := "(LArrayText$NumberArray;LArrayText$NumberArray;)V" } : Jvm.MethodName)) ∈ lw_all := qm 562 (by decide +kernel) (by decide +kernel)
theorem q563 : (Jvm.Cond.static ({ cls := "ArrayText$Worker", name := "fillAnew", desc := "(LArrayText$NumberArray;LArrayText$NumberArray;)V" } : Jvm.MethodName)) ∈ lw_all := qm 563 (by decide +kernel) (by decide +kernel)
theorem q564 : (Jvm.Cond.code ({ cls := "ArrayText$Worker", name := "fillAnew", desc := "(LArrayText$NumberArray;LArrayText$NumberArray;)V" } : Jvm.MethodName) prog_9_method_12_code (6 : Nat) (Option.none : Option Jvm.ClassFile.FieldType)) ∈ lw_all := qm 564 (by decide +kernel) (by decide +kernel)
theorem q565 : (Jvm.Cond.methodLink "ArrayText" (99 : Nat) ({ cls := "ArrayText$NumberArray", name := "becomeCopy", desc := "(LArrayText$NumberArray;)V" } : Jvm.MethodName)) ∈ lw_all := qm 565 (by decide +kernel) (by decide +kernel)
theorem q566 : (Jvm.Cond.methodLink "ArrayText" (103 : Nat) ({ cls := "ArrayText$Tree", name := "arraysMade", desc := "(LArrayText$Node;)I" } : Jvm.MethodName)) ∈ lw_all := qm 566 (by decide +kernel) (by decide +kernel)
theorem q567 : (Jvm.Cond.instanceMethod ({ cls := "ArrayText$Tree", name := "arraysMade", desc := "(LArrayText$Node;)I" } : Jvm.MethodName)) ∈ lw_all := qm 567 (by decide +kernel) (by decide +kernel)
theorem q568 : (Jvm.Cond.selects "ArrayText$Tree" ({ cls := "ArrayText$Tree", name := "arraysMade", desc := "(LArrayText$Node;)I" } : Jvm.MethodName) ({ cls := "ArrayText$Tree", name := "arraysMade", desc := "(LArrayText$Node;)I" } : Jvm.MethodName)) ∈ lw_all := qm 568 (by decide +kernel) (by decide +kernel)
theorem q569 : (Jvm.Cond.code ({ cls := "ArrayText$Tree", name := "arraysMade", desc := "(LArrayText$Node;)I" } : Jvm.MethodName) prog_8_method_4_code (4 : Nat) (Option.some Jvm.ClassFile.FieldType.int)) ∈ lw_all := qm 569 (by decide +kernel) (by decide +kernel)
theorem q570 : (Jvm.Cond.methodLink "ArrayText$Tree" (32 : Nat) ({ cls := "ArrayText$Node", name := "makesArray", desc := "()Z" } : Jvm.MethodName)) ∈ lw_all := qm 570 (by decide +kernel) (by decide +kernel)
theorem q571 : (Jvm.Cond.instanceMethod ({ cls := "ArrayText$Node", name := "makesArray", desc := "()Z" } : Jvm.MethodName)) ∈ lw_all := qm 571 (by decide +kernel) (by decide +kernel)
theorem q572 : (Jvm.Cond.selects "ArrayText$Node" ({ cls := "ArrayText$Node", name := "makesArray", desc := "()Z" } : Jvm.MethodName) ({ cls := "ArrayText$Node", name := "makesArray", desc := "()Z" } : Jvm.MethodName)) ∈ lw_all := qm 572 (by decide +kernel) (by decide +kernel)
theorem q573 : (Jvm.Cond.code ({ cls := "ArrayText$Node", name := "makesArray", desc := "()Z" } : Jvm.MethodName) prog_2_method_3_code (1 : Nat) (Option.some Jvm.ClassFile.FieldType.boolean)) ∈ lw_all := qm 573 (by decide +kernel) (by decide +kernel)
theorem q574 : (Jvm.Cond.methodLink "ArrayTextLaw" (81 : Nat) ({ cls := "ArrayTextLaw", name := "look", desc := "(LArrayText;[J)I" } : Jvm.MethodName)) ∈ lw_all := qm 574 (by decide +kernel) (by decide +kernel)
theorem q575 : (Jvm.Cond.static ({ cls := "ArrayTextLaw", name := "look", desc := "(LArrayText;[J)I" } : Jvm.MethodName)) ∈ lw_all := qm 575 (by decide +kernel) (by decide +kernel)
theorem q577 : (Jvm.Cond.methodLink "ArrayTextLaw" (23 : Nat) ({ cls := "ArrayText", name := "look", desc := "()I" } : Jvm.MethodName)) ∈ lw_all := qm 577 (by decide +kernel) (by decide +kernel)
theorem q578 : (Jvm.Cond.instanceMethod ({ cls := "ArrayText", name := "look", desc := "()I" } : Jvm.MethodName)) ∈ lw_all := qm 578 (by decide +kernel) (by decide +kernel)
theorem q579 : (Jvm.Cond.selects "ArrayText" ({ cls := "ArrayText", name := "look", desc := "()I" } : Jvm.MethodName) ({ cls := "ArrayText", name := "look", desc := "()I" } : Jvm.MethodName)) ∈ lw_all := qm 579 (by decide +kernel) (by decide +kernel)
theorem q580 : (Jvm.Cond.code ({ cls := "ArrayText", name := "look", desc := "()I" } : Jvm.MethodName) prog_1_method_11_code (2 : Nat) (Option.some Jvm.ClassFile.FieldType.int)) ∈ lw_all := qm 580 (by decide +kernel) (by decide +kernel)
theorem q581 : (Jvm.Cond.classLink "ArrayTextLaw" (28 : Nat) "ArrayTextModel") ∈ lw_all := qm 581 (by decide +kernel) (by decide +kernel)
theorem q582 : (Jvm.Cond.instantiable "ArrayTextModel" (27 : Nat)) ∈ lw_all := qm 582 (by decide +kernel) (by decide +kernel)
theorem q583 : (Jvm.Cond.methodLink "ArrayTextLaw" (30 : Nat) ({ cls := "ArrayTextModel", name := "<init>", desc := "()V" } : Jvm.MethodName)) ∈ lw_all := qm 583 (by decide +kernel) (by decide +kernel)
theorem q584 : (Jvm.Cond.instanceMethod ({ cls := "ArrayTextModel", name := "<init>", desc := "()V" } : Jvm.MethodName)) ∈ lw_all := qm 584 (by decide +kernel) (by decide +kernel)
theorem q585 : (Jvm.Cond.code ({ cls := "ArrayTextModel", name := "<init>", desc := "()V" } : Jvm.MethodName) prog_11_method_1_code (1 : Nat) (Option.none : Option Jvm.ClassFile.FieldType)) ∈ lw_all := qm 585 (by decide +kernel) (by decide +kernel)
theorem q586 : (Jvm.Cond.methodLink "ArrayTextModel" (1 : Nat) ({ cls := "java/lang/Object", name := "<init>", desc := "()V" } : Jvm.MethodName)) ∈ lw_all := qm 586 (by decide +kernel) (by decide +kernel)
theorem q587 : (Jvm.Cond.fieldLink "ArrayTextModel" (7 : Nat) "ArrayTextModel" "text" "[I") ∈ lw_all := qm 587 (by decide +kernel) (by decide +kernel)
theorem q588 : (Jvm.Cond.fieldLink "ArrayTextModel" (51 : Nat) "ArrayTextModel" "length" "I") ∈ lw_all := qm 588 (by decide +kernel) (by decide +kernel)
theorem q589 : (Jvm.Cond.fieldLink "ArrayTextModel" (13 : Nat) "ArrayTextModel" "shapes" "[I") ∈ lw_all := qm 589 (by decide +kernel) (by decide +kernel)
theorem q590 : (Jvm.Cond.fieldLink "ArrayTextModel" (16 : Nat) "ArrayTextModel" "cells" "[D") ∈ lw_all := qm 590 (by decide +kernel) (by decide +kernel)
theorem q591 : (Jvm.Cond.fieldLink "ArrayTextModel" (20 : Nat) "ArrayTextModel" "symbol" "[I") ∈ lw_all := qm 591 (by decide +kernel) (by decide +kernel)
theorem q592 : (Jvm.Cond.fieldLink "ArrayTextModel" (23 : Nat) "ArrayTextModel" "about" "[I") ∈ lw_all := qm 592 (by decide +kernel) (by decide +kernel)
theorem q593 : (Jvm.Cond.fieldLink "ArrayTextModel" (26 : Nat) "ArrayTextModel" "many" "[I") ∈ lw_all := qm 593 (by decide +kernel) (by decide +kernel)
theorem q594 : (Jvm.Cond.fieldLink "ArrayTextModel" (29 : Nat) "ArrayTextModel" "numbers" "[I") ∈ lw_all := qm 594 (by decide +kernel) (by decide +kernel)
theorem q595 : (Jvm.Cond.fieldLink "ArrayTextModel" (78 : Nat) "ArrayTextModel" "symbols" "I") ∈ lw_all := qm 595 (by decide +kernel) (by decide +kernel)
theorem q596 : (Jvm.Cond.fieldLink "ArrayTextModel" (87 : Nat) "ArrayTextModel" "numberCount" "I") ∈ lw_all := qm 596 (by decide +kernel) (by decide +kernel)
theorem q597 : (Jvm.Cond.fieldLink "ArrayTextModel" (32 : Nat) "ArrayTextModel" "now" "[D") ∈ lw_all := qm 597 (by decide +kernel) (by decide +kernel)
theorem q598 : (Jvm.Cond.fieldLink "ArrayTextModel" (35 : Nat) "ArrayTextModel" "part" "[D") ∈ lw_all := qm 598 (by decide +kernel) (by decide +kernel)
theorem q599 : (Jvm.Cond.fieldLink "ArrayTextModel" (38 : Nat) "ArrayTextModel" "right" "[D") ∈ lw_all := qm 599 (by decide +kernel) (by decide +kernel)
theorem q600 : (Jvm.Cond.fieldLink "ArrayTextModel" (41 : Nat) "ArrayTextModel" "rightShape" "[I") ∈ lw_all := qm 600 (by decide +kernel) (by decide +kernel)
theorem q601 : (Jvm.Cond.fieldLink "ArrayTextModel" (44 : Nat) "ArrayTextModel" "waiting" "[I") ∈ lw_all := qm 601 (by decide +kernel) (by decide +kernel)
theorem q602 : (Jvm.Cond.fieldLink "ArrayTextModel" (128 : Nat) "ArrayTextModel" "nowShape" "I") ∈ lw_all := qm 602 (by decide +kernel) (by decide +kernel)
theorem q603 : (Jvm.Cond.fieldLink "ArrayTextModel" (116 : Nat) "ArrayTextModel" "partShape" "I") ∈ lw_all := qm 603 (by decide +kernel) (by decide +kernel)
theorem q604 : (Jvm.Cond.fieldLink "ArrayTextModel" (122 : Nat) "ArrayTextModel" "nowConstant" "Z") ∈ lw_all := qm 604 (by decide +kernel) (by decide +kernel)
theorem q605 : (Jvm.Cond.fieldLink "ArrayTextModel" (110 : Nat) "ArrayTextModel" "partConstant" "Z") ∈ lw_all := qm 605 (by decide +kernel) (by decide +kernel)
theorem q606 : (Jvm.Cond.fieldLink "ArrayTextModel" (125 : Nat) "ArrayTextModel" "nowCounts" "Z") ∈ lw_all := qm 606 (by decide +kernel) (by decide +kernel)
theorem q607 : (Jvm.Cond.fieldLink "ArrayTextModel" (113 : Nat) "ArrayTextModel" "partCounts" "Z") ∈ lw_all := qm 607 (by decide +kernel) (by decide +kernel)
theorem q608 : (Jvm.Cond.fieldLink "ArrayTextModel" (106 : Nat) "ArrayTextModel" "outOfRange" "Z") ∈ lw_all := qm 608 (by decide +kernel) (by decide +kernel)
theorem q609 : (Jvm.Cond.fieldLink "ArrayTextModel" (142 : Nat) "ArrayTextModel" "arrays" "I") ∈ lw_all := qm 609 (by decide +kernel) (by decide +kernel)
theorem q610 : (Jvm.Cond.fieldLink "ArrayTextModel" (119 : Nat) "ArrayTextModel" "error" "I") ∈ lw_all := qm 610 (by decide +kernel) (by decide +kernel)
theorem q611 : (Jvm.Cond.fieldLink "ArrayTextModel" (177 : Nat) "ArrayTextModel" "made" "I") ∈ lw_all := qm 611 (by decide +kernel) (by decide +kernel)
theorem q612 : (Jvm.Cond.fieldLink "ArrayTextModel" (180 : Nat) "ArrayTextModel" "runs" "I") ∈ lw_all := qm 612 (by decide +kernel) (by decide +kernel)
theorem q613 : (Jvm.Cond.fieldLink "ArrayTextModel" (47 : Nat) "ArrayTextModel" "thrown" "I") ∈ lw_all := qm 613 (by decide +kernel) (by decide +kernel)
theorem q614 : (Jvm.Cond.laysFinal "ArrayTextModel" "ArrayTextModel" "text" "[I") ∈ lw_all := qm 614 (by decide +kernel) (by decide +kernel)
theorem q616 : (Jvm.Cond.lays "ArrayTextModel" "ArrayTextModel" "length" "I") ∈ lw_all := qm 616 (by decide +kernel) (by decide +kernel)
theorem q618 : (Jvm.Cond.laysFinal "ArrayTextModel" "ArrayTextModel" "shapes" "[I") ∈ lw_all := qm 618 (by decide +kernel) (by decide +kernel)
theorem q620 : (Jvm.Cond.laysFinal "ArrayTextModel" "ArrayTextModel" "cells" "[D") ∈ lw_all := qm 620 (by decide +kernel) (by decide +kernel)
theorem q622 : (Jvm.Cond.laysFinal "ArrayTextModel" "ArrayTextModel" "symbol" "[I") ∈ lw_all := qm 622 (by decide +kernel) (by decide +kernel)
theorem q624 : (Jvm.Cond.laysFinal "ArrayTextModel" "ArrayTextModel" "about" "[I") ∈ lw_all := qm 624 (by decide +kernel) (by decide +kernel)
theorem q626 : (Jvm.Cond.laysFinal "ArrayTextModel" "ArrayTextModel" "many" "[I") ∈ lw_all := qm 626 (by decide +kernel) (by decide +kernel)
theorem q628 : (Jvm.Cond.laysFinal "ArrayTextModel" "ArrayTextModel" "numbers" "[I") ∈ lw_all := qm 628 (by decide +kernel) (by decide +kernel)
theorem q630 : (Jvm.Cond.lays "ArrayTextModel" "ArrayTextModel" "symbols" "I") ∈ lw_all := qm 630 (by decide +kernel) (by decide +kernel)
theorem q632 : (Jvm.Cond.lays "ArrayTextModel" "ArrayTextModel" "numberCount" "I") ∈ lw_all := qm 632 (by decide +kernel) (by decide +kernel)
theorem q634 : (Jvm.Cond.laysFinal "ArrayTextModel" "ArrayTextModel" "now" "[D") ∈ lw_all := qm 634 (by decide +kernel) (by decide +kernel)
theorem q636 : (Jvm.Cond.laysFinal "ArrayTextModel" "ArrayTextModel" "part" "[D") ∈ lw_all := qm 636 (by decide +kernel) (by decide +kernel)
theorem q638 : (Jvm.Cond.laysFinal "ArrayTextModel" "ArrayTextModel" "right" "[D") ∈ lw_all := qm 638 (by decide +kernel) (by decide +kernel)
theorem q640 : (Jvm.Cond.laysFinal "ArrayTextModel" "ArrayTextModel" "rightShape" "[I") ∈ lw_all := qm 640 (by decide +kernel) (by decide +kernel)
theorem q642 : (Jvm.Cond.laysFinal "ArrayTextModel" "ArrayTextModel" "waiting" "[I") ∈ lw_all := qm 642 (by decide +kernel) (by decide +kernel)
theorem q644 : (Jvm.Cond.lays "ArrayTextModel" "ArrayTextModel" "nowShape" "I") ∈ lw_all := qm 644 (by decide +kernel) (by decide +kernel)
theorem q646 : (Jvm.Cond.lays "ArrayTextModel" "ArrayTextModel" "partShape" "I") ∈ lw_all := qm 646 (by decide +kernel) (by decide +kernel)
theorem q648 : (Jvm.Cond.lays "ArrayTextModel" "ArrayTextModel" "nowConstant" "Z") ∈ lw_all := qm 648 (by decide +kernel) (by decide +kernel)
theorem q650 : (Jvm.Cond.lays "ArrayTextModel" "ArrayTextModel" "partConstant" "Z") ∈ lw_all := qm 650 (by decide +kernel) (by decide +kernel)
theorem q652 : (Jvm.Cond.lays "ArrayTextModel" "ArrayTextModel" "nowCounts" "Z") ∈ lw_all := qm 652 (by decide +kernel) (by decide +kernel)
theorem q654 : (Jvm.Cond.lays "ArrayTextModel" "ArrayTextModel" "partCounts" "Z") ∈ lw_all := qm 654 (by decide +kernel) (by decide +kernel)
theorem q656 : (Jvm.Cond.lays "ArrayTextModel" "ArrayTextModel" "outOfRange" "Z") ∈ lw_all := qm 656 (by decide +kernel) (by decide +kernel)
theorem q658 : (Jvm.Cond.lays "ArrayTextModel" "ArrayTextModel" "arrays" "I") ∈ lw_all := qm 658 (by decide +kernel) (by decide +kernel)
theorem q660 : (Jvm.Cond.lays "ArrayTextModel" "ArrayTextModel" "error" "I") ∈ lw_all := qm 660 (by decide +kernel) (by decide +kernel)
theorem q662 : (Jvm.Cond.lays "ArrayTextModel" "ArrayTextModel" "made" "I") ∈ lw_all := qm 662 (by decide +kernel) (by decide +kernel)
theorem q664 : (Jvm.Cond.lays "ArrayTextModel" "ArrayTextModel" "runs" "I") ∈ lw_all := qm 664 (by decide +kernel) (by decide +kernel)
theorem q666 : (Jvm.Cond.lays "ArrayTextModel" "ArrayTextModel" "thrown" "I") ∈ lw_all := qm 666 (by decide +kernel) (by decide +kernel)
theorem q669 : (Jvm.Cond.arrayClass Jvm.ClassFile.FieldType.int) ∈ lw_all := qm 669 (by decide +kernel) (by decide +kernel)
theorem q670 : (Jvm.Cond.methodLink "ArrayTextLaw" (78 : Nat) ({ cls := "ArrayTextModel", name := "thrown", desc := "()I" } : Jvm.MethodName)) ∈ lw_all := qm 670 (by decide +kernel) (by decide +kernel)
theorem q671 : (Jvm.Cond.instanceMethod ({ cls := "ArrayTextModel", name := "thrown", desc := "()I" } : Jvm.MethodName)) ∈ lw_all := qm 671 (by decide +kernel) (by decide +kernel)
theorem q672 : (Jvm.Cond.selects "ArrayTextModel" ({ cls := "ArrayTextModel", name := "thrown", desc := "()I" } : Jvm.MethodName) ({ cls := "ArrayTextModel", name := "thrown", desc := "()I" } : Jvm.MethodName)) ∈ lw_all := qm 672 (by decide +kernel) (by decide +kernel)
theorem q673 : (Jvm.Cond.code ({ cls := "ArrayTextModel", name := "thrown", desc := "()I" } : Jvm.MethodName) prog_11_method_2_code (1 : Nat) (Option.some Jvm.ClassFile.FieldType.int)) ∈ lw_all := qm 673 (by decide +kernel) (by decide +kernel)
theorem q674 : (Jvm.Cond.methodLink "ArrayTextLaw" (37 : Nat) ({ cls := "ArrayTextModel", name := "write", desc := "(J)I" } : Jvm.MethodName)) ∈ lw_all := qm 674 (by decide +kernel) (by decide +kernel)
theorem q675 : (Jvm.Cond.instanceMethod ({ cls := "ArrayTextModel", name := "write", desc := "(J)I" } : Jvm.MethodName)) ∈ lw_all := qm 675 (by decide +kernel) (by decide +kernel)
theorem q676 : (Jvm.Cond.selects "ArrayTextModel" ({ cls := "ArrayTextModel", name := "write", desc := "(J)I" } : Jvm.MethodName) ({ cls := "ArrayTextModel", name := "write", desc := "(J)I" } : Jvm.MethodName)) ∈ lw_all := qm 676 (by decide +kernel) (by decide +kernel)
theorem q677 : (Jvm.Cond.code ({ cls := "ArrayTextModel", name := "write", desc := "(J)I" } : Jvm.MethodName) prog_11_method_4_code (6 : Nat) (Option.some Jvm.ClassFile.FieldType.int)) ∈ lw_all := qm 677 (by decide +kernel) (by decide +kernel)
theorem q678 : (Jvm.Cond.methodLink "ArrayTextLaw" (41 : Nat) ({ cls := "ArrayTextModel", name := "erase", desc := "()I" } : Jvm.MethodName)) ∈ lw_all := qm 678 (by decide +kernel) (by decide +kernel)
theorem q679 : (Jvm.Cond.instanceMethod ({ cls := "ArrayTextModel", name := "erase", desc := "()I" } : Jvm.MethodName)) ∈ lw_all := qm 679 (by decide +kernel) (by decide +kernel)
theorem q680 : (Jvm.Cond.selects "ArrayTextModel" ({ cls := "ArrayTextModel", name := "erase", desc := "()I" } : Jvm.MethodName) ({ cls := "ArrayTextModel", name := "erase", desc := "()I" } : Jvm.MethodName)) ∈ lw_all := qm 680 (by decide +kernel) (by decide +kernel)
theorem q681 : (Jvm.Cond.code ({ cls := "ArrayTextModel", name := "erase", desc := "()I" } : Jvm.MethodName) prog_11_method_5_code (2 : Nat) (Option.some Jvm.ClassFile.FieldType.int)) ∈ lw_all := qm 681 (by decide +kernel) (by decide +kernel)
theorem q682 : (Jvm.Cond.methodLink "ArrayTextLaw" (48 : Nat) ({ cls := "ArrayTextModel", name := "put", desc := "(ID)Z" } : Jvm.MethodName)) ∈ lw_all := qm 682 (by decide +kernel) (by decide +kernel)
theorem q683 : (Jvm.Cond.instanceMethod ({ cls := "ArrayTextModel", name := "put", desc := "(ID)Z" } : Jvm.MethodName)) ∈ lw_all := qm 683 (by decide +kernel) (by decide +kernel)
theorem q684 : (Jvm.Cond.selects "ArrayTextModel" ({ cls := "ArrayTextModel", name := "put", desc := "(ID)Z" } : Jvm.MethodName) ({ cls := "ArrayTextModel", name := "put", desc := "(ID)Z" } : Jvm.MethodName)) ∈ lw_all := qm 684 (by decide +kernel) (by decide +kernel)
theorem q685 : (Jvm.Cond.code ({ cls := "ArrayTextModel", name := "put", desc := "(ID)Z" } : Jvm.MethodName) prog_11_method_7_code (4 : Nat) (Option.some Jvm.ClassFile.FieldType.boolean)) ∈ lw_all := qm 685 (by decide +kernel) (by decide +kernel)
theorem q686 : (Jvm.Cond.methodLink "ArrayTextModel" (58 : Nat) ({ cls := "ArrayTextModel", name := "within", desc := "(III)Z" } : Jvm.MethodName)) ∈ lw_all := qm 686 (by decide +kernel) (by decide +kernel)
theorem q687 : (Jvm.Cond.static ({ cls := "ArrayTextModel", name := "within", desc := "(III)Z" } : Jvm.MethodName)) ∈ lw_all := qm 687 (by decide +kernel) (by decide +kernel)
theorem q688 : (Jvm.Cond.code ({ cls := "ArrayTextModel", name := "within", desc := "(III)Z" } : Jvm.MethodName) prog_11_method_3_code (3 : Nat) (Option.some Jvm.ClassFile.FieldType.boolean)) ∈ lw_all := qm 688 (by decide +kernel) (by decide +kernel)
theorem q689 : (Jvm.Cond.methodLink "ArrayTextModel" (62 : Nat) ({ cls := "ArrayTextModel", name := "fits", desc := "(D)Z" } : Jvm.MethodName)) ∈ lw_all := qm 689 (by decide +kernel) (by decide +kernel)
theorem q690 : (Jvm.Cond.static ({ cls := "ArrayTextModel", name := "fits", desc := "(D)Z" } : Jvm.MethodName)) ∈ lw_all := qm 690 (by decide +kernel) (by decide +kernel)
theorem q691 : (Jvm.Cond.code ({ cls := "ArrayTextModel", name := "fits", desc := "(D)Z" } : Jvm.MethodName) prog_11_method_6_code (2 : Nat) (Option.some Jvm.ClassFile.FieldType.boolean)) ∈ lw_all := qm 691 (by decide +kernel) (by decide +kernel)
theorem q692 : (Jvm.Cond.constantDouble "ArrayTextModel" (54 : Nat) (14009883241494872064 : UInt64)) ∈ lw_all := qm 692 (by decide +kernel) (by decide +kernel)
theorem q693 : (Jvm.Cond.constantDouble "ArrayTextModel" (56 : Nat) (4786511204640096256 : UInt64)) ∈ lw_all := qm 693 (by decide +kernel) (by decide +kernel)
theorem q694 : (Jvm.Cond.methodLink "ArrayTextLaw" (53 : Nat) ({ cls := "ArrayTextModel", name := "shape", desc := "(II)Z" } : Jvm.MethodName)) ∈ lw_all := qm 694 (by decide +kernel) (by decide +kernel)
theorem q695 : (Jvm.Cond.instanceMethod ({ cls := "ArrayTextModel", name := "shape", desc := "(II)Z" } : Jvm.MethodName)) ∈ lw_all := qm 695 (by decide +kernel) (by decide +kernel)
theorem q696 : (Jvm.Cond.selects "ArrayTextModel" ({ cls := "ArrayTextModel", name := "shape", desc := "(II)Z" } : Jvm.MethodName) ({ cls := "ArrayTextModel", name := "shape", desc := "(II)Z" } : Jvm.MethodName)) ∈ lw_all := qm 696 (by decide +kernel) (by decide +kernel)
theorem q697 : (Jvm.Cond.code ({ cls := "ArrayTextModel", name := "shape", desc := "(II)Z" } : Jvm.MethodName) prog_11_method_10_code (4 : Nat) (Option.some Jvm.ClassFile.FieldType.boolean)) ∈ lw_all := qm 697 (by decide +kernel) (by decide +kernel)
theorem q698 : (Jvm.Cond.methodLink "ArrayTextModel" (66 : Nat) ({ cls := "ArrayTextModel", name := "isShape", desc := "(I)Z" } : Jvm.MethodName)) ∈ lw_all := qm 698 (by decide +kernel) (by decide +kernel)
theorem q699 : (Jvm.Cond.static ({ cls := "ArrayTextModel", name := "isShape", desc := "(I)Z" } : Jvm.MethodName)) ∈ lw_all := qm 699 (by decide +kernel) (by decide +kernel)
theorem q700 : (Jvm.Cond.code ({ cls := "ArrayTextModel", name := "isShape", desc := "(I)Z" } : Jvm.MethodName) prog_11_method_8_code (3 : Nat) (Option.some Jvm.ClassFile.FieldType.boolean)) ∈ lw_all := qm 700 (by decide +kernel) (by decide +kernel)
theorem q701 : (Jvm.Cond.methodLink "ArrayTextLaw" (58 : Nat) ({ cls := "ArrayTextModel", name := "set", desc := "(IID)Z" } : Jvm.MethodName)) ∈ lw_all := qm 701 (by decide +kernel) (by decide +kernel)
theorem q702 : (Jvm.Cond.instanceMethod ({ cls := "ArrayTextModel", name := "set", desc := "(IID)Z" } : Jvm.MethodName)) ∈ lw_all := qm 702 (by decide +kernel) (by decide +kernel)
theorem q703 : (Jvm.Cond.selects "ArrayTextModel" ({ cls := "ArrayTextModel", name := "set", desc := "(IID)Z" } : Jvm.MethodName) ({ cls := "ArrayTextModel", name := "set", desc := "(IID)Z" } : Jvm.MethodName)) ∈ lw_all := qm 703 (by decide +kernel) (by decide +kernel)
theorem q704 : (Jvm.Cond.code ({ cls := "ArrayTextModel", name := "set", desc := "(IID)Z" } : Jvm.MethodName) prog_11_method_12_code (5 : Nat) (Option.some Jvm.ClassFile.FieldType.boolean)) ∈ lw_all := qm 704 (by decide +kernel) (by decide +kernel)
theorem q705 : (Jvm.Cond.methodLink "ArrayTextModel" (74 : Nat) ({ cls := "ArrayTextModel", name := "has", desc := "(II)Z" } : Jvm.MethodName)) ∈ lw_all := qm 705 (by decide +kernel) (by decide +kernel)
theorem q707 : (Jvm.Cond.instanceMethod ({ cls := "ArrayTextModel", name := "has", desc := "(II)Z" } : Jvm.MethodName)) ∈ lw_all := qm 707 (by decide +kernel) (by decide +kernel)
theorem q708 : (Jvm.Cond.code ({ cls := "ArrayTextModel", name := "has", desc := "(II)Z" } : Jvm.MethodName) prog_11_method_11_code (3 : Nat) (Option.some Jvm.ClassFile.FieldType.boolean)) ∈ lw_all := qm 708 (by decide +kernel) (by decide +kernel)
theorem q709 : (Jvm.Cond.methodLink "ArrayTextModel" (70 : Nat) ({ cls := "ArrayTextModel", name := "count", desc := "(I)I" } : Jvm.MethodName)) ∈ lw_all := qm 709 (by decide +kernel) (by decide +kernel)
theorem q710 : (Jvm.Cond.static ({ cls := "ArrayTextModel", name := "count", desc := "(I)I" } : Jvm.MethodName)) ∈ lw_all := qm 710 (by decide +kernel) (by decide +kernel)
theorem q711 : (Jvm.Cond.code ({ cls := "ArrayTextModel", name := "count", desc := "(I)I" } : Jvm.MethodName) prog_11_method_9_code (1 : Nat) (Option.some Jvm.ClassFile.FieldType.int)) ∈ lw_all := qm 711 (by decide +kernel) (by decide +kernel)
theorem q712 : (Jvm.Cond.methodLink "ArrayTextLaw" (62 : Nat) ({ cls := "ArrayTextModel", name := "shapeOf", desc := "(I)I" } : Jvm.MethodName)) ∈ lw_all := qm 712 (by decide +kernel) (by decide +kernel)
theorem q713 : (Jvm.Cond.instanceMethod ({ cls := "ArrayTextModel", name := "shapeOf", desc := "(I)I" } : Jvm.MethodName)) ∈ lw_all := qm 713 (by decide +kernel) (by decide +kernel)
theorem q714 : (Jvm.Cond.selects "ArrayTextModel" ({ cls := "ArrayTextModel", name := "shapeOf", desc := "(I)I" } : Jvm.MethodName) ({ cls := "ArrayTextModel", name := "shapeOf", desc := "(I)I" } : Jvm.MethodName)) ∈ lw_all := qm 714 (by decide +kernel) (by decide +kernel)
theorem q715 : (Jvm.Cond.code ({ cls := "ArrayTextModel", name := "shapeOf", desc := "(I)I" } : Jvm.MethodName) prog_11_method_13_code (2 : Nat) (Option.some Jvm.ClassFile.FieldType.int)) ∈ lw_all := qm 715 (by decide +kernel) (by decide +kernel)
theorem q716 : (Jvm.Cond.methodLink "ArrayTextLaw" (66 : Nat) ({ cls := "ArrayTextModel", name := "size", desc := "(I)I" } : Jvm.MethodName)) ∈ lw_all := qm 716 (by decide +kernel) (by decide +kernel)
theorem q717 : (Jvm.Cond.instanceMethod ({ cls := "ArrayTextModel", name := "size", desc := "(I)I" } : Jvm.MethodName)) ∈ lw_all := qm 717 (by decide +kernel) (by decide +kernel)
theorem q718 : (Jvm.Cond.selects "ArrayTextModel" ({ cls := "ArrayTextModel", name := "size", desc := "(I)I" } : Jvm.MethodName) ({ cls := "ArrayTextModel", name := "size", desc := "(I)I" } : Jvm.MethodName)) ∈ lw_all := qm 718 (by decide +kernel) (by decide +kernel)
theorem q719 : (Jvm.Cond.code ({ cls := "ArrayTextModel", name := "size", desc := "(I)I" } : Jvm.MethodName) prog_11_method_14_code (2 : Nat) (Option.some Jvm.ClassFile.FieldType.int)) ∈ lw_all := qm 719 (by decide +kernel) (by decide +kernel)
theorem q720 : (Jvm.Cond.methodLink "ArrayTextLaw" (71 : Nat) ({ cls := "ArrayTextModel", name := "at", desc := "(II)D" } : Jvm.MethodName)) ∈ lw_all := qm 720 (by decide +kernel) (by decide +kernel)
theorem q721 : (Jvm.Cond.instanceMethod ({ cls := "ArrayTextModel", name := "at", desc := "(II)D" } : Jvm.MethodName)) ∈ lw_all := qm 721 (by decide +kernel) (by decide +kernel)
theorem q722 : (Jvm.Cond.selects "ArrayTextModel" ({ cls := "ArrayTextModel", name := "at", desc := "(II)D" } : Jvm.MethodName) ({ cls := "ArrayTextModel", name := "at", desc := "(II)D" } : Jvm.MethodName)) ∈ lw_all := qm 722 (by decide +kernel) (by decide +kernel)
theorem q723 : (Jvm.Cond.code ({ cls := "ArrayTextModel", name := "at", desc := "(II)D" } : Jvm.MethodName) prog_11_method_15_code (3 : Nat) (Option.some Jvm.ClassFile.FieldType.double)) ∈ lw_all := qm 723 (by decide +kernel) (by decide +kernel)
theorem q724 : (Jvm.Cond.methodLink "ArrayTextLaw" (77 : Nat) ({ cls := "ArrayTextModel", name := "run", desc := "(I)I" } : Jvm.MethodName)) ∈ lw_all := qm 724 (by decide +kernel) (by decide +kernel)
theorem q725 : (Jvm.Cond.instanceMethod ({ cls := "ArrayTextModel", name := "run", desc := "(I)I" } : Jvm.MethodName)) ∈ lw_all := qm 725 (by decide +kernel) (by decide +kernel)
theorem q726 : (Jvm.Cond.selects "ArrayTextModel" ({ cls := "ArrayTextModel", name := "run", desc := "(I)I" } : Jvm.MethodName) ({ cls := "ArrayTextModel", name := "run", desc := "(I)I" } : Jvm.MethodName)) ∈ lw_all := qm 726 (by decide +kernel) (by decide +kernel)
theorem q727 : (Jvm.Cond.code ({ cls := "ArrayTextModel", name := "run", desc := "(I)I" } : Jvm.MethodName) prog_11_method_35_code (4 : Nat) (Option.some Jvm.ClassFile.FieldType.int)) ∈ lw_all := qm 727 (by decide +kernel) (by decide +kernel)
theorem q728 : (Jvm.Cond.methodLink "ArrayTextModel" (173 : Nat) ({ cls := "ArrayTextModel", name := "work", desc := "()I" } : Jvm.MethodName)) ∈ lw_all := qm 728 (by decide +kernel) (by decide +kernel)
theorem q730 : (Jvm.Cond.instanceMethod ({ cls := "ArrayTextModel", name := "work", desc := "()I" } : Jvm.MethodName)) ∈ lw_all := qm 730 (by decide +kernel) (by decide +kernel)
theorem q731 : (Jvm.Cond.code ({ cls := "ArrayTextModel", name := "work", desc := "()I" } : Jvm.MethodName) prog_11_method_34_code (5 : Nat) (Option.some Jvm.ClassFile.FieldType.int)) ∈ lw_all := qm 731 (by decide +kernel) (by decide +kernel)
theorem q732 : (Jvm.Cond.methodLink "ArrayTextModel" (160 : Nat) ({ cls := "ArrayTextModel", name := "cut", desc := "()Z" } : Jvm.MethodName)) ∈ lw_all := qm 732 (by decide +kernel) (by decide +kernel)
theorem q734 : (Jvm.Cond.instanceMethod ({ cls := "ArrayTextModel", name := "cut", desc := "()Z" } : Jvm.MethodName)) ∈ lw_all := qm 734 (by decide +kernel) (by decide +kernel)
theorem q735 : (Jvm.Cond.code ({ cls := "ArrayTextModel", name := "cut", desc := "()Z" } : Jvm.MethodName) prog_11_method_23_code (7 : Nat) (Option.some Jvm.ClassFile.FieldType.boolean)) ∈ lw_all := qm 735 (by decide +kernel) (by decide +kernel)
theorem q736 : (Jvm.Cond.methodLink "ArrayTextModel" (81 : Nat) ({ cls := "ArrayTextModel", name := "charAt", desc := "(I)I" } : Jvm.MethodName)) ∈ lw_all := qm 736 (by decide +kernel) (by decide +kernel)
theorem q738 : (Jvm.Cond.instanceMethod ({ cls := "ArrayTextModel", name := "charAt", desc := "(I)I" } : Jvm.MethodName)) ∈ lw_all := qm 738 (by decide +kernel) (by decide +kernel)
theorem q739 : (Jvm.Cond.code ({ cls := "ArrayTextModel", name := "charAt", desc := "(I)I" } : Jvm.MethodName) prog_11_method_16_code (2 : Nat) (Option.some Jvm.ClassFile.FieldType.int)) ∈ lw_all := qm 739 (by decide +kernel) (by decide +kernel)
theorem q740 : (Jvm.Cond.methodLink "ArrayTextModel" (93 : Nat) ({ cls := "ArrayTextModel", name := "keep", desc := "(III)V" } : Jvm.MethodName)) ∈ lw_all := qm 740 (by decide +kernel) (by decide +kernel)
theorem q742 : (Jvm.Cond.instanceMethod ({ cls := "ArrayTextModel", name := "keep", desc := "(III)V" } : Jvm.MethodName)) ∈ lw_all := qm 742 (by decide +kernel) (by decide +kernel)
theorem q743 : (Jvm.Cond.code ({ cls := "ArrayTextModel", name := "keep", desc := "(III)V" } : Jvm.MethodName) prog_11_method_20_code (4 : Nat) (Option.none : Option Jvm.ClassFile.FieldType)) ∈ lw_all := qm 743 (by decide +kernel) (by decide +kernel)
theorem q744 : (Jvm.Cond.methodLink "ArrayTextModel" (97 : Nat) ({ cls := "ArrayTextModel", name := "isSign", desc := "(I)Z" } : Jvm.MethodName)) ∈ lw_all := qm 744 (by decide +kernel) (by decide +kernel)
theorem q745 : (Jvm.Cond.static ({ cls := "ArrayTextModel", name := "isSign", desc := "(I)Z" } : Jvm.MethodName)) ∈ lw_all := qm 745 (by decide +kernel) (by decide +kernel)
theorem q746 : (Jvm.Cond.code ({ cls := "ArrayTextModel", name := "isSign", desc := "(I)Z" } : Jvm.MethodName) prog_11_method_18_code (1 : Nat) (Option.some Jvm.ClassFile.FieldType.boolean)) ∈ lw_all := qm 746 (by decide +kernel) (by decide +kernel)
theorem q747 : (Jvm.Cond.methodLink "ArrayTextModel" (100 : Nat) ({ cls := "ArrayTextModel", name := "reduces", desc := "(I)Z" } : Jvm.MethodName)) ∈ lw_all := qm 747 (by decide +kernel) (by decide +kernel)
theorem q748 : (Jvm.Cond.static ({ cls := "ArrayTextModel", name := "reduces", desc := "(I)Z" } : Jvm.MethodName)) ∈ lw_all := qm 748 (by decide +kernel) (by decide +kernel)
theorem q749 : (Jvm.Cond.code ({ cls := "ArrayTextModel", name := "reduces", desc := "(I)Z" } : Jvm.MethodName) prog_11_method_19_code (1 : Nat) (Option.some Jvm.ClassFile.FieldType.boolean)) ∈ lw_all := qm 749 (by decide +kernel) (by decide +kernel)
theorem q750 : (Jvm.Cond.methodLink "ArrayTextModel" (90 : Nat) ({ cls := "ArrayTextModel", name := "number", desc := "(I)I" } : Jvm.MethodName)) ∈ lw_all := qm 750 (by decide +kernel) (by decide +kernel)
theorem q752 : (Jvm.Cond.instanceMethod ({ cls := "ArrayTextModel", name := "number", desc := "(I)I" } : Jvm.MethodName)) ∈ lw_all := qm 752 (by decide +kernel) (by decide +kernel)
theorem q753 : (Jvm.Cond.code ({ cls := "ArrayTextModel", name := "number", desc := "(I)I" } : Jvm.MethodName) prog_11_method_21_code (4 : Nat) (Option.some Jvm.ClassFile.FieldType.int)) ∈ lw_all := qm 753 (by decide +kernel) (by decide +kernel)
theorem q754 : (Jvm.Cond.methodLink "ArrayTextModel" (84 : Nat) ({ cls := "ArrayTextModel", name := "isDigit", desc := "(I)Z" } : Jvm.MethodName)) ∈ lw_all := qm 754 (by decide +kernel) (by decide +kernel)
theorem q755 : (Jvm.Cond.static ({ cls := "ArrayTextModel", name := "isDigit", desc := "(I)Z" } : Jvm.MethodName)) ∈ lw_all := qm 755 (by decide +kernel) (by decide +kernel)
theorem q756 : (Jvm.Cond.code ({ cls := "ArrayTextModel", name := "isDigit", desc := "(I)Z" } : Jvm.MethodName) prog_11_method_17_code (1 : Nat) (Option.some Jvm.ClassFile.FieldType.boolean)) ∈ lw_all := qm 756 (by decide +kernel) (by decide +kernel)
theorem q757 : (Jvm.Cond.methodLink "ArrayTextModel" (103 : Nat) ({ cls := "ArrayTextModel", name := "constant", desc := "(I)I" } : Jvm.MethodName)) ∈ lw_all := qm 757 (by decide +kernel) (by decide +kernel)
theorem q759 : (Jvm.Cond.instanceMethod ({ cls := "ArrayTextModel", name := "constant", desc := "(I)I" } : Jvm.MethodName)) ∈ lw_all := qm 759 (by decide +kernel) (by decide +kernel)
theorem q760 : (Jvm.Cond.code ({ cls := "ArrayTextModel", name := "constant", desc := "(I)I" } : Jvm.MethodName) prog_11_method_22_code (5 : Nat) (Option.some Jvm.ClassFile.FieldType.int)) ∈ lw_all := qm 760 (by decide +kernel) (by decide +kernel)
theorem q761 : (Jvm.Cond.methodLink "ArrayTextModel" (164 : Nat) ({ cls := "ArrayTextModel", name := "front", desc := "(I)V" } : Jvm.MethodName)) ∈ lw_all := qm 761 (by decide +kernel) (by decide +kernel)
theorem q763 : (Jvm.Cond.instanceMethod ({ cls := "ArrayTextModel", name := "front", desc := "(I)V" } : Jvm.MethodName)) ∈ lw_all := qm 763 (by decide +kernel) (by decide +kernel)
theorem q764 : (Jvm.Cond.code ({ cls := "ArrayTextModel", name := "front", desc := "(I)V" } : Jvm.MethodName) prog_11_method_31_code (5 : Nat) (Option.none : Option Jvm.ClassFile.FieldType)) ∈ lw_all := qm 764 (by decide +kernel) (by decide +kernel)
theorem q765 : (Jvm.Cond.methodLink "ArrayTextModel" (153 : Nat) ({ cls := "ArrayTextModel", name := "turn", desc := "()V" } : Jvm.MethodName)) ∈ lw_all := qm 765 (by decide +kernel) (by decide +kernel)
theorem q767 : (Jvm.Cond.instanceMethod ({ cls := "ArrayTextModel", name := "turn", desc := "()V" } : Jvm.MethodName)) ∈ lw_all := qm 767 (by decide +kernel) (by decide +kernel)
theorem q768 : (Jvm.Cond.code ({ cls := "ArrayTextModel", name := "turn", desc := "()V" } : Jvm.MethodName) prog_11_method_32_code (4 : Nat) (Option.none : Option Jvm.ClassFile.FieldType)) ∈ lw_all := qm 768 (by decide +kernel) (by decide +kernel)
theorem q769 : (Jvm.Cond.methodLink "ArrayTextModel" (156 : Nat) ({ cls := "ArrayTextModel", name := "along", desc := "(IZ)V" } : Jvm.MethodName)) ∈ lw_all := qm 769 (by decide +kernel) (by decide +kernel)
theorem q771 : (Jvm.Cond.instanceMethod ({ cls := "ArrayTextModel", name := "along", desc := "(IZ)V" } : Jvm.MethodName)) ∈ lw_all := qm 771 (by decide +kernel) (by decide +kernel)
theorem q772 : (Jvm.Cond.code ({ cls := "ArrayTextModel", name := "along", desc := "(IZ)V" } : Jvm.MethodName) prog_11_method_33_code (6 : Nat) (Option.none : Option Jvm.ClassFile.FieldType)) ∈ lw_all := qm 772 (by decide +kernel) (by decide +kernel)
theorem q773 : (Jvm.Cond.methodLink "ArrayTextModel" (145 : Nat) ({ cls := "ArrayTextModel", name := "join", desc := "(IDD)D" } : Jvm.MethodName)) ∈ lw_all := qm 773 (by decide +kernel) (by decide +kernel)
theorem q774 : (Jvm.Cond.static ({ cls := "ArrayTextModel", name := "join", desc := "(IDD)D" } : Jvm.MethodName)) ∈ lw_all := qm 774 (by decide +kernel) (by decide +kernel)
theorem q775 : (Jvm.Cond.code ({ cls := "ArrayTextModel", name := "join", desc := "(IDD)D" } : Jvm.MethodName) prog_11_method_25_code (5 : Nat) (Option.some Jvm.ClassFile.FieldType.double)) ∈ lw_all := qm 775 (by decide +kernel) (by decide +kernel)
theorem q776 : (Jvm.Cond.methodLink "ArrayTextModel" (149 : Nat) ({ cls := "ArrayTextModel", name := "check", desc := "(D)V" } : Jvm.MethodName)) ∈ lw_all := qm 776 (by decide +kernel) (by decide +kernel)
theorem q778 : (Jvm.Cond.instanceMethod ({ cls := "ArrayTextModel", name := "check", desc := "(D)V" } : Jvm.MethodName)) ∈ lw_all := qm 778 (by decide +kernel) (by decide +kernel)
theorem q779 : (Jvm.Cond.code ({ cls := "ArrayTextModel", name := "check", desc := "(D)V" } : Jvm.MethodName) prog_11_method_24_code (3 : Nat) (Option.none : Option Jvm.ClassFile.FieldType)) ∈ lw_all := qm 779 (by decide +kernel) (by decide +kernel)
theorem q780 : (Jvm.Cond.methodLink "ArrayTextModel" (167 : Nat) ({ cls := "ArrayTextModel", name := "load", desc := "(I)V" } : Jvm.MethodName)) ∈ lw_all := qm 780 (by decide +kernel) (by decide +kernel)
theorem q782 : (Jvm.Cond.instanceMethod ({ cls := "ArrayTextModel", name := "load", desc := "(I)V" } : Jvm.MethodName)) ∈ lw_all := qm 782 (by decide +kernel) (by decide +kernel)
theorem q783 : (Jvm.Cond.code ({ cls := "ArrayTextModel", name := "load", desc := "(I)V" } : Jvm.MethodName) prog_11_method_26_code (4 : Nat) (Option.none : Option Jvm.ClassFile.FieldType)) ∈ lw_all := qm 783 (by decide +kernel) (by decide +kernel)
theorem q784 : (Jvm.Cond.methodLink "ArrayTextModel" (170 : Nat) ({ cls := "ArrayTextModel", name := "deliver", desc := "(I)V" } : Jvm.MethodName)) ∈ lw_all := qm 784 (by decide +kernel) (by decide +kernel)
theorem q786 : (Jvm.Cond.instanceMethod ({ cls := "ArrayTextModel", name := "deliver", desc := "(I)V" } : Jvm.MethodName)) ∈ lw_all := qm 786 (by decide +kernel) (by decide +kernel)
theorem q787 : (Jvm.Cond.code ({ cls := "ArrayTextModel", name := "deliver", desc := "(I)V" } : Jvm.MethodName) prog_11_method_27_code (4 : Nat) (Option.none : Option Jvm.ClassFile.FieldType)) ∈ lw_all := qm 787 (by decide +kernel) (by decide +kernel)
theorem q788 : (Jvm.Cond.methodLink "ArrayTextModel" (131 : Nat) ({ cls := "ArrayTextModel", name := "append", desc := "(I)V" } : Jvm.MethodName)) ∈ lw_all := qm 788 (by decide +kernel) (by decide +kernel)
theorem q790 : (Jvm.Cond.instanceMethod ({ cls := "ArrayTextModel", name := "append", desc := "(I)V" } : Jvm.MethodName)) ∈ lw_all := qm 790 (by decide +kernel) (by decide +kernel)
theorem q791 : (Jvm.Cond.code ({ cls := "ArrayTextModel", name := "append", desc := "(I)V" } : Jvm.MethodName) prog_11_method_28_code (5 : Nat) (Option.none : Option Jvm.ClassFile.FieldType)) ∈ lw_all := qm 791 (by decide +kernel) (by decide +kernel)
theorem q792 : (Jvm.Cond.methodLink "ArrayTextModel" (135 : Nat) ({ cls := "ArrayTextModel", name := "shapeAnew", desc := "(I)V" } : Jvm.MethodName)) ∈ lw_all := qm 792 (by decide +kernel) (by decide +kernel)
theorem q794 : (Jvm.Cond.instanceMethod ({ cls := "ArrayTextModel", name := "shapeAnew", desc := "(I)V" } : Jvm.MethodName)) ∈ lw_all := qm 794 (by decide +kernel) (by decide +kernel)
theorem q795 : (Jvm.Cond.code ({ cls := "ArrayTextModel", name := "shapeAnew", desc := "(I)V" } : Jvm.MethodName) prog_11_method_29_code (6 : Nat) (Option.none : Option Jvm.ClassFile.FieldType)) ∈ lw_all := qm 795 (by decide +kernel) (by decide +kernel)
theorem q796 : (Jvm.Cond.methodLink "ArrayTextModel" (138 : Nat) ({ cls := "ArrayTextModel", name := "pairs", desc := "(II)V" } : Jvm.MethodName)) ∈ lw_all := qm 796 (by decide +kernel) (by decide +kernel)
theorem q798 : (Jvm.Cond.instanceMethod ({ cls := "ArrayTextModel", name := "pairs", desc := "(II)V" } : Jvm.MethodName)) ∈ lw_all := qm 798 (by decide +kernel) (by decide +kernel)
theorem q799 : (Jvm.Cond.code ({ cls := "ArrayTextModel", name := "pairs", desc := "(II)V" } : Jvm.MethodName) prog_11_method_30_code (5 : Nat) (Option.none : Option Jvm.ClassFile.FieldType)) ∈ lw_all := qm 799 (by decide +kernel) (by decide +kernel)
theorem q800 : (Jvm.Cond.methodLink "ArrayTextLaw" (84 : Nat) ({ cls := "ArrayTextModel", name := "look", desc := "()I" } : Jvm.MethodName)) ∈ lw_all := qm 800 (by decide +kernel) (by decide +kernel)
theorem q801 : (Jvm.Cond.instanceMethod ({ cls := "ArrayTextModel", name := "look", desc := "()I" } : Jvm.MethodName)) ∈ lw_all := qm 801 (by decide +kernel) (by decide +kernel)
theorem q802 : (Jvm.Cond.selects "ArrayTextModel" ({ cls := "ArrayTextModel", name := "look", desc := "()I" } : Jvm.MethodName) ({ cls := "ArrayTextModel", name := "look", desc := "()I" } : Jvm.MethodName)) ∈ lw_all := qm 802 (by decide +kernel) (by decide +kernel)
theorem q803 : (Jvm.Cond.code ({ cls := "ArrayTextModel", name := "look", desc := "()I" } : Jvm.MethodName) prog_11_method_36_code (2 : Nat) (Option.some Jvm.ClassFile.FieldType.int)) ∈ lw_all := qm 803 (by decide +kernel) (by decide +kernel)
theorem q804 : (Jvm.Cond.methodLink "ArrayTextLaw" (88 : Nat) ({ cls := "ArrayTextModel", name := "made", desc := "()I" } : Jvm.MethodName)) ∈ lw_all := qm 804 (by decide +kernel) (by decide +kernel)
theorem q805 : (Jvm.Cond.instanceMethod ({ cls := "ArrayTextModel", name := "made", desc := "()I" } : Jvm.MethodName)) ∈ lw_all := qm 805 (by decide +kernel) (by decide +kernel)
theorem q806 : (Jvm.Cond.selects "ArrayTextModel" ({ cls := "ArrayTextModel", name := "made", desc := "()I" } : Jvm.MethodName) ({ cls := "ArrayTextModel", name := "made", desc := "()I" } : Jvm.MethodName)) ∈ lw_all := qm 806 (by decide +kernel) (by decide +kernel)
theorem q807 : (Jvm.Cond.code ({ cls := "ArrayTextModel", name := "made", desc := "()I" } : Jvm.MethodName) prog_11_method_37_code (1 : Nat) (Option.some Jvm.ClassFile.FieldType.int)) ∈ lw_all := qm 807 (by decide +kernel) (by decide +kernel)
theorem q808 : (Jvm.Cond.methodLink "ArrayTextLaw" (92 : Nat) ({ cls := "ArrayTextModel", name := "runs", desc := "()I" } : Jvm.MethodName)) ∈ lw_all := qm 808 (by decide +kernel) (by decide +kernel)
theorem q809 : (Jvm.Cond.instanceMethod ({ cls := "ArrayTextModel", name := "runs", desc := "()I" } : Jvm.MethodName)) ∈ lw_all := qm 809 (by decide +kernel) (by decide +kernel)
theorem q810 : (Jvm.Cond.selects "ArrayTextModel" ({ cls := "ArrayTextModel", name := "runs", desc := "()I" } : Jvm.MethodName) ({ cls := "ArrayTextModel", name := "runs", desc := "()I" } : Jvm.MethodName)) ∈ lw_all := qm 810 (by decide +kernel) (by decide +kernel)
theorem q811 : (Jvm.Cond.code ({ cls := "ArrayTextModel", name := "runs", desc := "()I" } : Jvm.MethodName) prog_11_method_38_code (1 : Nat) (Option.some Jvm.ClassFile.FieldType.int)) ∈ lw_all := qm 811 (by decide +kernel) (by decide +kernel)
theorem q812 : (Jvm.Cond.constantLong "ArrayTextLaw" (31 : Nat) (4294967295 : Int64)) ∈ lw_all := qm 812 (by decide +kernel) (by decide +kernel)
theorem q813 : (Jvm.Cond.constantDouble "ArrayTextLaw" (42 : Nat) (4593671619917905920 : UInt64)) ∈ lw_all := qm 813 (by decide +kernel) (by decide +kernel)
theorem q814 : (Jvm.Cond.arrayClass Jvm.ClassFile.FieldType.long) ∈ lw_all := qm 814 (by decide +kernel) (by decide +kernel)
theorem qs0 : Jvm.Cond.selects "java/lang/Throwable" (⟨"java/lang/Throwable", "fillInStackTrace", "(I)Ljava/lang/Throwable;"⟩ : Jvm.MethodName) ⟨"java/lang/Throwable", "fillInStackTrace", "(I)Ljava/lang/Throwable;"⟩ ∈ lw_all := qp 0 (by decide +kernel) (by decide +kernel)
theorem qs1 : Jvm.Cond.selects "ArrayTextModel" (⟨"ArrayTextModel", "has", "(II)Z"⟩ : Jvm.MethodName) ⟨"ArrayTextModel", "has", "(II)Z"⟩ ∈ lw_all := qp 1 (by decide +kernel) (by decide +kernel)
theorem qs2 : Jvm.Cond.selects "ArrayTextModel" (⟨"ArrayTextModel", "work", "()I"⟩ : Jvm.MethodName) ⟨"ArrayTextModel", "work", "()I"⟩ ∈ lw_all := qp 2 (by decide +kernel) (by decide +kernel)
theorem qs3 : Jvm.Cond.selects "ArrayTextModel" (⟨"ArrayTextModel", "cut", "()Z"⟩ : Jvm.MethodName) ⟨"ArrayTextModel", "cut", "()Z"⟩ ∈ lw_all := qp 3 (by decide +kernel) (by decide +kernel)
theorem qs4 : Jvm.Cond.selects "ArrayTextModel" (⟨"ArrayTextModel", "charAt", "(I)I"⟩ : Jvm.MethodName) ⟨"ArrayTextModel", "charAt", "(I)I"⟩ ∈ lw_all := qp 4 (by decide +kernel) (by decide +kernel)
theorem qs5 : Jvm.Cond.selects "ArrayTextModel" (⟨"ArrayTextModel", "keep", "(III)V"⟩ : Jvm.MethodName) ⟨"ArrayTextModel", "keep", "(III)V"⟩ ∈ lw_all := qp 5 (by decide +kernel) (by decide +kernel)
theorem qs6 : Jvm.Cond.selects "ArrayTextModel" (⟨"ArrayTextModel", "number", "(I)I"⟩ : Jvm.MethodName) ⟨"ArrayTextModel", "number", "(I)I"⟩ ∈ lw_all := qp 6 (by decide +kernel) (by decide +kernel)
theorem qs7 : Jvm.Cond.selects "ArrayTextModel" (⟨"ArrayTextModel", "constant", "(I)I"⟩ : Jvm.MethodName) ⟨"ArrayTextModel", "constant", "(I)I"⟩ ∈ lw_all := qp 7 (by decide +kernel) (by decide +kernel)
theorem qs8 : Jvm.Cond.selects "ArrayTextModel" (⟨"ArrayTextModel", "front", "(I)V"⟩ : Jvm.MethodName) ⟨"ArrayTextModel", "front", "(I)V"⟩ ∈ lw_all := qp 8 (by decide +kernel) (by decide +kernel)
theorem qs9 : Jvm.Cond.selects "ArrayTextModel" (⟨"ArrayTextModel", "turn", "()V"⟩ : Jvm.MethodName) ⟨"ArrayTextModel", "turn", "()V"⟩ ∈ lw_all := qp 9 (by decide +kernel) (by decide +kernel)
theorem qs10 : Jvm.Cond.selects "ArrayTextModel" (⟨"ArrayTextModel", "along", "(IZ)V"⟩ : Jvm.MethodName) ⟨"ArrayTextModel", "along", "(IZ)V"⟩ ∈ lw_all := qp 10 (by decide +kernel) (by decide +kernel)
theorem qs11 : Jvm.Cond.selects "ArrayTextModel" (⟨"ArrayTextModel", "check", "(D)V"⟩ : Jvm.MethodName) ⟨"ArrayTextModel", "check", "(D)V"⟩ ∈ lw_all := qp 11 (by decide +kernel) (by decide +kernel)
theorem qs12 : Jvm.Cond.selects "ArrayTextModel" (⟨"ArrayTextModel", "load", "(I)V"⟩ : Jvm.MethodName) ⟨"ArrayTextModel", "load", "(I)V"⟩ ∈ lw_all := qp 12 (by decide +kernel) (by decide +kernel)
theorem qs13 : Jvm.Cond.selects "ArrayTextModel" (⟨"ArrayTextModel", "deliver", "(I)V"⟩ : Jvm.MethodName) ⟨"ArrayTextModel", "deliver", "(I)V"⟩ ∈ lw_all := qp 13 (by decide +kernel) (by decide +kernel)
theorem qs14 : Jvm.Cond.selects "ArrayTextModel" (⟨"ArrayTextModel", "append", "(I)V"⟩ : Jvm.MethodName) ⟨"ArrayTextModel", "append", "(I)V"⟩ ∈ lw_all := qp 14 (by decide +kernel) (by decide +kernel)
theorem qs15 : Jvm.Cond.selects "ArrayTextModel" (⟨"ArrayTextModel", "shapeAnew", "(I)V"⟩ : Jvm.MethodName) ⟨"ArrayTextModel", "shapeAnew", "(I)V"⟩ ∈ lw_all := qp 15 (by decide +kernel) (by decide +kernel)
theorem qs16 : Jvm.Cond.selects "ArrayTextModel" (⟨"ArrayTextModel", "pairs", "(II)V"⟩ : Jvm.MethodName) ⟨"ArrayTextModel", "pairs", "(II)V"⟩ ∈ lw_all := qp 16 (by decide +kernel) (by decide +kernel)
end
section
theorem dL_run_0 : decode cL_run 0 = .ok (.aload_n 2, 1) := by decide +kernel
theorem dL_run_1 : decode cL_run 1 = .ok (.iconst 0, 1) := by decide +kernel
theorem dL_run_2 : decode cL_run 2 = .ok (.aload_n 0, 1) := by decide +kernel
theorem dL_run_3 : decode cL_run 3 = .ok (.iload_n 1, 1) := by decide +kernel
theorem dL_run_4 : decode cL_run 4 = .ok (.invokevirtual 7, 3) := by decide +kernel
theorem dL_run_7 : decode cL_run 7 = .ok (.i2l, 1) := by decide +kernel
theorem dL_run_8 : decode cL_run 8 = .ok (.lastore, 1) := by decide +kernel
theorem dL_run_9 : decode cL_run 9 = .ok (.goto 18, 3) := by decide +kernel
theorem dL_run_12 : decode cL_run 12 = .ok (.astore_n 3, 1) := by decide +kernel
theorem dL_run_13 : decode cL_run 13 = .ok (.iconst 1, 1) := by decide +kernel
theorem dL_run_14 : decode cL_run 14 = .ok (.ireturn, 1) := by decide +kernel
theorem dL_run_15 : decode cL_run 15 = .ok (.astore_n 3, 1) := by decide +kernel
theorem dL_run_16 : decode cL_run 16 = .ok (.iconst 2, 1) := by decide +kernel
theorem dL_run_17 : decode cL_run 17 = .ok (.ireturn, 1) := by decide +kernel
theorem dL_run_18 : decode cL_run 18 = .ok (.astore_n 3, 1) := by decide +kernel
theorem dL_run_19 : decode cL_run 19 = .ok (.iconst 3, 1) := by decide +kernel
theorem dL_run_20 : decode cL_run 20 = .ok (.ireturn, 1) := by decide +kernel
theorem dL_run_21 : decode cL_run 21 = .ok (.astore_n 3, 1) := by decide +kernel
theorem dL_run_22 : decode cL_run 22 = .ok (.iconst 4, 1) := by decide +kernel
theorem dL_run_23 : decode cL_run 23 = .ok (.ireturn, 1) := by decide +kernel
theorem dL_run_24 : decode cL_run 24 = .ok (.astore_n 3, 1) := by decide +kernel
theorem dL_run_25 : decode cL_run 25 = .ok (.iconst 5, 1) := by decide +kernel
theorem dL_run_26 : decode cL_run 26 = .ok (.ireturn, 1) := by decide +kernel
theorem dL_run_27 : decode cL_run 27 = .ok (.iconst 0, 1) := by decide +kernel
theorem dL_run_28 : decode cL_run 28 = .ok (.ireturn, 1) := by decide +kernel
theorem dL_look_0 : decode cL_look 0 = .ok (.aload_n 1, 1) := by decide +kernel
theorem dL_look_1 : decode cL_look 1 = .ok (.iconst 0, 1) := by decide +kernel
theorem dL_look_2 : decode cL_look 2 = .ok (.aload_n 0, 1) := by decide +kernel
theorem dL_look_3 : decode cL_look 3 = .ok (.invokevirtual 23, 3) := by decide +kernel
theorem dL_look_6 : decode cL_look 6 = .ok (.i2l, 1) := by decide +kernel
theorem dL_look_7 : decode cL_look 7 = .ok (.lastore, 1) := by decide +kernel
theorem dL_look_8 : decode cL_look 8 = .ok (.goto 12, 3) := by decide +kernel
theorem dL_look_11 : decode cL_look 11 = .ok (.astore_n 2, 1) := by decide +kernel
theorem dL_look_12 : decode cL_look 12 = .ok (.iconst 1, 1) := by decide +kernel
theorem dL_look_13 : decode cL_look 13 = .ok (.ireturn, 1) := by decide +kernel
theorem dL_look_14 : decode cL_look 14 = .ok (.astore_n 2, 1) := by decide +kernel
theorem dL_look_15 : decode cL_look 15 = .ok (.iconst 2, 1) := by decide +kernel
theorem dL_look_16 : decode cL_look 16 = .ok (.ireturn, 1) := by decide +kernel
theorem dL_look_17 : decode cL_look 17 = .ok (.astore_n 2, 1) := by decide +kernel
theorem dL_look_18 : decode cL_look 18 = .ok (.iconst 3, 1) := by decide +kernel
theorem dL_look_19 : decode cL_look 19 = .ok (.ireturn, 1) := by decide +kernel
theorem dL_look_20 : decode cL_look 20 = .ok (.iconst 0, 1) := by decide +kernel
theorem dL_look_21 : decode cL_look 21 = .ok (.ireturn, 1) := by decide +kernel
theorem dL_law_0 : decode cL_law 0 = .ok (.new 8, 3) := by decide +kernel
theorem dL_law_3 : decode cL_law 3 = .ok (.dup, 1) := by decide +kernel
theorem dL_law_4 : decode cL_law 4 = .ok (.invokespecial 27, 3) := by decide +kernel
theorem dL_law_7 : decode cL_law 7 = .ok (.astore_n 1, 1) := by decide +kernel
theorem dL_law_8 : decode cL_law 8 = .ok (.new 28, 3) := by decide +kernel
theorem dL_law_11 : decode cL_law 11 = .ok (.dup, 1) := by decide +kernel
theorem dL_law_12 : decode cL_law 12 = .ok (.invokespecial 30, 3) := by decide +kernel
theorem dL_law_15 : decode cL_law 15 = .ok (.astore_n 2, 1) := by decide +kernel
theorem dL_law_16 : decode cL_law 16 = .ok (.iconst 1, 1) := by decide +kernel
theorem dL_law_17 : decode cL_law 17 = .ok (.newarray .long, 2) := by decide +kernel
theorem dL_law_19 : decode cL_law 19 = .ok (.astore_n 3, 1) := by decide +kernel
theorem dL_law_20 : decode cL_law 20 = .ok (.iconst 0, 1) := by decide +kernel
theorem dL_law_21 : decode cL_law 21 = .ok (.istore 4, 2) := by decide +kernel
theorem dL_law_23 : decode cL_law 23 = .ok (.iload 4, 2) := by decide +kernel
theorem dL_law_25 : decode cL_law 25 = .ok (.aload_n 0, 1) := by decide +kernel
theorem dL_law_26 : decode cL_law 26 = .ok (.arraylength, 1) := by decide +kernel
theorem dL_law_27 : decode cL_law 27 = .ok (.iconst 4, 1) := by decide +kernel
theorem dL_law_28 : decode cL_law 28 = .ok (.isub, 1) := by decide +kernel
theorem dL_law_29 : decode cL_law 29 = .ok (.if_icmp .gt 531, 3) := by decide +kernel
theorem dL_law_32 : decode cL_law 32 = .ok (.aload_n 0, 1) := by decide +kernel
theorem dL_law_33 : decode cL_law 33 = .ok (.iload 4, 2) := by decide +kernel
theorem dL_law_35 : decode cL_law 35 = .ok (.iaload, 1) := by decide +kernel
theorem dL_law_36 : decode cL_law 36 = .ok (.bipush 15, 2) := by decide +kernel
theorem dL_law_38 : decode cL_law 38 = .ok (.iand, 1) := by decide +kernel
theorem dL_law_39 : decode cL_law 39 = .ok (.tableswitch 515 0 11 #[61, 118, 131, 178, 215, 274, 299, 324, 389, 445, 489, 502], 61) := by decide +kernel
theorem dL_law_100 : decode cL_law 100 = .ok (.aload_n 1, 1) := by decide +kernel
theorem dL_law_101 : decode cL_law 101 = .ok (.aload_n 0, 1) := by decide +kernel
theorem dL_law_102 : decode cL_law 102 = .ok (.iload 4, 2) := by decide +kernel
theorem dL_law_104 : decode cL_law 104 = .ok (.iconst 1, 1) := by decide +kernel
theorem dL_law_105 : decode cL_law 105 = .ok (.iadd, 1) := by decide +kernel
theorem dL_law_106 : decode cL_law 106 = .ok (.iaload, 1) := by decide +kernel
theorem dL_law_107 : decode cL_law 107 = .ok (.i2l, 1) := by decide +kernel
theorem dL_law_108 : decode cL_law 108 = .ok (.bipush 32, 2) := by decide +kernel
theorem dL_law_110 : decode cL_law 110 = .ok (.lshl, 1) := by decide +kernel
theorem dL_law_111 : decode cL_law 111 = .ok (.aload_n 0, 1) := by decide +kernel
theorem dL_law_112 : decode cL_law 112 = .ok (.iload 4, 2) := by decide +kernel
theorem dL_law_114 : decode cL_law 114 = .ok (.iconst 2, 1) := by decide +kernel
theorem dL_law_115 : decode cL_law 115 = .ok (.iadd, 1) := by decide +kernel
theorem dL_law_116 : decode cL_law 116 = .ok (.iaload, 1) := by decide +kernel
theorem dL_law_117 : decode cL_law 117 = .ok (.i2l, 1) := by decide +kernel
theorem dL_law_118 : decode cL_law 118 = .ok (.ldc2_w 31, 3) := by decide +kernel
theorem dL_law_121 : decode cL_law 121 = .ok (.land, 1) := by decide +kernel
theorem dL_law_122 : decode cL_law 122 = .ok (.lor, 1) := by decide +kernel
theorem dL_law_123 : decode cL_law 123 = .ok (.invokevirtual 33, 3) := by decide +kernel
theorem dL_law_126 : decode cL_law 126 = .ok (.aload_n 2, 1) := by decide +kernel
theorem dL_law_127 : decode cL_law 127 = .ok (.aload_n 0, 1) := by decide +kernel
theorem dL_law_128 : decode cL_law 128 = .ok (.iload 4, 2) := by decide +kernel
theorem dL_law_130 : decode cL_law 130 = .ok (.iconst 1, 1) := by decide +kernel
theorem dL_law_131 : decode cL_law 131 = .ok (.iadd, 1) := by decide +kernel
theorem dL_law_132 : decode cL_law 132 = .ok (.iaload, 1) := by decide +kernel
theorem dL_law_133 : decode cL_law 133 = .ok (.i2l, 1) := by decide +kernel
theorem dL_law_134 : decode cL_law 134 = .ok (.bipush 32, 2) := by decide +kernel
theorem dL_law_136 : decode cL_law 136 = .ok (.lshl, 1) := by decide +kernel
theorem dL_law_137 : decode cL_law 137 = .ok (.aload_n 0, 1) := by decide +kernel
theorem dL_law_138 : decode cL_law 138 = .ok (.iload 4, 2) := by decide +kernel
theorem dL_law_140 : decode cL_law 140 = .ok (.iconst 2, 1) := by decide +kernel
theorem dL_law_141 : decode cL_law 141 = .ok (.iadd, 1) := by decide +kernel
theorem dL_law_142 : decode cL_law 142 = .ok (.iaload, 1) := by decide +kernel
theorem dL_law_143 : decode cL_law 143 = .ok (.i2l, 1) := by decide +kernel
theorem dL_law_144 : decode cL_law 144 = .ok (.ldc2_w 31, 3) := by decide +kernel
theorem dL_law_147 : decode cL_law 147 = .ok (.land, 1) := by decide +kernel
theorem dL_law_148 : decode cL_law 148 = .ok (.lor, 1) := by decide +kernel
theorem dL_law_149 : decode cL_law 149 = .ok (.invokevirtual 37, 3) := by decide +kernel
theorem dL_law_152 : decode cL_law 152 = .ok (.if_icmp .eq 402, 3) := by decide +kernel
theorem dL_law_155 : decode cL_law 155 = .ok (.iconst 0, 1) := by decide +kernel
theorem dL_law_156 : decode cL_law 156 = .ok (.ireturn, 1) := by decide +kernel
theorem dL_law_157 : decode cL_law 157 = .ok (.aload_n 1, 1) := by decide +kernel
theorem dL_law_158 : decode cL_law 158 = .ok (.invokevirtual 38, 3) := by decide +kernel
theorem dL_law_161 : decode cL_law 161 = .ok (.aload_n 2, 1) := by decide +kernel
theorem dL_law_162 : decode cL_law 162 = .ok (.invokevirtual 41, 3) := by decide +kernel
theorem dL_law_165 : decode cL_law 165 = .ok (.if_icmp .eq 389, 3) := by decide +kernel
theorem dL_law_168 : decode cL_law 168 = .ok (.iconst 0, 1) := by decide +kernel
theorem dL_law_169 : decode cL_law 169 = .ok (.ireturn, 1) := by decide +kernel
theorem dL_law_170 : decode cL_law 170 = .ok (.aload_n 1, 1) := by decide +kernel
theorem dL_law_171 : decode cL_law 171 = .ok (.aload_n 0, 1) := by decide +kernel
theorem dL_law_172 : decode cL_law 172 = .ok (.iload 4, 2) := by decide +kernel
theorem dL_law_174 : decode cL_law 174 = .ok (.iconst 1, 1) := by decide +kernel
theorem dL_law_175 : decode cL_law 175 = .ok (.iadd, 1) := by decide +kernel
theorem dL_law_176 : decode cL_law 176 = .ok (.iaload, 1) := by decide +kernel
theorem dL_law_177 : decode cL_law 177 = .ok (.aload_n 0, 1) := by decide +kernel
theorem dL_law_178 : decode cL_law 178 = .ok (.iload 4, 2) := by decide +kernel
theorem dL_law_180 : decode cL_law 180 = .ok (.iconst 2, 1) := by decide +kernel
theorem dL_law_181 : decode cL_law 181 = .ok (.iadd, 1) := by decide +kernel
theorem dL_law_182 : decode cL_law 182 = .ok (.iaload, 1) := by decide +kernel
theorem dL_law_183 : decode cL_law 183 = .ok (.i2d, 1) := by decide +kernel
theorem dL_law_184 : decode cL_law 184 = .ok (.ldc2_w 42, 3) := by decide +kernel
theorem dL_law_187 : decode cL_law 187 = .ok (.dmul, 1) := by decide +kernel
theorem dL_law_188 : decode cL_law 188 = .ok (.invokevirtual 44, 3) := by decide +kernel
theorem dL_law_191 : decode cL_law 191 = .ok (.aload_n 2, 1) := by decide +kernel
theorem dL_law_192 : decode cL_law 192 = .ok (.aload_n 0, 1) := by decide +kernel
theorem dL_law_193 : decode cL_law 193 = .ok (.iload 4, 2) := by decide +kernel
theorem dL_law_195 : decode cL_law 195 = .ok (.iconst 1, 1) := by decide +kernel
theorem dL_law_196 : decode cL_law 196 = .ok (.iadd, 1) := by decide +kernel
theorem dL_law_197 : decode cL_law 197 = .ok (.iaload, 1) := by decide +kernel
theorem dL_law_198 : decode cL_law 198 = .ok (.aload_n 0, 1) := by decide +kernel
theorem dL_law_199 : decode cL_law 199 = .ok (.iload 4, 2) := by decide +kernel
theorem dL_law_201 : decode cL_law 201 = .ok (.iconst 2, 1) := by decide +kernel
theorem dL_law_202 : decode cL_law 202 = .ok (.iadd, 1) := by decide +kernel
theorem dL_law_203 : decode cL_law 203 = .ok (.iaload, 1) := by decide +kernel
theorem dL_law_204 : decode cL_law 204 = .ok (.i2d, 1) := by decide +kernel
theorem dL_law_205 : decode cL_law 205 = .ok (.ldc2_w 42, 3) := by decide +kernel
theorem dL_law_208 : decode cL_law 208 = .ok (.dmul, 1) := by decide +kernel
theorem dL_law_209 : decode cL_law 209 = .ok (.invokevirtual 48, 3) := by decide +kernel
theorem dL_law_212 : decode cL_law 212 = .ok (.if_icmp .eq 342, 3) := by decide +kernel
theorem dL_law_215 : decode cL_law 215 = .ok (.iconst 0, 1) := by decide +kernel
theorem dL_law_216 : decode cL_law 216 = .ok (.ireturn, 1) := by decide +kernel
theorem dL_law_217 : decode cL_law 217 = .ok (.aload_n 1, 1) := by decide +kernel
theorem dL_law_218 : decode cL_law 218 = .ok (.aload_n 0, 1) := by decide +kernel
theorem dL_law_219 : decode cL_law 219 = .ok (.iload 4, 2) := by decide +kernel
theorem dL_law_221 : decode cL_law 221 = .ok (.iconst 1, 1) := by decide +kernel
theorem dL_law_222 : decode cL_law 222 = .ok (.iadd, 1) := by decide +kernel
theorem dL_law_223 : decode cL_law 223 = .ok (.iaload, 1) := by decide +kernel
theorem dL_law_224 : decode cL_law 224 = .ok (.aload_n 0, 1) := by decide +kernel
theorem dL_law_225 : decode cL_law 225 = .ok (.iload 4, 2) := by decide +kernel
theorem dL_law_227 : decode cL_law 227 = .ok (.iconst 2, 1) := by decide +kernel
theorem dL_law_228 : decode cL_law 228 = .ok (.iadd, 1) := by decide +kernel
theorem dL_law_229 : decode cL_law 229 = .ok (.iaload, 1) := by decide +kernel
theorem dL_law_230 : decode cL_law 230 = .ok (.invokevirtual 49, 3) := by decide +kernel
theorem dL_law_233 : decode cL_law 233 = .ok (.aload_n 2, 1) := by decide +kernel
theorem dL_law_234 : decode cL_law 234 = .ok (.aload_n 0, 1) := by decide +kernel
theorem dL_law_235 : decode cL_law 235 = .ok (.iload 4, 2) := by decide +kernel
theorem dL_law_237 : decode cL_law 237 = .ok (.iconst 1, 1) := by decide +kernel
theorem dL_law_238 : decode cL_law 238 = .ok (.iadd, 1) := by decide +kernel
theorem dL_law_239 : decode cL_law 239 = .ok (.iaload, 1) := by decide +kernel
theorem dL_law_240 : decode cL_law 240 = .ok (.aload_n 0, 1) := by decide +kernel
theorem dL_law_241 : decode cL_law 241 = .ok (.iload 4, 2) := by decide +kernel
theorem dL_law_243 : decode cL_law 243 = .ok (.iconst 2, 1) := by decide +kernel
theorem dL_law_244 : decode cL_law 244 = .ok (.iadd, 1) := by decide +kernel
theorem dL_law_245 : decode cL_law 245 = .ok (.iaload, 1) := by decide +kernel
theorem dL_law_246 : decode cL_law 246 = .ok (.invokevirtual 53, 3) := by decide +kernel
theorem dL_law_249 : decode cL_law 249 = .ok (.if_icmp .eq 305, 3) := by decide +kernel
theorem dL_law_252 : decode cL_law 252 = .ok (.iconst 0, 1) := by decide +kernel
theorem dL_law_253 : decode cL_law 253 = .ok (.ireturn, 1) := by decide +kernel
theorem dL_law_254 : decode cL_law 254 = .ok (.aload_n 1, 1) := by decide +kernel
theorem dL_law_255 : decode cL_law 255 = .ok (.aload_n 0, 1) := by decide +kernel
theorem dL_law_256 : decode cL_law 256 = .ok (.iload 4, 2) := by decide +kernel
theorem dL_law_258 : decode cL_law 258 = .ok (.iconst 1, 1) := by decide +kernel
theorem dL_law_259 : decode cL_law 259 = .ok (.iadd, 1) := by decide +kernel
theorem dL_law_260 : decode cL_law 260 = .ok (.iaload, 1) := by decide +kernel
theorem dL_law_261 : decode cL_law 261 = .ok (.aload_n 0, 1) := by decide +kernel
theorem dL_law_262 : decode cL_law 262 = .ok (.iload 4, 2) := by decide +kernel
theorem dL_law_264 : decode cL_law 264 = .ok (.iconst 2, 1) := by decide +kernel
theorem dL_law_265 : decode cL_law 265 = .ok (.iadd, 1) := by decide +kernel
theorem dL_law_266 : decode cL_law 266 = .ok (.iaload, 1) := by decide +kernel
theorem dL_law_267 : decode cL_law 267 = .ok (.aload_n 0, 1) := by decide +kernel
theorem dL_law_268 : decode cL_law 268 = .ok (.iload 4, 2) := by decide +kernel
theorem dL_law_270 : decode cL_law 270 = .ok (.iconst 3, 1) := by decide +kernel
theorem dL_law_271 : decode cL_law 271 = .ok (.iadd, 1) := by decide +kernel
theorem dL_law_272 : decode cL_law 272 = .ok (.iaload, 1) := by decide +kernel
theorem dL_law_273 : decode cL_law 273 = .ok (.i2d, 1) := by decide +kernel
theorem dL_law_274 : decode cL_law 274 = .ok (.ldc2_w 42, 3) := by decide +kernel
theorem dL_law_277 : decode cL_law 277 = .ok (.dmul, 1) := by decide +kernel
theorem dL_law_278 : decode cL_law 278 = .ok (.invokevirtual 54, 3) := by decide +kernel
theorem dL_law_281 : decode cL_law 281 = .ok (.aload_n 2, 1) := by decide +kernel
theorem dL_law_282 : decode cL_law 282 = .ok (.aload_n 0, 1) := by decide +kernel
theorem dL_law_283 : decode cL_law 283 = .ok (.iload 4, 2) := by decide +kernel
theorem dL_law_285 : decode cL_law 285 = .ok (.iconst 1, 1) := by decide +kernel
theorem dL_law_286 : decode cL_law 286 = .ok (.iadd, 1) := by decide +kernel
theorem dL_law_287 : decode cL_law 287 = .ok (.iaload, 1) := by decide +kernel
theorem dL_law_288 : decode cL_law 288 = .ok (.aload_n 0, 1) := by decide +kernel
theorem dL_law_289 : decode cL_law 289 = .ok (.iload 4, 2) := by decide +kernel
theorem dL_law_291 : decode cL_law 291 = .ok (.iconst 2, 1) := by decide +kernel
theorem dL_law_292 : decode cL_law 292 = .ok (.iadd, 1) := by decide +kernel
theorem dL_law_293 : decode cL_law 293 = .ok (.iaload, 1) := by decide +kernel
theorem dL_law_294 : decode cL_law 294 = .ok (.aload_n 0, 1) := by decide +kernel
theorem dL_law_295 : decode cL_law 295 = .ok (.iload 4, 2) := by decide +kernel
theorem dL_law_297 : decode cL_law 297 = .ok (.iconst 3, 1) := by decide +kernel
theorem dL_law_298 : decode cL_law 298 = .ok (.iadd, 1) := by decide +kernel
theorem dL_law_299 : decode cL_law 299 = .ok (.iaload, 1) := by decide +kernel
theorem dL_law_300 : decode cL_law 300 = .ok (.i2d, 1) := by decide +kernel
theorem dL_law_301 : decode cL_law 301 = .ok (.ldc2_w 42, 3) := by decide +kernel
theorem dL_law_304 : decode cL_law 304 = .ok (.dmul, 1) := by decide +kernel
theorem dL_law_305 : decode cL_law 305 = .ok (.invokevirtual 58, 3) := by decide +kernel
theorem dL_law_308 : decode cL_law 308 = .ok (.if_icmp .eq 246, 3) := by decide +kernel
theorem dL_law_311 : decode cL_law 311 = .ok (.iconst 0, 1) := by decide +kernel
theorem dL_law_312 : decode cL_law 312 = .ok (.ireturn, 1) := by decide +kernel
theorem dL_law_313 : decode cL_law 313 = .ok (.aload_n 1, 1) := by decide +kernel
theorem dL_law_314 : decode cL_law 314 = .ok (.aload_n 0, 1) := by decide +kernel
theorem dL_law_315 : decode cL_law 315 = .ok (.iload 4, 2) := by decide +kernel
theorem dL_law_317 : decode cL_law 317 = .ok (.iconst 1, 1) := by decide +kernel
theorem dL_law_318 : decode cL_law 318 = .ok (.iadd, 1) := by decide +kernel
theorem dL_law_319 : decode cL_law 319 = .ok (.iaload, 1) := by decide +kernel
theorem dL_law_320 : decode cL_law 320 = .ok (.invokevirtual 59, 3) := by decide +kernel
theorem dL_law_323 : decode cL_law 323 = .ok (.aload_n 2, 1) := by decide +kernel
theorem dL_law_324 : decode cL_law 324 = .ok (.aload_n 0, 1) := by decide +kernel
theorem dL_law_325 : decode cL_law 325 = .ok (.iload 4, 2) := by decide +kernel
theorem dL_law_327 : decode cL_law 327 = .ok (.iconst 1, 1) := by decide +kernel
theorem dL_law_328 : decode cL_law 328 = .ok (.iadd, 1) := by decide +kernel
theorem dL_law_329 : decode cL_law 329 = .ok (.iaload, 1) := by decide +kernel
theorem dL_law_330 : decode cL_law 330 = .ok (.invokevirtual 62, 3) := by decide +kernel
theorem dL_law_333 : decode cL_law 333 = .ok (.if_icmp .eq 221, 3) := by decide +kernel
theorem dL_law_336 : decode cL_law 336 = .ok (.iconst 0, 1) := by decide +kernel
theorem dL_law_337 : decode cL_law 337 = .ok (.ireturn, 1) := by decide +kernel
theorem dL_law_338 : decode cL_law 338 = .ok (.aload_n 1, 1) := by decide +kernel
theorem dL_law_339 : decode cL_law 339 = .ok (.aload_n 0, 1) := by decide +kernel
theorem dL_law_340 : decode cL_law 340 = .ok (.iload 4, 2) := by decide +kernel
theorem dL_law_342 : decode cL_law 342 = .ok (.iconst 1, 1) := by decide +kernel
theorem dL_law_343 : decode cL_law 343 = .ok (.iadd, 1) := by decide +kernel
theorem dL_law_344 : decode cL_law 344 = .ok (.iaload, 1) := by decide +kernel
theorem dL_law_345 : decode cL_law 345 = .ok (.invokevirtual 63, 3) := by decide +kernel
theorem dL_law_348 : decode cL_law 348 = .ok (.aload_n 2, 1) := by decide +kernel
theorem dL_law_349 : decode cL_law 349 = .ok (.aload_n 0, 1) := by decide +kernel
theorem dL_law_350 : decode cL_law 350 = .ok (.iload 4, 2) := by decide +kernel
theorem dL_law_352 : decode cL_law 352 = .ok (.iconst 1, 1) := by decide +kernel
theorem dL_law_353 : decode cL_law 353 = .ok (.iadd, 1) := by decide +kernel
theorem dL_law_354 : decode cL_law 354 = .ok (.iaload, 1) := by decide +kernel
theorem dL_law_355 : decode cL_law 355 = .ok (.invokevirtual 66, 3) := by decide +kernel
theorem dL_law_358 : decode cL_law 358 = .ok (.if_icmp .eq 196, 3) := by decide +kernel
theorem dL_law_361 : decode cL_law 361 = .ok (.iconst 0, 1) := by decide +kernel
theorem dL_law_362 : decode cL_law 362 = .ok (.ireturn, 1) := by decide +kernel
theorem dL_law_363 : decode cL_law 363 = .ok (.aload_n 1, 1) := by decide +kernel
theorem dL_law_364 : decode cL_law 364 = .ok (.aload_n 0, 1) := by decide +kernel
theorem dL_law_365 : decode cL_law 365 = .ok (.iload 4, 2) := by decide +kernel
theorem dL_law_367 : decode cL_law 367 = .ok (.iconst 1, 1) := by decide +kernel
theorem dL_law_368 : decode cL_law 368 = .ok (.iadd, 1) := by decide +kernel
theorem dL_law_369 : decode cL_law 369 = .ok (.iaload, 1) := by decide +kernel
theorem dL_law_370 : decode cL_law 370 = .ok (.aload_n 0, 1) := by decide +kernel
theorem dL_law_371 : decode cL_law 371 = .ok (.iload 4, 2) := by decide +kernel
theorem dL_law_373 : decode cL_law 373 = .ok (.iconst 2, 1) := by decide +kernel
theorem dL_law_374 : decode cL_law 374 = .ok (.iadd, 1) := by decide +kernel
theorem dL_law_375 : decode cL_law 375 = .ok (.iaload, 1) := by decide +kernel
theorem dL_law_376 : decode cL_law 376 = .ok (.invokevirtual 67, 3) := by decide +kernel
theorem dL_law_379 : decode cL_law 379 = .ok (.dstore 5, 2) := by decide +kernel
theorem dL_law_381 : decode cL_law 381 = .ok (.aload_n 2, 1) := by decide +kernel
theorem dL_law_382 : decode cL_law 382 = .ok (.aload_n 0, 1) := by decide +kernel
theorem dL_law_383 : decode cL_law 383 = .ok (.iload 4, 2) := by decide +kernel
theorem dL_law_385 : decode cL_law 385 = .ok (.iconst 1, 1) := by decide +kernel
theorem dL_law_386 : decode cL_law 386 = .ok (.iadd, 1) := by decide +kernel
theorem dL_law_387 : decode cL_law 387 = .ok (.iaload, 1) := by decide +kernel
theorem dL_law_388 : decode cL_law 388 = .ok (.aload_n 0, 1) := by decide +kernel
theorem dL_law_389 : decode cL_law 389 = .ok (.iload 4, 2) := by decide +kernel
theorem dL_law_391 : decode cL_law 391 = .ok (.iconst 2, 1) := by decide +kernel
theorem dL_law_392 : decode cL_law 392 = .ok (.iadd, 1) := by decide +kernel
theorem dL_law_393 : decode cL_law 393 = .ok (.iaload, 1) := by decide +kernel
theorem dL_law_394 : decode cL_law 394 = .ok (.invokevirtual 71, 3) := by decide +kernel
theorem dL_law_397 : decode cL_law 397 = .ok (.dstore 7, 2) := by decide +kernel
theorem dL_law_399 : decode cL_law 399 = .ok (.dload 5, 2) := by decide +kernel
theorem dL_law_401 : decode cL_law 401 = .ok (.dload 7, 2) := by decide +kernel
theorem dL_law_403 : decode cL_law 403 = .ok (.dcmp .l, 1) := by decide +kernel
theorem dL_law_404 : decode cL_law 404 = .ok (.ifCond .eq 21, 3) := by decide +kernel
theorem dL_law_407 : decode cL_law 407 = .ok (.dload 5, 2) := by decide +kernel
theorem dL_law_409 : decode cL_law 409 = .ok (.dload 5, 2) := by decide +kernel
theorem dL_law_411 : decode cL_law 411 = .ok (.dcmp .l, 1) := by decide +kernel
theorem dL_law_412 : decode cL_law 412 = .ok (.ifCond .eq 11, 3) := by decide +kernel
theorem dL_law_415 : decode cL_law 415 = .ok (.dload 7, 2) := by decide +kernel
theorem dL_law_417 : decode cL_law 417 = .ok (.dload 7, 2) := by decide +kernel
theorem dL_law_419 : decode cL_law 419 = .ok (.dcmp .l, 1) := by decide +kernel
theorem dL_law_420 : decode cL_law 420 = .ok (.ifCond .ne 5, 3) := by decide +kernel
theorem dL_law_423 : decode cL_law 423 = .ok (.iconst 0, 1) := by decide +kernel
theorem dL_law_424 : decode cL_law 424 = .ok (.ireturn, 1) := by decide +kernel
theorem dL_law_425 : decode cL_law 425 = .ok (.goto 129, 3) := by decide +kernel
theorem dL_law_428 : decode cL_law 428 = .ok (.aload_n 1, 1) := by decide +kernel
theorem dL_law_429 : decode cL_law 429 = .ok (.aload_n 0, 1) := by decide +kernel
theorem dL_law_430 : decode cL_law 430 = .ok (.iload 4, 2) := by decide +kernel
theorem dL_law_432 : decode cL_law 432 = .ok (.iconst 1, 1) := by decide +kernel
theorem dL_law_433 : decode cL_law 433 = .ok (.iadd, 1) := by decide +kernel
theorem dL_law_434 : decode cL_law 434 = .ok (.iaload, 1) := by decide +kernel
theorem dL_law_435 : decode cL_law 435 = .ok (.aload_n 3, 1) := by decide +kernel
theorem dL_law_436 : decode cL_law 436 = .ok (.invokestatic 72, 3) := by decide +kernel
theorem dL_law_439 : decode cL_law 439 = .ok (.istore 5, 2) := by decide +kernel
theorem dL_law_441 : decode cL_law 441 = .ok (.aload_n 2, 1) := by decide +kernel
theorem dL_law_442 : decode cL_law 442 = .ok (.aload_n 0, 1) := by decide +kernel
theorem dL_law_443 : decode cL_law 443 = .ok (.iload 4, 2) := by decide +kernel
theorem dL_law_445 : decode cL_law 445 = .ok (.iconst 1, 1) := by decide +kernel
theorem dL_law_446 : decode cL_law 446 = .ok (.iadd, 1) := by decide +kernel
theorem dL_law_447 : decode cL_law 447 = .ok (.iaload, 1) := by decide +kernel
theorem dL_law_448 : decode cL_law 448 = .ok (.invokevirtual 77, 3) := by decide +kernel
theorem dL_law_451 : decode cL_law 451 = .ok (.istore 6, 2) := by decide +kernel
theorem dL_law_453 : decode cL_law 453 = .ok (.aload_n 2, 1) := by decide +kernel
theorem dL_law_454 : decode cL_law 454 = .ok (.invokevirtual 78, 3) := by decide +kernel
theorem dL_law_457 : decode cL_law 457 = .ok (.iload 5, 2) := by decide +kernel
theorem dL_law_459 : decode cL_law 459 = .ok (.if_icmp .eq 5, 3) := by decide +kernel
theorem dL_law_462 : decode cL_law 462 = .ok (.iconst 0, 1) := by decide +kernel
theorem dL_law_463 : decode cL_law 463 = .ok (.ireturn, 1) := by decide +kernel
theorem dL_law_464 : decode cL_law 464 = .ok (.iload 5, 2) := by decide +kernel
theorem dL_law_466 : decode cL_law 466 = .ok (.ifCond .ne 15, 3) := by decide +kernel
theorem dL_law_469 : decode cL_law 469 = .ok (.aload_n 3, 1) := by decide +kernel
theorem dL_law_470 : decode cL_law 470 = .ok (.iconst 0, 1) := by decide +kernel
theorem dL_law_471 : decode cL_law 471 = .ok (.laload, 1) := by decide +kernel
theorem dL_law_472 : decode cL_law 472 = .ok (.iload 6, 2) := by decide +kernel
theorem dL_law_474 : decode cL_law 474 = .ok (.i2l, 1) := by decide +kernel
theorem dL_law_475 : decode cL_law 475 = .ok (.lcmp, 1) := by decide +kernel
theorem dL_law_476 : decode cL_law 476 = .ok (.ifCond .eq 5, 3) := by decide +kernel
theorem dL_law_479 : decode cL_law 479 = .ok (.iconst 0, 1) := by decide +kernel
theorem dL_law_480 : decode cL_law 480 = .ok (.ireturn, 1) := by decide +kernel
theorem dL_law_481 : decode cL_law 481 = .ok (.goto 73, 3) := by decide +kernel
theorem dL_law_484 : decode cL_law 484 = .ok (.aload_n 1, 1) := by decide +kernel
theorem dL_law_485 : decode cL_law 485 = .ok (.aload_n 3, 1) := by decide +kernel
theorem dL_law_486 : decode cL_law 486 = .ok (.invokestatic 81, 3) := by decide +kernel
theorem dL_law_489 : decode cL_law 489 = .ok (.istore 5, 2) := by decide +kernel
theorem dL_law_491 : decode cL_law 491 = .ok (.aload_n 2, 1) := by decide +kernel
theorem dL_law_492 : decode cL_law 492 = .ok (.invokevirtual 84, 3) := by decide +kernel
theorem dL_law_495 : decode cL_law 495 = .ok (.istore 6, 2) := by decide +kernel
theorem dL_law_497 : decode cL_law 497 = .ok (.aload_n 2, 1) := by decide +kernel
theorem dL_law_498 : decode cL_law 498 = .ok (.invokevirtual 78, 3) := by decide +kernel
theorem dL_law_501 : decode cL_law 501 = .ok (.iload 5, 2) := by decide +kernel
theorem dL_law_503 : decode cL_law 503 = .ok (.if_icmp .eq 5, 3) := by decide +kernel
theorem dL_law_506 : decode cL_law 506 = .ok (.iconst 0, 1) := by decide +kernel
theorem dL_law_507 : decode cL_law 507 = .ok (.ireturn, 1) := by decide +kernel
theorem dL_law_508 : decode cL_law 508 = .ok (.iload 5, 2) := by decide +kernel
theorem dL_law_510 : decode cL_law 510 = .ok (.ifCond .ne 15, 3) := by decide +kernel
theorem dL_law_513 : decode cL_law 513 = .ok (.aload_n 3, 1) := by decide +kernel
theorem dL_law_514 : decode cL_law 514 = .ok (.iconst 0, 1) := by decide +kernel
theorem dL_law_515 : decode cL_law 515 = .ok (.laload, 1) := by decide +kernel
theorem dL_law_516 : decode cL_law 516 = .ok (.iload 6, 2) := by decide +kernel
theorem dL_law_518 : decode cL_law 518 = .ok (.i2l, 1) := by decide +kernel
theorem dL_law_519 : decode cL_law 519 = .ok (.lcmp, 1) := by decide +kernel
theorem dL_law_520 : decode cL_law 520 = .ok (.ifCond .eq 5, 3) := by decide +kernel
theorem dL_law_523 : decode cL_law 523 = .ok (.iconst 0, 1) := by decide +kernel
theorem dL_law_524 : decode cL_law 524 = .ok (.ireturn, 1) := by decide +kernel
theorem dL_law_525 : decode cL_law 525 = .ok (.goto 29, 3) := by decide +kernel
theorem dL_law_528 : decode cL_law 528 = .ok (.aload_n 1, 1) := by decide +kernel
theorem dL_law_529 : decode cL_law 529 = .ok (.invokevirtual 85, 3) := by decide +kernel
theorem dL_law_532 : decode cL_law 532 = .ok (.aload_n 2, 1) := by decide +kernel
theorem dL_law_533 : decode cL_law 533 = .ok (.invokevirtual 88, 3) := by decide +kernel
theorem dL_law_536 : decode cL_law 536 = .ok (.if_icmp .eq 18, 3) := by decide +kernel
theorem dL_law_539 : decode cL_law 539 = .ok (.iconst 0, 1) := by decide +kernel
theorem dL_law_540 : decode cL_law 540 = .ok (.ireturn, 1) := by decide +kernel
theorem dL_law_541 : decode cL_law 541 = .ok (.aload_n 1, 1) := by decide +kernel
theorem dL_law_542 : decode cL_law 542 = .ok (.invokevirtual 89, 3) := by decide +kernel
theorem dL_law_545 : decode cL_law 545 = .ok (.aload_n 2, 1) := by decide +kernel
theorem dL_law_546 : decode cL_law 546 = .ok (.invokevirtual 92, 3) := by decide +kernel
theorem dL_law_549 : decode cL_law 549 = .ok (.if_icmp .eq 5, 3) := by decide +kernel
theorem dL_law_552 : decode cL_law 552 = .ok (.iconst 0, 1) := by decide +kernel
theorem dL_law_553 : decode cL_law 553 = .ok (.ireturn, 1) := by decide +kernel
theorem dL_law_554 : decode cL_law 554 = .ok (.iinc 4 4, 3) := by decide +kernel
theorem dL_law_557 : decode cL_law 557 = .ok (.goto (-534), 3) := by decide +kernel
theorem dL_law_560 : decode cL_law 560 = .ok (.iconst 1, 1) := by decide +kernel
theorem dL_law_561 : decode cL_law 561 = .ok (.ireturn, 1) := by decide +kernel
end
section
theorem dX9_init_0 : decode cX9_init 0 = .ok (.aload_n 0, 1) := by decide +kernel
theorem dX9_init_1 : decode cX9_init 1 = .ok (.invokespecial 1, 3) := by decide +kernel
theorem dX9_init_4 : decode cX9_init 4 = .ok (.aload_n 0, 1) := by decide +kernel
theorem dX9_init_5 : decode cX9_init 5 = .ok (.bipush 40, 2) := by decide +kernel
theorem dX9_init_7 : decode cX9_init 7 = .ok (.newarray .int, 2) := by decide +kernel
theorem dX9_init_9 : decode cX9_init 9 = .ok (.putfield 7, 3) := by decide +kernel
theorem dX9_init_12 : decode cX9_init 12 = .ok (.aload_n 0, 1) := by decide +kernel
theorem dX9_init_13 : decode cX9_init 13 = .ok (.bipush 8, 2) := by decide +kernel
theorem dX9_init_15 : decode cX9_init 15 = .ok (.newarray .int, 2) := by decide +kernel
theorem dX9_init_17 : decode cX9_init 17 = .ok (.putfield 13, 3) := by decide +kernel
theorem dX9_init_20 : decode cX9_init 20 = .ok (.aload_n 0, 1) := by decide +kernel
theorem dX9_init_21 : decode cX9_init 21 = .ok (.sipush 192, 3) := by decide +kernel
theorem dX9_init_24 : decode cX9_init 24 = .ok (.newarray .double, 2) := by decide +kernel
theorem dX9_init_26 : decode cX9_init 26 = .ok (.putfield 16, 3) := by decide +kernel
theorem dX9_init_29 : decode cX9_init 29 = .ok (.aload_n 0, 1) := by decide +kernel
theorem dX9_init_30 : decode cX9_init 30 = .ok (.bipush 40, 2) := by decide +kernel
theorem dX9_init_32 : decode cX9_init 32 = .ok (.newarray .int, 2) := by decide +kernel
theorem dX9_init_34 : decode cX9_init 34 = .ok (.putfield 20, 3) := by decide +kernel
theorem dX9_init_37 : decode cX9_init 37 = .ok (.aload_n 0, 1) := by decide +kernel
theorem dX9_init_38 : decode cX9_init 38 = .ok (.bipush 40, 2) := by decide +kernel
theorem dX9_init_40 : decode cX9_init 40 = .ok (.newarray .int, 2) := by decide +kernel
theorem dX9_init_42 : decode cX9_init 42 = .ok (.putfield 23, 3) := by decide +kernel
theorem dX9_init_45 : decode cX9_init 45 = .ok (.aload_n 0, 1) := by decide +kernel
theorem dX9_init_46 : decode cX9_init 46 = .ok (.bipush 40, 2) := by decide +kernel
theorem dX9_init_48 : decode cX9_init 48 = .ok (.newarray .int, 2) := by decide +kernel
theorem dX9_init_50 : decode cX9_init 50 = .ok (.putfield 26, 3) := by decide +kernel
theorem dX9_init_53 : decode cX9_init 53 = .ok (.aload_n 0, 1) := by decide +kernel
theorem dX9_init_54 : decode cX9_init 54 = .ok (.bipush 40, 2) := by decide +kernel
theorem dX9_init_56 : decode cX9_init 56 = .ok (.newarray .int, 2) := by decide +kernel
theorem dX9_init_58 : decode cX9_init 58 = .ok (.putfield 29, 3) := by decide +kernel
theorem dX9_init_61 : decode cX9_init 61 = .ok (.aload_n 0, 1) := by decide +kernel
theorem dX9_init_62 : decode cX9_init 62 = .ok (.bipush 24, 2) := by decide +kernel
theorem dX9_init_64 : decode cX9_init 64 = .ok (.newarray .double, 2) := by decide +kernel
theorem dX9_init_66 : decode cX9_init 66 = .ok (.putfield 32, 3) := by decide +kernel
theorem dX9_init_69 : decode cX9_init 69 = .ok (.aload_n 0, 1) := by decide +kernel
theorem dX9_init_70 : decode cX9_init 70 = .ok (.bipush 24, 2) := by decide +kernel
theorem dX9_init_72 : decode cX9_init 72 = .ok (.newarray .double, 2) := by decide +kernel
theorem dX9_init_74 : decode cX9_init 74 = .ok (.putfield 35, 3) := by decide +kernel
theorem dX9_init_77 : decode cX9_init 77 = .ok (.aload_n 0, 1) := by decide +kernel
theorem dX9_init_78 : decode cX9_init 78 = .ok (.sipush 528, 3) := by decide +kernel
theorem dX9_init_81 : decode cX9_init 81 = .ok (.newarray .double, 2) := by decide +kernel
theorem dX9_init_83 : decode cX9_init 83 = .ok (.putfield 38, 3) := by decide +kernel
theorem dX9_init_86 : decode cX9_init 86 = .ok (.aload_n 0, 1) := by decide +kernel
theorem dX9_init_87 : decode cX9_init 87 = .ok (.bipush 22, 2) := by decide +kernel
theorem dX9_init_89 : decode cX9_init 89 = .ok (.newarray .int, 2) := by decide +kernel
theorem dX9_init_91 : decode cX9_init 91 = .ok (.putfield 41, 3) := by decide +kernel
theorem dX9_init_94 : decode cX9_init 94 = .ok (.aload_n 0, 1) := by decide +kernel
theorem dX9_init_95 : decode cX9_init 95 = .ok (.bipush 22, 2) := by decide +kernel
theorem dX9_init_97 : decode cX9_init 97 = .ok (.newarray .int, 2) := by decide +kernel
theorem dX9_init_99 : decode cX9_init 99 = .ok (.putfield 44, 3) := by decide +kernel
theorem dX9_init_102 : decode cX9_init 102 = .ok (.return_, 1) := by decide +kernel
theorem dX9_thrown_0 : decode cX9_thrown 0 = .ok (.aload_n 0, 1) := by decide +kernel
theorem dX9_thrown_1 : decode cX9_thrown 1 = .ok (.getfield 47, 3) := by decide +kernel
theorem dX9_thrown_4 : decode cX9_thrown 4 = .ok (.ireturn, 1) := by decide +kernel
theorem dX9_within_0 : decode cX9_within 0 = .ok (.iload_n 0, 1) := by decide +kernel
theorem dX9_within_1 : decode cX9_within 1 = .ok (.iload_n 1, 1) := by decide +kernel
theorem dX9_within_2 : decode cX9_within 2 = .ok (.if_icmp .lt 12, 3) := by decide +kernel
theorem dX9_within_5 : decode cX9_within 5 = .ok (.iload_n 0, 1) := by decide +kernel
theorem dX9_within_6 : decode cX9_within 6 = .ok (.iload_n 2, 1) := by decide +kernel
theorem dX9_within_7 : decode cX9_within 7 = .ok (.if_icmp .gt 7, 3) := by decide +kernel
theorem dX9_within_10 : decode cX9_within 10 = .ok (.iconst 1, 1) := by decide +kernel
theorem dX9_within_11 : decode cX9_within 11 = .ok (.goto 4, 3) := by decide +kernel
theorem dX9_within_14 : decode cX9_within 14 = .ok (.iconst 0, 1) := by decide +kernel
theorem dX9_within_15 : decode cX9_within 15 = .ok (.ireturn, 1) := by decide +kernel
theorem dX9_write_0 : decode cX9_write 0 = .ok (.aload_n 0, 1) := by decide +kernel
theorem dX9_write_1 : decode cX9_write 1 = .ok (.iconst 0, 1) := by decide +kernel
theorem dX9_write_2 : decode cX9_write 2 = .ok (.putfield 47, 3) := by decide +kernel
theorem dX9_write_5 : decode cX9_write 5 = .ok (.iconst 0, 1) := by decide +kernel
theorem dX9_write_6 : decode cX9_write 6 = .ok (.istore_n 3, 1) := by decide +kernel
theorem dX9_write_7 : decode cX9_write 7 = .ok (.iconst 0, 1) := by decide +kernel
theorem dX9_write_8 : decode cX9_write 8 = .ok (.istore 4, 2) := by decide +kernel
theorem dX9_write_10 : decode cX9_write 10 = .ok (.iload 4, 2) := by decide +kernel
theorem dX9_write_12 : decode cX9_write 12 = .ok (.bipush 8, 2) := by decide +kernel
theorem dX9_write_14 : decode cX9_write 14 = .ok (.if_icmp .ge 43, 3) := by decide +kernel
theorem dX9_write_17 : decode cX9_write 17 = .ok (.lload_n 1, 1) := by decide +kernel
theorem dX9_write_18 : decode cX9_write 18 = .ok (.bipush 8, 2) := by decide +kernel
theorem dX9_write_20 : decode cX9_write 20 = .ok (.iload 4, 2) := by decide +kernel
theorem dX9_write_22 : decode cX9_write 22 = .ok (.imul, 1) := by decide +kernel
theorem dX9_write_23 : decode cX9_write 23 = .ok (.lshr, 1) := by decide +kernel
theorem dX9_write_24 : decode cX9_write 24 = .ok (.l2i, 1) := by decide +kernel
theorem dX9_write_25 : decode cX9_write 25 = .ok (.sipush 255, 3) := by decide +kernel
theorem dX9_write_28 : decode cX9_write 28 = .ok (.iand, 1) := by decide +kernel
theorem dX9_write_29 : decode cX9_write 29 = .ok (.istore 5, 2) := by decide +kernel
theorem dX9_write_31 : decode cX9_write 31 = .ok (.iload 5, 2) := by decide +kernel
theorem dX9_write_33 : decode cX9_write 33 = .ok (.ifCond .ne 6, 3) := by decide +kernel
theorem dX9_write_36 : decode cX9_write 36 = .ok (.goto 21, 3) := by decide +kernel
theorem dX9_write_39 : decode cX9_write 39 = .ok (.iload 5, 2) := by decide +kernel
theorem dX9_write_41 : decode cX9_write 41 = .ok (.bipush 127, 2) := by decide +kernel
theorem dX9_write_43 : decode cX9_write 43 = .ok (.if_icmp .le 5, 3) := by decide +kernel
theorem dX9_write_46 : decode cX9_write 46 = .ok (.iconst (-1), 1) := by decide +kernel
theorem dX9_write_47 : decode cX9_write 47 = .ok (.ireturn, 1) := by decide +kernel
theorem dX9_write_48 : decode cX9_write 48 = .ok (.iinc 3 1, 3) := by decide +kernel
theorem dX9_write_51 : decode cX9_write 51 = .ok (.iinc 4 1, 3) := by decide +kernel
theorem dX9_write_54 : decode cX9_write 54 = .ok (.goto (-44), 3) := by decide +kernel
theorem dX9_write_57 : decode cX9_write 57 = .ok (.aload_n 0, 1) := by decide +kernel
theorem dX9_write_58 : decode cX9_write 58 = .ok (.getfield 51, 3) := by decide +kernel
theorem dX9_write_61 : decode cX9_write 61 = .ok (.iload_n 3, 1) := by decide +kernel
theorem dX9_write_62 : decode cX9_write 62 = .ok (.iadd, 1) := by decide +kernel
theorem dX9_write_63 : decode cX9_write 63 = .ok (.bipush 40, 2) := by decide +kernel
theorem dX9_write_65 : decode cX9_write 65 = .ok (.if_icmp .le 5, 3) := by decide +kernel
theorem dX9_write_68 : decode cX9_write 68 = .ok (.iconst (-1), 1) := by decide +kernel
theorem dX9_write_69 : decode cX9_write 69 = .ok (.ireturn, 1) := by decide +kernel
theorem dX9_write_70 : decode cX9_write 70 = .ok (.iconst 0, 1) := by decide +kernel
theorem dX9_write_71 : decode cX9_write 71 = .ok (.istore 4, 2) := by decide +kernel
theorem dX9_write_73 : decode cX9_write 73 = .ok (.iload 4, 2) := by decide +kernel
theorem dX9_write_75 : decode cX9_write 75 = .ok (.iload_n 3, 1) := by decide +kernel
theorem dX9_write_76 : decode cX9_write 76 = .ok (.if_icmp .ge 32, 3) := by decide +kernel
theorem dX9_write_79 : decode cX9_write 79 = .ok (.aload_n 0, 1) := by decide +kernel
theorem dX9_write_80 : decode cX9_write 80 = .ok (.getfield 7, 3) := by decide +kernel
theorem dX9_write_83 : decode cX9_write 83 = .ok (.aload_n 0, 1) := by decide +kernel
theorem dX9_write_84 : decode cX9_write 84 = .ok (.getfield 51, 3) := by decide +kernel
theorem dX9_write_87 : decode cX9_write 87 = .ok (.iload 4, 2) := by decide +kernel
theorem dX9_write_89 : decode cX9_write 89 = .ok (.iadd, 1) := by decide +kernel
theorem dX9_write_90 : decode cX9_write 90 = .ok (.lload_n 1, 1) := by decide +kernel
theorem dX9_write_91 : decode cX9_write 91 = .ok (.bipush 8, 2) := by decide +kernel
theorem dX9_write_93 : decode cX9_write 93 = .ok (.iload 4, 2) := by decide +kernel
theorem dX9_write_95 : decode cX9_write 95 = .ok (.imul, 1) := by decide +kernel
theorem dX9_write_96 : decode cX9_write 96 = .ok (.lshr, 1) := by decide +kernel
theorem dX9_write_97 : decode cX9_write 97 = .ok (.l2i, 1) := by decide +kernel
theorem dX9_write_98 : decode cX9_write 98 = .ok (.bipush 127, 2) := by decide +kernel
theorem dX9_write_100 : decode cX9_write 100 = .ok (.iand, 1) := by decide +kernel
theorem dX9_write_101 : decode cX9_write 101 = .ok (.iastore, 1) := by decide +kernel
theorem dX9_write_102 : decode cX9_write 102 = .ok (.iinc 4 1, 3) := by decide +kernel
theorem dX9_write_105 : decode cX9_write 105 = .ok (.goto (-32), 3) := by decide +kernel
theorem dX9_write_108 : decode cX9_write 108 = .ok (.aload_n 0, 1) := by decide +kernel
theorem dX9_write_109 : decode cX9_write 109 = .ok (.dup, 1) := by decide +kernel
theorem dX9_write_110 : decode cX9_write 110 = .ok (.getfield 51, 3) := by decide +kernel
theorem dX9_write_113 : decode cX9_write 113 = .ok (.iload_n 3, 1) := by decide +kernel
theorem dX9_write_114 : decode cX9_write 114 = .ok (.iadd, 1) := by decide +kernel
theorem dX9_write_115 : decode cX9_write 115 = .ok (.putfield 51, 3) := by decide +kernel
theorem dX9_write_118 : decode cX9_write 118 = .ok (.iload_n 3, 1) := by decide +kernel
theorem dX9_write_119 : decode cX9_write 119 = .ok (.ireturn, 1) := by decide +kernel
theorem dX9_erase_0 : decode cX9_erase 0 = .ok (.aload_n 0, 1) := by decide +kernel
theorem dX9_erase_1 : decode cX9_erase 1 = .ok (.iconst 0, 1) := by decide +kernel
theorem dX9_erase_2 : decode cX9_erase 2 = .ok (.putfield 47, 3) := by decide +kernel
theorem dX9_erase_5 : decode cX9_erase 5 = .ok (.aload_n 0, 1) := by decide +kernel
theorem dX9_erase_6 : decode cX9_erase 6 = .ok (.getfield 51, 3) := by decide +kernel
theorem dX9_erase_9 : decode cX9_erase 9 = .ok (.istore_n 1, 1) := by decide +kernel
theorem dX9_erase_10 : decode cX9_erase 10 = .ok (.aload_n 0, 1) := by decide +kernel
theorem dX9_erase_11 : decode cX9_erase 11 = .ok (.iconst 0, 1) := by decide +kernel
theorem dX9_erase_12 : decode cX9_erase 12 = .ok (.putfield 51, 3) := by decide +kernel
theorem dX9_erase_15 : decode cX9_erase 15 = .ok (.iload_n 1, 1) := by decide +kernel
theorem dX9_erase_16 : decode cX9_erase 16 = .ok (.ireturn, 1) := by decide +kernel
theorem dX9_fits_0 : decode cX9_fits 0 = .ok (.dload_n 0, 1) := by decide +kernel
theorem dX9_fits_1 : decode cX9_fits 1 = .ok (.ldc2_w 54, 3) := by decide +kernel
theorem dX9_fits_4 : decode cX9_fits 4 = .ok (.dcmp .l, 1) := by decide +kernel
theorem dX9_fits_5 : decode cX9_fits 5 = .ok (.ifCond .lt 15, 3) := by decide +kernel
theorem dX9_fits_8 : decode cX9_fits 8 = .ok (.dload_n 0, 1) := by decide +kernel
theorem dX9_fits_9 : decode cX9_fits 9 = .ok (.ldc2_w 56, 3) := by decide +kernel
theorem dX9_fits_12 : decode cX9_fits 12 = .ok (.dcmp .g, 1) := by decide +kernel
theorem dX9_fits_13 : decode cX9_fits 13 = .ok (.ifCond .gt 7, 3) := by decide +kernel
theorem dX9_fits_16 : decode cX9_fits 16 = .ok (.iconst 1, 1) := by decide +kernel
theorem dX9_fits_17 : decode cX9_fits 17 = .ok (.goto 4, 3) := by decide +kernel
theorem dX9_fits_20 : decode cX9_fits 20 = .ok (.iconst 0, 1) := by decide +kernel
theorem dX9_fits_21 : decode cX9_fits 21 = .ok (.ireturn, 1) := by decide +kernel
theorem dX9_put_0 : decode cX9_put 0 = .ok (.aload_n 0, 1) := by decide +kernel
theorem dX9_put_1 : decode cX9_put 1 = .ok (.iconst 0, 1) := by decide +kernel
theorem dX9_put_2 : decode cX9_put 2 = .ok (.putfield 47, 3) := by decide +kernel
theorem dX9_put_5 : decode cX9_put 5 = .ok (.iload_n 1, 1) := by decide +kernel
theorem dX9_put_6 : decode cX9_put 6 = .ok (.iconst 0, 1) := by decide +kernel
theorem dX9_put_7 : decode cX9_put 7 = .ok (.bipush 7, 2) := by decide +kernel
theorem dX9_put_9 : decode cX9_put 9 = .ok (.invokestatic 58, 3) := by decide +kernel
theorem dX9_put_12 : decode cX9_put 12 = .ok (.ifCond .eq 10, 3) := by decide +kernel
theorem dX9_put_15 : decode cX9_put 15 = .ok (.dload_n 2, 1) := by decide +kernel
theorem dX9_put_16 : decode cX9_put 16 = .ok (.invokestatic 62, 3) := by decide +kernel
theorem dX9_put_19 : decode cX9_put 19 = .ok (.ifCond .ne 5, 3) := by decide +kernel
theorem dX9_put_22 : decode cX9_put 22 = .ok (.iconst 0, 1) := by decide +kernel
theorem dX9_put_23 : decode cX9_put 23 = .ok (.ireturn, 1) := by decide +kernel
theorem dX9_put_24 : decode cX9_put 24 = .ok (.aload_n 0, 1) := by decide +kernel
theorem dX9_put_25 : decode cX9_put 25 = .ok (.getfield 13, 3) := by decide +kernel
theorem dX9_put_28 : decode cX9_put 28 = .ok (.iload_n 1, 1) := by decide +kernel
theorem dX9_put_29 : decode cX9_put 29 = .ok (.iconst 0, 1) := by decide +kernel
theorem dX9_put_30 : decode cX9_put 30 = .ok (.iastore, 1) := by decide +kernel
theorem dX9_put_31 : decode cX9_put 31 = .ok (.aload_n 0, 1) := by decide +kernel
theorem dX9_put_32 : decode cX9_put 32 = .ok (.getfield 16, 3) := by decide +kernel
theorem dX9_put_35 : decode cX9_put 35 = .ok (.bipush 24, 2) := by decide +kernel
theorem dX9_put_37 : decode cX9_put 37 = .ok (.iload_n 1, 1) := by decide +kernel
theorem dX9_put_38 : decode cX9_put 38 = .ok (.imul, 1) := by decide +kernel
theorem dX9_put_39 : decode cX9_put 39 = .ok (.dload_n 2, 1) := by decide +kernel
theorem dX9_put_40 : decode cX9_put 40 = .ok (.dastore, 1) := by decide +kernel
theorem dX9_put_41 : decode cX9_put 41 = .ok (.iconst 1, 1) := by decide +kernel
theorem dX9_put_42 : decode cX9_put 42 = .ok (.ireturn, 1) := by decide +kernel
theorem dX9_isShape_0 : decode cX9_isShape 0 = .ok (.iload_n 0, 1) := by decide +kernel
theorem dX9_isShape_1 : decode cX9_isShape 1 = .ok (.iconst 0, 1) := by decide +kernel
theorem dX9_isShape_2 : decode cX9_isShape 2 = .ok (.bipush 24, 2) := by decide +kernel
theorem dX9_isShape_4 : decode cX9_isShape 4 = .ok (.invokestatic 58, 3) := by decide +kernel
theorem dX9_isShape_7 : decode cX9_isShape 7 = .ok (.ifCond .eq 5, 3) := by decide +kernel
theorem dX9_isShape_10 : decode cX9_isShape 10 = .ok (.iconst 1, 1) := by decide +kernel
theorem dX9_isShape_11 : decode cX9_isShape 11 = .ok (.ireturn, 1) := by decide +kernel
theorem dX9_isShape_12 : decode cX9_isShape 12 = .ok (.iload_n 0, 1) := by decide +kernel
theorem dX9_isShape_13 : decode cX9_isShape 13 = .ok (.bipush 32, 2) := by decide +kernel
theorem dX9_isShape_15 : decode cX9_isShape 15 = .ok (.idiv, 1) := by decide +kernel
theorem dX9_isShape_16 : decode cX9_isShape 16 = .ok (.istore_n 1, 1) := by decide +kernel
theorem dX9_isShape_17 : decode cX9_isShape 17 = .ok (.iload_n 0, 1) := by decide +kernel
theorem dX9_isShape_18 : decode cX9_isShape 18 = .ok (.bipush 32, 2) := by decide +kernel
theorem dX9_isShape_20 : decode cX9_isShape 20 = .ok (.irem, 1) := by decide +kernel
theorem dX9_isShape_21 : decode cX9_isShape 21 = .ok (.istore_n 2, 1) := by decide +kernel
theorem dX9_isShape_22 : decode cX9_isShape 22 = .ok (.iload_n 0, 1) := by decide +kernel
theorem dX9_isShape_23 : decode cX9_isShape 23 = .ok (.ifCond .le 35, 3) := by decide +kernel
theorem dX9_isShape_26 : decode cX9_isShape 26 = .ok (.iload_n 1, 1) := by decide +kernel
theorem dX9_isShape_27 : decode cX9_isShape 27 = .ok (.iconst 1, 1) := by decide +kernel
theorem dX9_isShape_28 : decode cX9_isShape 28 = .ok (.bipush 24, 2) := by decide +kernel
theorem dX9_isShape_30 : decode cX9_isShape 30 = .ok (.invokestatic 58, 3) := by decide +kernel
theorem dX9_isShape_33 : decode cX9_isShape 33 = .ok (.ifCond .eq 25, 3) := by decide +kernel
theorem dX9_isShape_36 : decode cX9_isShape 36 = .ok (.iload_n 2, 1) := by decide +kernel
theorem dX9_isShape_37 : decode cX9_isShape 37 = .ok (.iconst 1, 1) := by decide +kernel
theorem dX9_isShape_38 : decode cX9_isShape 38 = .ok (.bipush 24, 2) := by decide +kernel
theorem dX9_isShape_40 : decode cX9_isShape 40 = .ok (.invokestatic 58, 3) := by decide +kernel
theorem dX9_isShape_43 : decode cX9_isShape 43 = .ok (.ifCond .eq 15, 3) := by decide +kernel
theorem dX9_isShape_46 : decode cX9_isShape 46 = .ok (.iload_n 1, 1) := by decide +kernel
theorem dX9_isShape_47 : decode cX9_isShape 47 = .ok (.iload_n 2, 1) := by decide +kernel
theorem dX9_isShape_48 : decode cX9_isShape 48 = .ok (.imul, 1) := by decide +kernel
theorem dX9_isShape_49 : decode cX9_isShape 49 = .ok (.bipush 24, 2) := by decide +kernel
theorem dX9_isShape_51 : decode cX9_isShape 51 = .ok (.if_icmp .gt 7, 3) := by decide +kernel
theorem dX9_isShape_54 : decode cX9_isShape 54 = .ok (.iconst 1, 1) := by decide +kernel
theorem dX9_isShape_55 : decode cX9_isShape 55 = .ok (.goto 4, 3) := by decide +kernel
theorem dX9_isShape_58 : decode cX9_isShape 58 = .ok (.iconst 0, 1) := by decide +kernel
theorem dX9_isShape_59 : decode cX9_isShape 59 = .ok (.ireturn, 1) := by decide +kernel
theorem dX9_count_0 : decode cX9_count 0 = .ok (.iload_n 0, 1) := by decide +kernel
theorem dX9_count_1 : decode cX9_count 1 = .ok (.ifCond .ne 7, 3) := by decide +kernel
theorem dX9_count_4 : decode cX9_count 4 = .ok (.iconst 1, 1) := by decide +kernel
theorem dX9_count_5 : decode cX9_count 5 = .ok (.goto 22, 3) := by decide +kernel
theorem dX9_count_8 : decode cX9_count 8 = .ok (.iload_n 0, 1) := by decide +kernel
theorem dX9_count_9 : decode cX9_count 9 = .ok (.bipush 32, 2) := by decide +kernel
theorem dX9_count_11 : decode cX9_count 11 = .ok (.if_icmp .ge 7, 3) := by decide +kernel
theorem dX9_count_14 : decode cX9_count 14 = .ok (.iload_n 0, 1) := by decide +kernel
theorem dX9_count_15 : decode cX9_count 15 = .ok (.goto 12, 3) := by decide +kernel
theorem dX9_count_18 : decode cX9_count 18 = .ok (.iload_n 0, 1) := by decide +kernel
theorem dX9_count_19 : decode cX9_count 19 = .ok (.bipush 32, 2) := by decide +kernel
theorem dX9_count_21 : decode cX9_count 21 = .ok (.idiv, 1) := by decide +kernel
theorem dX9_count_22 : decode cX9_count 22 = .ok (.iload_n 0, 1) := by decide +kernel
theorem dX9_count_23 : decode cX9_count 23 = .ok (.bipush 32, 2) := by decide +kernel
theorem dX9_count_25 : decode cX9_count 25 = .ok (.irem, 1) := by decide +kernel
theorem dX9_count_26 : decode cX9_count 26 = .ok (.imul, 1) := by decide +kernel
theorem dX9_count_27 : decode cX9_count 27 = .ok (.ireturn, 1) := by decide +kernel
theorem dX9_shape_0 : decode cX9_shape 0 = .ok (.aload_n 0, 1) := by decide +kernel
theorem dX9_shape_1 : decode cX9_shape 1 = .ok (.iconst 0, 1) := by decide +kernel
theorem dX9_shape_2 : decode cX9_shape 2 = .ok (.putfield 47, 3) := by decide +kernel
theorem dX9_shape_5 : decode cX9_shape 5 = .ok (.iload_n 1, 1) := by decide +kernel
theorem dX9_shape_6 : decode cX9_shape 6 = .ok (.iconst 0, 1) := by decide +kernel
theorem dX9_shape_7 : decode cX9_shape 7 = .ok (.bipush 7, 2) := by decide +kernel
theorem dX9_shape_9 : decode cX9_shape 9 = .ok (.invokestatic 58, 3) := by decide +kernel
theorem dX9_shape_12 : decode cX9_shape 12 = .ok (.ifCond .eq 10, 3) := by decide +kernel
theorem dX9_shape_15 : decode cX9_shape 15 = .ok (.iload_n 2, 1) := by decide +kernel
theorem dX9_shape_16 : decode cX9_shape 16 = .ok (.invokestatic 66, 3) := by decide +kernel
theorem dX9_shape_19 : decode cX9_shape 19 = .ok (.ifCond .ne 5, 3) := by decide +kernel
theorem dX9_shape_22 : decode cX9_shape 22 = .ok (.iconst 0, 1) := by decide +kernel
theorem dX9_shape_23 : decode cX9_shape 23 = .ok (.ireturn, 1) := by decide +kernel
theorem dX9_shape_24 : decode cX9_shape 24 = .ok (.aload_n 0, 1) := by decide +kernel
theorem dX9_shape_25 : decode cX9_shape 25 = .ok (.getfield 13, 3) := by decide +kernel
theorem dX9_shape_28 : decode cX9_shape 28 = .ok (.iload_n 1, 1) := by decide +kernel
theorem dX9_shape_29 : decode cX9_shape 29 = .ok (.iload_n 2, 1) := by decide +kernel
theorem dX9_shape_30 : decode cX9_shape 30 = .ok (.iastore, 1) := by decide +kernel
theorem dX9_shape_31 : decode cX9_shape 31 = .ok (.iconst 0, 1) := by decide +kernel
theorem dX9_shape_32 : decode cX9_shape 32 = .ok (.istore_n 3, 1) := by decide +kernel
theorem dX9_shape_33 : decode cX9_shape 33 = .ok (.iload_n 3, 1) := by decide +kernel
theorem dX9_shape_34 : decode cX9_shape 34 = .ok (.bipush 24, 2) := by decide +kernel
theorem dX9_shape_36 : decode cX9_shape 36 = .ok (.if_icmp .ge 21, 3) := by decide +kernel
theorem dX9_shape_39 : decode cX9_shape 39 = .ok (.aload_n 0, 1) := by decide +kernel
theorem dX9_shape_40 : decode cX9_shape 40 = .ok (.getfield 16, 3) := by decide +kernel
theorem dX9_shape_43 : decode cX9_shape 43 = .ok (.bipush 24, 2) := by decide +kernel
theorem dX9_shape_45 : decode cX9_shape 45 = .ok (.iload_n 1, 1) := by decide +kernel
theorem dX9_shape_46 : decode cX9_shape 46 = .ok (.imul, 1) := by decide +kernel
theorem dX9_shape_47 : decode cX9_shape 47 = .ok (.iload_n 3, 1) := by decide +kernel
theorem dX9_shape_48 : decode cX9_shape 48 = .ok (.iadd, 1) := by decide +kernel
theorem dX9_shape_49 : decode cX9_shape 49 = .ok (.dconst 0, 1) := by decide +kernel
theorem dX9_shape_50 : decode cX9_shape 50 = .ok (.dastore, 1) := by decide +kernel
theorem dX9_shape_51 : decode cX9_shape 51 = .ok (.iinc 3 1, 3) := by decide +kernel
theorem dX9_shape_54 : decode cX9_shape 54 = .ok (.goto (-21), 3) := by decide +kernel
theorem dX9_shape_57 : decode cX9_shape 57 = .ok (.iconst 1, 1) := by decide +kernel
theorem dX9_shape_58 : decode cX9_shape 58 = .ok (.ireturn, 1) := by decide +kernel
theorem dX9_has_0 : decode cX9_has 0 = .ok (.iload_n 1, 1) := by decide +kernel
theorem dX9_has_1 : decode cX9_has 1 = .ok (.iconst 0, 1) := by decide +kernel
theorem dX9_has_2 : decode cX9_has 2 = .ok (.bipush 7, 2) := by decide +kernel
theorem dX9_has_4 : decode cX9_has 4 = .ok (.invokestatic 58, 3) := by decide +kernel
theorem dX9_has_7 : decode cX9_has 7 = .ok (.ifCond .eq 26, 3) := by decide +kernel
theorem dX9_has_10 : decode cX9_has 10 = .ok (.iload_n 2, 1) := by decide +kernel
theorem dX9_has_11 : decode cX9_has 11 = .ok (.iconst 0, 1) := by decide +kernel
theorem dX9_has_12 : decode cX9_has 12 = .ok (.aload_n 0, 1) := by decide +kernel
theorem dX9_has_13 : decode cX9_has 13 = .ok (.getfield 13, 3) := by decide +kernel
theorem dX9_has_16 : decode cX9_has 16 = .ok (.iload_n 1, 1) := by decide +kernel
theorem dX9_has_17 : decode cX9_has 17 = .ok (.iaload, 1) := by decide +kernel
theorem dX9_has_18 : decode cX9_has 18 = .ok (.invokestatic 70, 3) := by decide +kernel
theorem dX9_has_21 : decode cX9_has 21 = .ok (.iconst 1, 1) := by decide +kernel
theorem dX9_has_22 : decode cX9_has 22 = .ok (.isub, 1) := by decide +kernel
theorem dX9_has_23 : decode cX9_has 23 = .ok (.invokestatic 58, 3) := by decide +kernel
theorem dX9_has_26 : decode cX9_has 26 = .ok (.ifCond .eq 7, 3) := by decide +kernel
theorem dX9_has_29 : decode cX9_has 29 = .ok (.iconst 1, 1) := by decide +kernel
theorem dX9_has_30 : decode cX9_has 30 = .ok (.goto 4, 3) := by decide +kernel
theorem dX9_has_33 : decode cX9_has 33 = .ok (.iconst 0, 1) := by decide +kernel
theorem dX9_has_34 : decode cX9_has 34 = .ok (.ireturn, 1) := by decide +kernel
theorem dX9_set_0 : decode cX9_set 0 = .ok (.aload_n 0, 1) := by decide +kernel
theorem dX9_set_1 : decode cX9_set 1 = .ok (.iconst 0, 1) := by decide +kernel
theorem dX9_set_2 : decode cX9_set 2 = .ok (.putfield 47, 3) := by decide +kernel
theorem dX9_set_5 : decode cX9_set 5 = .ok (.aload_n 0, 1) := by decide +kernel
theorem dX9_set_6 : decode cX9_set 6 = .ok (.iload_n 1, 1) := by decide +kernel
theorem dX9_set_7 : decode cX9_set 7 = .ok (.iload_n 2, 1) := by decide +kernel
theorem dX9_set_8 : decode cX9_set 8 = .ok (.invokevirtual 74, 3) := by decide +kernel
theorem dX9_set_11 : decode cX9_set 11 = .ok (.ifCond .eq 10, 3) := by decide +kernel
theorem dX9_set_14 : decode cX9_set 14 = .ok (.dload_n 3, 1) := by decide +kernel
theorem dX9_set_15 : decode cX9_set 15 = .ok (.invokestatic 62, 3) := by decide +kernel
theorem dX9_set_18 : decode cX9_set 18 = .ok (.ifCond .ne 5, 3) := by decide +kernel
theorem dX9_set_21 : decode cX9_set 21 = .ok (.iconst 0, 1) := by decide +kernel
theorem dX9_set_22 : decode cX9_set 22 = .ok (.ireturn, 1) := by decide +kernel
theorem dX9_set_23 : decode cX9_set 23 = .ok (.aload_n 0, 1) := by decide +kernel
theorem dX9_set_24 : decode cX9_set 24 = .ok (.getfield 16, 3) := by decide +kernel
theorem dX9_set_27 : decode cX9_set 27 = .ok (.bipush 24, 2) := by decide +kernel
theorem dX9_set_29 : decode cX9_set 29 = .ok (.iload_n 1, 1) := by decide +kernel
theorem dX9_set_30 : decode cX9_set 30 = .ok (.imul, 1) := by decide +kernel
theorem dX9_set_31 : decode cX9_set 31 = .ok (.iload_n 2, 1) := by decide +kernel
theorem dX9_set_32 : decode cX9_set 32 = .ok (.iadd, 1) := by decide +kernel
theorem dX9_set_33 : decode cX9_set 33 = .ok (.dload_n 3, 1) := by decide +kernel
theorem dX9_set_34 : decode cX9_set 34 = .ok (.dastore, 1) := by decide +kernel
theorem dX9_set_35 : decode cX9_set 35 = .ok (.iconst 1, 1) := by decide +kernel
theorem dX9_set_36 : decode cX9_set 36 = .ok (.ireturn, 1) := by decide +kernel
theorem dX9_shapeOf_0 : decode cX9_shapeOf 0 = .ok (.aload_n 0, 1) := by decide +kernel
theorem dX9_shapeOf_1 : decode cX9_shapeOf 1 = .ok (.iconst 0, 1) := by decide +kernel
theorem dX9_shapeOf_2 : decode cX9_shapeOf 2 = .ok (.putfield 47, 3) := by decide +kernel
theorem dX9_shapeOf_5 : decode cX9_shapeOf 5 = .ok (.iload_n 1, 1) := by decide +kernel
theorem dX9_shapeOf_6 : decode cX9_shapeOf 6 = .ok (.iconst 0, 1) := by decide +kernel
theorem dX9_shapeOf_7 : decode cX9_shapeOf 7 = .ok (.bipush 7, 2) := by decide +kernel
theorem dX9_shapeOf_9 : decode cX9_shapeOf 9 = .ok (.invokestatic 58, 3) := by decide +kernel
theorem dX9_shapeOf_12 : decode cX9_shapeOf 12 = .ok (.ifCond .eq 12, 3) := by decide +kernel
theorem dX9_shapeOf_15 : decode cX9_shapeOf 15 = .ok (.aload_n 0, 1) := by decide +kernel
theorem dX9_shapeOf_16 : decode cX9_shapeOf 16 = .ok (.getfield 13, 3) := by decide +kernel
theorem dX9_shapeOf_19 : decode cX9_shapeOf 19 = .ok (.iload_n 1, 1) := by decide +kernel
theorem dX9_shapeOf_20 : decode cX9_shapeOf 20 = .ok (.iaload, 1) := by decide +kernel
theorem dX9_shapeOf_21 : decode cX9_shapeOf 21 = .ok (.goto 4, 3) := by decide +kernel
theorem dX9_shapeOf_24 : decode cX9_shapeOf 24 = .ok (.iconst (-1), 1) := by decide +kernel
theorem dX9_shapeOf_25 : decode cX9_shapeOf 25 = .ok (.ireturn, 1) := by decide +kernel
theorem dX9_size_0 : decode cX9_size 0 = .ok (.aload_n 0, 1) := by decide +kernel
theorem dX9_size_1 : decode cX9_size 1 = .ok (.iconst 0, 1) := by decide +kernel
theorem dX9_size_2 : decode cX9_size 2 = .ok (.putfield 47, 3) := by decide +kernel
theorem dX9_size_5 : decode cX9_size 5 = .ok (.iload_n 1, 1) := by decide +kernel
theorem dX9_size_6 : decode cX9_size 6 = .ok (.iconst 0, 1) := by decide +kernel
theorem dX9_size_7 : decode cX9_size 7 = .ok (.bipush 7, 2) := by decide +kernel
theorem dX9_size_9 : decode cX9_size 9 = .ok (.invokestatic 58, 3) := by decide +kernel
theorem dX9_size_12 : decode cX9_size 12 = .ok (.ifCond .eq 15, 3) := by decide +kernel
theorem dX9_size_15 : decode cX9_size 15 = .ok (.aload_n 0, 1) := by decide +kernel
theorem dX9_size_16 : decode cX9_size 16 = .ok (.getfield 13, 3) := by decide +kernel
theorem dX9_size_19 : decode cX9_size 19 = .ok (.iload_n 1, 1) := by decide +kernel
theorem dX9_size_20 : decode cX9_size 20 = .ok (.iaload, 1) := by decide +kernel
theorem dX9_size_21 : decode cX9_size 21 = .ok (.invokestatic 70, 3) := by decide +kernel
theorem dX9_size_24 : decode cX9_size 24 = .ok (.goto 4, 3) := by decide +kernel
theorem dX9_size_27 : decode cX9_size 27 = .ok (.iconst (-1), 1) := by decide +kernel
theorem dX9_size_28 : decode cX9_size 28 = .ok (.ireturn, 1) := by decide +kernel
theorem dX9_at_0 : decode cX9_at 0 = .ok (.aload_n 0, 1) := by decide +kernel
theorem dX9_at_1 : decode cX9_at 1 = .ok (.iconst 0, 1) := by decide +kernel
theorem dX9_at_2 : decode cX9_at 2 = .ok (.putfield 47, 3) := by decide +kernel
theorem dX9_at_5 : decode cX9_at 5 = .ok (.aload_n 0, 1) := by decide +kernel
theorem dX9_at_6 : decode cX9_at 6 = .ok (.iload_n 1, 1) := by decide +kernel
theorem dX9_at_7 : decode cX9_at 7 = .ok (.iload_n 2, 1) := by decide +kernel
theorem dX9_at_8 : decode cX9_at 8 = .ok (.invokevirtual 74, 3) := by decide +kernel
theorem dX9_at_11 : decode cX9_at 11 = .ok (.ifCond .eq 17, 3) := by decide +kernel
theorem dX9_at_14 : decode cX9_at 14 = .ok (.aload_n 0, 1) := by decide +kernel
theorem dX9_at_15 : decode cX9_at 15 = .ok (.getfield 16, 3) := by decide +kernel
theorem dX9_at_18 : decode cX9_at 18 = .ok (.bipush 24, 2) := by decide +kernel
theorem dX9_at_20 : decode cX9_at 20 = .ok (.iload_n 1, 1) := by decide +kernel
theorem dX9_at_21 : decode cX9_at 21 = .ok (.imul, 1) := by decide +kernel
theorem dX9_at_22 : decode cX9_at 22 = .ok (.iload_n 2, 1) := by decide +kernel
theorem dX9_at_23 : decode cX9_at 23 = .ok (.iadd, 1) := by decide +kernel
theorem dX9_at_24 : decode cX9_at 24 = .ok (.daload, 1) := by decide +kernel
theorem dX9_at_25 : decode cX9_at 25 = .ok (.goto 4, 3) := by decide +kernel
theorem dX9_at_28 : decode cX9_at 28 = .ok (.dconst 0, 1) := by decide +kernel
theorem dX9_at_29 : decode cX9_at 29 = .ok (.dreturn, 1) := by decide +kernel
theorem dX9_charAt_0 : decode cX9_charAt 0 = .ok (.iload_n 1, 1) := by decide +kernel
theorem dX9_charAt_1 : decode cX9_charAt 1 = .ok (.aload_n 0, 1) := by decide +kernel
theorem dX9_charAt_2 : decode cX9_charAt 2 = .ok (.getfield 51, 3) := by decide +kernel
theorem dX9_charAt_5 : decode cX9_charAt 5 = .ok (.if_icmp .ge 12, 3) := by decide +kernel
theorem dX9_charAt_8 : decode cX9_charAt 8 = .ok (.aload_n 0, 1) := by decide +kernel
theorem dX9_charAt_9 : decode cX9_charAt 9 = .ok (.getfield 7, 3) := by decide +kernel
theorem dX9_charAt_12 : decode cX9_charAt 12 = .ok (.iload_n 1, 1) := by decide +kernel
theorem dX9_charAt_13 : decode cX9_charAt 13 = .ok (.iaload, 1) := by decide +kernel
theorem dX9_charAt_14 : decode cX9_charAt 14 = .ok (.goto 4, 3) := by decide +kernel
theorem dX9_charAt_17 : decode cX9_charAt 17 = .ok (.iconst 0, 1) := by decide +kernel
theorem dX9_charAt_18 : decode cX9_charAt 18 = .ok (.ireturn, 1) := by decide +kernel
theorem dX9_isDigit_0 : decode cX9_isDigit 0 = .ok (.iload_n 0, 1) := by decide +kernel
theorem dX9_isDigit_1 : decode cX9_isDigit 1 = .ok (.bipush 48, 2) := by decide +kernel
theorem dX9_isDigit_3 : decode cX9_isDigit 3 = .ok (.bipush 57, 2) := by decide +kernel
theorem dX9_isDigit_5 : decode cX9_isDigit 5 = .ok (.invokestatic 58, 3) := by decide +kernel
theorem dX9_isDigit_8 : decode cX9_isDigit 8 = .ok (.ireturn, 1) := by decide +kernel
theorem dX9_isSign_0 : decode cX9_isSign 0 = .ok (.iload_n 0, 1) := by decide +kernel
theorem dX9_isSign_1 : decode cX9_isSign 1 = .ok (.bipush 43, 2) := by decide +kernel
theorem dX9_isSign_3 : decode cX9_isSign 3 = .ok (.if_icmp .eq 57, 3) := by decide +kernel
theorem dX9_isSign_6 : decode cX9_isSign 6 = .ok (.iload_n 0, 1) := by decide +kernel
theorem dX9_isSign_7 : decode cX9_isSign 7 = .ok (.bipush 45, 2) := by decide +kernel
theorem dX9_isSign_9 : decode cX9_isSign 9 = .ok (.if_icmp .eq 51, 3) := by decide +kernel
theorem dX9_isSign_12 : decode cX9_isSign 12 = .ok (.iload_n 0, 1) := by decide +kernel
theorem dX9_isSign_13 : decode cX9_isSign 13 = .ok (.bipush 42, 2) := by decide +kernel
theorem dX9_isSign_15 : decode cX9_isSign 15 = .ok (.if_icmp .eq 45, 3) := by decide +kernel
theorem dX9_isSign_18 : decode cX9_isSign 18 = .ok (.iload_n 0, 1) := by decide +kernel
theorem dX9_isSign_19 : decode cX9_isSign 19 = .ok (.bipush 60, 2) := by decide +kernel
theorem dX9_isSign_21 : decode cX9_isSign 21 = .ok (.if_icmp .eq 39, 3) := by decide +kernel
theorem dX9_isSign_24 : decode cX9_isSign 24 = .ok (.iload_n 0, 1) := by decide +kernel
theorem dX9_isSign_25 : decode cX9_isSign 25 = .ok (.bipush 62, 2) := by decide +kernel
theorem dX9_isSign_27 : decode cX9_isSign 27 = .ok (.if_icmp .eq 33, 3) := by decide +kernel
theorem dX9_isSign_30 : decode cX9_isSign 30 = .ok (.iload_n 0, 1) := by decide +kernel
theorem dX9_isSign_31 : decode cX9_isSign 31 = .ok (.bipush 61, 2) := by decide +kernel
theorem dX9_isSign_33 : decode cX9_isSign 33 = .ok (.if_icmp .eq 27, 3) := by decide +kernel
theorem dX9_isSign_36 : decode cX9_isSign 36 = .ok (.iload_n 0, 1) := by decide +kernel
theorem dX9_isSign_37 : decode cX9_isSign 37 = .ok (.bipush 38, 2) := by decide +kernel
theorem dX9_isSign_39 : decode cX9_isSign 39 = .ok (.if_icmp .eq 21, 3) := by decide +kernel
theorem dX9_isSign_42 : decode cX9_isSign 42 = .ok (.iload_n 0, 1) := by decide +kernel
theorem dX9_isSign_43 : decode cX9_isSign 43 = .ok (.bipush 124, 2) := by decide +kernel
theorem dX9_isSign_45 : decode cX9_isSign 45 = .ok (.if_icmp .eq 15, 3) := by decide +kernel
theorem dX9_isSign_48 : decode cX9_isSign 48 = .ok (.iload_n 0, 1) := by decide +kernel
theorem dX9_isSign_49 : decode cX9_isSign 49 = .ok (.bipush 44, 2) := by decide +kernel
theorem dX9_isSign_51 : decode cX9_isSign 51 = .ok (.if_icmp .eq 9, 3) := by decide +kernel
theorem dX9_isSign_54 : decode cX9_isSign 54 = .ok (.iload_n 0, 1) := by decide +kernel
theorem dX9_isSign_55 : decode cX9_isSign 55 = .ok (.bipush 35, 2) := by decide +kernel
theorem dX9_isSign_57 : decode cX9_isSign 57 = .ok (.if_icmp .ne 7, 3) := by decide +kernel
theorem dX9_isSign_60 : decode cX9_isSign 60 = .ok (.iconst 1, 1) := by decide +kernel
theorem dX9_isSign_61 : decode cX9_isSign 61 = .ok (.goto 4, 3) := by decide +kernel
theorem dX9_isSign_64 : decode cX9_isSign 64 = .ok (.iconst 0, 1) := by decide +kernel
theorem dX9_isSign_65 : decode cX9_isSign 65 = .ok (.ireturn, 1) := by decide +kernel
theorem dX9_reduces_0 : decode cX9_reduces 0 = .ok (.iload_n 0, 1) := by decide +kernel
theorem dX9_reduces_1 : decode cX9_reduces 1 = .ok (.bipush 43, 2) := by decide +kernel
theorem dX9_reduces_3 : decode cX9_reduces 3 = .ok (.if_icmp .eq 21, 3) := by decide +kernel
theorem dX9_reduces_6 : decode cX9_reduces 6 = .ok (.iload_n 0, 1) := by decide +kernel
theorem dX9_reduces_7 : decode cX9_reduces 7 = .ok (.bipush 42, 2) := by decide +kernel
theorem dX9_reduces_9 : decode cX9_reduces 9 = .ok (.if_icmp .eq 15, 3) := by decide +kernel
theorem dX9_reduces_12 : decode cX9_reduces 12 = .ok (.iload_n 0, 1) := by decide +kernel
theorem dX9_reduces_13 : decode cX9_reduces 13 = .ok (.bipush 38, 2) := by decide +kernel
theorem dX9_reduces_15 : decode cX9_reduces 15 = .ok (.if_icmp .eq 9, 3) := by decide +kernel
theorem dX9_reduces_18 : decode cX9_reduces 18 = .ok (.iload_n 0, 1) := by decide +kernel
theorem dX9_reduces_19 : decode cX9_reduces 19 = .ok (.bipush 124, 2) := by decide +kernel
theorem dX9_reduces_21 : decode cX9_reduces 21 = .ok (.if_icmp .ne 7, 3) := by decide +kernel
theorem dX9_reduces_24 : decode cX9_reduces 24 = .ok (.iconst 1, 1) := by decide +kernel
theorem dX9_reduces_25 : decode cX9_reduces 25 = .ok (.goto 4, 3) := by decide +kernel
theorem dX9_reduces_28 : decode cX9_reduces 28 = .ok (.iconst 0, 1) := by decide +kernel
theorem dX9_reduces_29 : decode cX9_reduces 29 = .ok (.ireturn, 1) := by decide +kernel
theorem dX9_keep_0 : decode cX9_keep 0 = .ok (.aload_n 0, 1) := by decide +kernel
theorem dX9_keep_1 : decode cX9_keep 1 = .ok (.getfield 20, 3) := by decide +kernel
theorem dX9_keep_4 : decode cX9_keep 4 = .ok (.aload_n 0, 1) := by decide +kernel
theorem dX9_keep_5 : decode cX9_keep 5 = .ok (.getfield 78, 3) := by decide +kernel
theorem dX9_keep_8 : decode cX9_keep 8 = .ok (.iload_n 1, 1) := by decide +kernel
theorem dX9_keep_9 : decode cX9_keep 9 = .ok (.iastore, 1) := by decide +kernel
theorem dX9_keep_10 : decode cX9_keep 10 = .ok (.aload_n 0, 1) := by decide +kernel
theorem dX9_keep_11 : decode cX9_keep 11 = .ok (.getfield 23, 3) := by decide +kernel
theorem dX9_keep_14 : decode cX9_keep 14 = .ok (.aload_n 0, 1) := by decide +kernel
theorem dX9_keep_15 : decode cX9_keep 15 = .ok (.getfield 78, 3) := by decide +kernel
theorem dX9_keep_18 : decode cX9_keep 18 = .ok (.iload_n 2, 1) := by decide +kernel
theorem dX9_keep_19 : decode cX9_keep 19 = .ok (.iastore, 1) := by decide +kernel
theorem dX9_keep_20 : decode cX9_keep 20 = .ok (.aload_n 0, 1) := by decide +kernel
theorem dX9_keep_21 : decode cX9_keep 21 = .ok (.getfield 26, 3) := by decide +kernel
theorem dX9_keep_24 : decode cX9_keep 24 = .ok (.aload_n 0, 1) := by decide +kernel
theorem dX9_keep_25 : decode cX9_keep 25 = .ok (.getfield 78, 3) := by decide +kernel
theorem dX9_keep_28 : decode cX9_keep 28 = .ok (.iload_n 3, 1) := by decide +kernel
theorem dX9_keep_29 : decode cX9_keep 29 = .ok (.iastore, 1) := by decide +kernel
theorem dX9_keep_30 : decode cX9_keep 30 = .ok (.aload_n 0, 1) := by decide +kernel
theorem dX9_keep_31 : decode cX9_keep 31 = .ok (.dup, 1) := by decide +kernel
theorem dX9_keep_32 : decode cX9_keep 32 = .ok (.getfield 78, 3) := by decide +kernel
theorem dX9_keep_35 : decode cX9_keep 35 = .ok (.iconst 1, 1) := by decide +kernel
theorem dX9_keep_36 : decode cX9_keep 36 = .ok (.iadd, 1) := by decide +kernel
theorem dX9_keep_37 : decode cX9_keep 37 = .ok (.putfield 78, 3) := by decide +kernel
theorem dX9_keep_40 : decode cX9_keep 40 = .ok (.return_, 1) := by decide +kernel
theorem dX9_number_0 : decode cX9_number 0 = .ok (.iload_n 1, 1) := by decide +kernel
theorem dX9_number_1 : decode cX9_number 1 = .ok (.istore_n 2, 1) := by decide +kernel
theorem dX9_number_2 : decode cX9_number 2 = .ok (.iconst 0, 1) := by decide +kernel
theorem dX9_number_3 : decode cX9_number 3 = .ok (.istore_n 3, 1) := by decide +kernel
theorem dX9_number_4 : decode cX9_number 4 = .ok (.aload_n 0, 1) := by decide +kernel
theorem dX9_number_5 : decode cX9_number 5 = .ok (.iload_n 2, 1) := by decide +kernel
theorem dX9_number_6 : decode cX9_number 6 = .ok (.invokevirtual 81, 3) := by decide +kernel
theorem dX9_number_9 : decode cX9_number 9 = .ok (.invokestatic 84, 3) := by decide +kernel
theorem dX9_number_12 : decode cX9_number 12 = .ok (.ifCond .eq 31, 3) := by decide +kernel
theorem dX9_number_15 : decode cX9_number 15 = .ok (.iload_n 2, 1) := by decide +kernel
theorem dX9_number_16 : decode cX9_number 16 = .ok (.iload_n 1, 1) := by decide +kernel
theorem dX9_number_17 : decode cX9_number 17 = .ok (.isub, 1) := by decide +kernel
theorem dX9_number_18 : decode cX9_number 18 = .ok (.iconst 5, 1) := by decide +kernel
theorem dX9_number_19 : decode cX9_number 19 = .ok (.if_icmp .ge 24, 3) := by decide +kernel
theorem dX9_number_22 : decode cX9_number 22 = .ok (.bipush 10, 2) := by decide +kernel
theorem dX9_number_24 : decode cX9_number 24 = .ok (.iload_n 3, 1) := by decide +kernel
theorem dX9_number_25 : decode cX9_number 25 = .ok (.imul, 1) := by decide +kernel
theorem dX9_number_26 : decode cX9_number 26 = .ok (.aload_n 0, 1) := by decide +kernel
theorem dX9_number_27 : decode cX9_number 27 = .ok (.getfield 7, 3) := by decide +kernel
theorem dX9_number_30 : decode cX9_number 30 = .ok (.iload_n 2, 1) := by decide +kernel
theorem dX9_number_31 : decode cX9_number 31 = .ok (.iaload, 1) := by decide +kernel
theorem dX9_number_32 : decode cX9_number 32 = .ok (.iadd, 1) := by decide +kernel
theorem dX9_number_33 : decode cX9_number 33 = .ok (.bipush 48, 2) := by decide +kernel
theorem dX9_number_35 : decode cX9_number 35 = .ok (.isub, 1) := by decide +kernel
theorem dX9_number_36 : decode cX9_number 36 = .ok (.istore_n 3, 1) := by decide +kernel
theorem dX9_number_37 : decode cX9_number 37 = .ok (.iinc 2 1, 3) := by decide +kernel
theorem dX9_number_40 : decode cX9_number 40 = .ok (.goto (-36), 3) := by decide +kernel
theorem dX9_number_43 : decode cX9_number 43 = .ok (.iload_n 2, 1) := by decide +kernel
theorem dX9_number_44 : decode cX9_number 44 = .ok (.iload_n 1, 1) := by decide +kernel
theorem dX9_number_45 : decode cX9_number 45 = .ok (.if_icmp .eq 10, 3) := by decide +kernel
theorem dX9_number_48 : decode cX9_number 48 = .ok (.iload_n 2, 1) := by decide +kernel
theorem dX9_number_49 : decode cX9_number 49 = .ok (.iload_n 1, 1) := by decide +kernel
theorem dX9_number_50 : decode cX9_number 50 = .ok (.isub, 1) := by decide +kernel
theorem dX9_number_51 : decode cX9_number 51 = .ok (.iconst 5, 1) := by decide +kernel
theorem dX9_number_52 : decode cX9_number 52 = .ok (.if_icmp .ne 5, 3) := by decide +kernel
theorem dX9_number_55 : decode cX9_number 55 = .ok (.iconst (-1), 1) := by decide +kernel
theorem dX9_number_56 : decode cX9_number 56 = .ok (.ireturn, 1) := by decide +kernel
theorem dX9_number_57 : decode cX9_number 57 = .ok (.aload_n 0, 1) := by decide +kernel
theorem dX9_number_58 : decode cX9_number 58 = .ok (.getfield 29, 3) := by decide +kernel
theorem dX9_number_61 : decode cX9_number 61 = .ok (.aload_n 0, 1) := by decide +kernel
theorem dX9_number_62 : decode cX9_number 62 = .ok (.getfield 87, 3) := by decide +kernel
theorem dX9_number_65 : decode cX9_number 65 = .ok (.iload_n 3, 1) := by decide +kernel
theorem dX9_number_66 : decode cX9_number 66 = .ok (.iastore, 1) := by decide +kernel
theorem dX9_number_67 : decode cX9_number 67 = .ok (.aload_n 0, 1) := by decide +kernel
theorem dX9_number_68 : decode cX9_number 68 = .ok (.dup, 1) := by decide +kernel
theorem dX9_number_69 : decode cX9_number 69 = .ok (.getfield 87, 3) := by decide +kernel
theorem dX9_number_72 : decode cX9_number 72 = .ok (.iconst 1, 1) := by decide +kernel
theorem dX9_number_73 : decode cX9_number 73 = .ok (.iadd, 1) := by decide +kernel
theorem dX9_number_74 : decode cX9_number 74 = .ok (.putfield 87, 3) := by decide +kernel
theorem dX9_number_77 : decode cX9_number 77 = .ok (.iload_n 2, 1) := by decide +kernel
theorem dX9_number_78 : decode cX9_number 78 = .ok (.ireturn, 1) := by decide +kernel
theorem dX9_constant_0 : decode cX9_constant 0 = .ok (.aload_n 0, 1) := by decide +kernel
theorem dX9_constant_1 : decode cX9_constant 1 = .ok (.getfield 87, 3) := by decide +kernel
theorem dX9_constant_4 : decode cX9_constant 4 = .ok (.istore_n 2, 1) := by decide +kernel
theorem dX9_constant_5 : decode cX9_constant 5 = .ok (.aload_n 0, 1) := by decide +kernel
theorem dX9_constant_6 : decode cX9_constant 6 = .ok (.iload_n 1, 1) := by decide +kernel
theorem dX9_constant_7 : decode cX9_constant 7 = .ok (.invokevirtual 90, 3) := by decide +kernel
theorem dX9_constant_10 : decode cX9_constant 10 = .ok (.istore_n 3, 1) := by decide +kernel
theorem dX9_constant_11 : decode cX9_constant 11 = .ok (.iconst 0, 1) := by decide +kernel
theorem dX9_constant_12 : decode cX9_constant 12 = .ok (.istore 4, 2) := by decide +kernel
theorem dX9_constant_14 : decode cX9_constant 14 = .ok (.iload 4, 2) := by decide +kernel
theorem dX9_constant_16 : decode cX9_constant 16 = .ok (.bipush 24, 2) := by decide +kernel
theorem dX9_constant_18 : decode cX9_constant 18 = .ok (.if_icmp .ge 44, 3) := by decide +kernel
theorem dX9_constant_21 : decode cX9_constant 21 = .ok (.iload_n 3, 1) := by decide +kernel
theorem dX9_constant_22 : decode cX9_constant 22 = .ok (.ifCond .le 40, 3) := by decide +kernel
theorem dX9_constant_25 : decode cX9_constant 25 = .ok (.aload_n 0, 1) := by decide +kernel
theorem dX9_constant_26 : decode cX9_constant 26 = .ok (.iload_n 3, 1) := by decide +kernel
theorem dX9_constant_27 : decode cX9_constant 27 = .ok (.invokevirtual 81, 3) := by decide +kernel
theorem dX9_constant_30 : decode cX9_constant 30 = .ok (.bipush 32, 2) := by decide +kernel
theorem dX9_constant_32 : decode cX9_constant 32 = .ok (.if_icmp .ne 30, 3) := by decide +kernel
theorem dX9_constant_35 : decode cX9_constant 35 = .ok (.aload_n 0, 1) := by decide +kernel
theorem dX9_constant_36 : decode cX9_constant 36 = .ok (.iload_n 3, 1) := by decide +kernel
theorem dX9_constant_37 : decode cX9_constant 37 = .ok (.iconst 1, 1) := by decide +kernel
theorem dX9_constant_38 : decode cX9_constant 38 = .ok (.iadd, 1) := by decide +kernel
theorem dX9_constant_39 : decode cX9_constant 39 = .ok (.invokevirtual 81, 3) := by decide +kernel
theorem dX9_constant_42 : decode cX9_constant 42 = .ok (.invokestatic 84, 3) := by decide +kernel
theorem dX9_constant_45 : decode cX9_constant 45 = .ok (.ifCond .eq 17, 3) := by decide +kernel
theorem dX9_constant_48 : decode cX9_constant 48 = .ok (.aload_n 0, 1) := by decide +kernel
theorem dX9_constant_49 : decode cX9_constant 49 = .ok (.iload_n 3, 1) := by decide +kernel
theorem dX9_constant_50 : decode cX9_constant 50 = .ok (.iconst 1, 1) := by decide +kernel
theorem dX9_constant_51 : decode cX9_constant 51 = .ok (.iadd, 1) := by decide +kernel
theorem dX9_constant_52 : decode cX9_constant 52 = .ok (.invokevirtual 90, 3) := by decide +kernel
theorem dX9_constant_55 : decode cX9_constant 55 = .ok (.istore_n 3, 1) := by decide +kernel
theorem dX9_constant_56 : decode cX9_constant 56 = .ok (.iinc 4 1, 3) := by decide +kernel
theorem dX9_constant_59 : decode cX9_constant 59 = .ok (.goto (-45), 3) := by decide +kernel
theorem dX9_constant_62 : decode cX9_constant 62 = .ok (.aload_n 0, 1) := by decide +kernel
theorem dX9_constant_63 : decode cX9_constant 63 = .ok (.iconst 2, 1) := by decide +kernel
theorem dX9_constant_64 : decode cX9_constant 64 = .ok (.iload_n 2, 1) := by decide +kernel
theorem dX9_constant_65 : decode cX9_constant 65 = .ok (.aload_n 0, 1) := by decide +kernel
theorem dX9_constant_66 : decode cX9_constant 66 = .ok (.getfield 87, 3) := by decide +kernel
theorem dX9_constant_69 : decode cX9_constant 69 = .ok (.iload_n 2, 1) := by decide +kernel
theorem dX9_constant_70 : decode cX9_constant 70 = .ok (.isub, 1) := by decide +kernel
theorem dX9_constant_71 : decode cX9_constant 71 = .ok (.invokevirtual 93, 3) := by decide +kernel
theorem dX9_constant_74 : decode cX9_constant 74 = .ok (.iload_n 3, 1) := by decide +kernel
theorem dX9_constant_75 : decode cX9_constant 75 = .ok (.ireturn, 1) := by decide +kernel
theorem dX9_cut_0 : decode cX9_cut 0 = .ok (.aload_n 0, 1) := by decide +kernel
theorem dX9_cut_1 : decode cX9_cut 1 = .ok (.iconst 0, 1) := by decide +kernel
theorem dX9_cut_2 : decode cX9_cut 2 = .ok (.putfield 78, 3) := by decide +kernel
theorem dX9_cut_5 : decode cX9_cut 5 = .ok (.aload_n 0, 1) := by decide +kernel
theorem dX9_cut_6 : decode cX9_cut 6 = .ok (.iconst 0, 1) := by decide +kernel
theorem dX9_cut_7 : decode cX9_cut 7 = .ok (.putfield 87, 3) := by decide +kernel
theorem dX9_cut_10 : decode cX9_cut 10 = .ok (.iconst 0, 1) := by decide +kernel
theorem dX9_cut_11 : decode cX9_cut 11 = .ok (.istore_n 1, 1) := by decide +kernel
theorem dX9_cut_12 : decode cX9_cut 12 = .ok (.iconst 1, 1) := by decide +kernel
theorem dX9_cut_13 : decode cX9_cut 13 = .ok (.istore_n 2, 1) := by decide +kernel
theorem dX9_cut_14 : decode cX9_cut 14 = .ok (.iconst 0, 1) := by decide +kernel
theorem dX9_cut_15 : decode cX9_cut 15 = .ok (.istore_n 3, 1) := by decide +kernel
theorem dX9_cut_16 : decode cX9_cut 16 = .ok (.iconst 0, 1) := by decide +kernel
theorem dX9_cut_17 : decode cX9_cut 17 = .ok (.istore 4, 2) := by decide +kernel
theorem dX9_cut_19 : decode cX9_cut 19 = .ok (.iload 4, 2) := by decide +kernel
theorem dX9_cut_21 : decode cX9_cut 21 = .ok (.bipush 41, 2) := by decide +kernel
theorem dX9_cut_23 : decode cX9_cut 23 = .ok (.if_icmp .ge 265, 3) := by decide +kernel
theorem dX9_cut_26 : decode cX9_cut 26 = .ok (.iload_n 3, 1) := by decide +kernel
theorem dX9_cut_27 : decode cX9_cut 27 = .ok (.ifCond .lt 261, 3) := by decide +kernel
theorem dX9_cut_30 : decode cX9_cut 30 = .ok (.iload_n 3, 1) := by decide +kernel
theorem dX9_cut_31 : decode cX9_cut 31 = .ok (.aload_n 0, 1) := by decide +kernel
theorem dX9_cut_32 : decode cX9_cut 32 = .ok (.getfield 51, 3) := by decide +kernel
theorem dX9_cut_35 : decode cX9_cut 35 = .ok (.if_icmp .ge 253, 3) := by decide +kernel
theorem dX9_cut_38 : decode cX9_cut 38 = .ok (.aload_n 0, 1) := by decide +kernel
theorem dX9_cut_39 : decode cX9_cut 39 = .ok (.getfield 7, 3) := by decide +kernel
theorem dX9_cut_42 : decode cX9_cut 42 = .ok (.iload_n 3, 1) := by decide +kernel
theorem dX9_cut_43 : decode cX9_cut 43 = .ok (.iaload, 1) := by decide +kernel
theorem dX9_cut_44 : decode cX9_cut 44 = .ok (.istore 5, 2) := by decide +kernel
theorem dX9_cut_46 : decode cX9_cut 46 = .ok (.aload_n 0, 1) := by decide +kernel
theorem dX9_cut_47 : decode cX9_cut 47 = .ok (.iload_n 3, 1) := by decide +kernel
theorem dX9_cut_48 : decode cX9_cut 48 = .ok (.iconst 1, 1) := by decide +kernel
theorem dX9_cut_49 : decode cX9_cut 49 = .ok (.iadd, 1) := by decide +kernel
theorem dX9_cut_50 : decode cX9_cut 50 = .ok (.invokevirtual 81, 3) := by decide +kernel
theorem dX9_cut_53 : decode cX9_cut 53 = .ok (.istore 6, 2) := by decide +kernel
theorem dX9_cut_55 : decode cX9_cut 55 = .ok (.iinc 3 1, 3) := by decide +kernel
theorem dX9_cut_58 : decode cX9_cut 58 = .ok (.iload_n 2, 1) := by decide +kernel
theorem dX9_cut_59 : decode cX9_cut 59 = .ok (.ifCond .ne 51, 3) := by decide +kernel
theorem dX9_cut_62 : decode cX9_cut 62 = .ok (.iload 5, 2) := by decide +kernel
theorem dX9_cut_64 : decode cX9_cut 64 = .ok (.bipush 41, 2) := by decide +kernel
theorem dX9_cut_66 : decode cX9_cut 66 = .ok (.if_icmp .ne 20, 3) := by decide +kernel
theorem dX9_cut_69 : decode cX9_cut 69 = .ok (.iload_n 1, 1) := by decide +kernel
theorem dX9_cut_70 : decode cX9_cut 70 = .ok (.ifCond .le 16, 3) := by decide +kernel
theorem dX9_cut_73 : decode cX9_cut 73 = .ok (.iinc 1 (-1), 3) := by decide +kernel
theorem dX9_cut_76 : decode cX9_cut 76 = .ok (.aload_n 0, 1) := by decide +kernel
theorem dX9_cut_77 : decode cX9_cut 77 = .ok (.iconst 5, 1) := by decide +kernel
theorem dX9_cut_78 : decode cX9_cut 78 = .ok (.iconst 0, 1) := by decide +kernel
theorem dX9_cut_79 : decode cX9_cut 79 = .ok (.iconst 0, 1) := by decide +kernel
theorem dX9_cut_80 : decode cX9_cut 80 = .ok (.invokevirtual 93, 3) := by decide +kernel
theorem dX9_cut_83 : decode cX9_cut 83 = .ok (.goto 199, 3) := by decide +kernel
theorem dX9_cut_86 : decode cX9_cut 86 = .ok (.iload 5, 2) := by decide +kernel
theorem dX9_cut_88 : decode cX9_cut 88 = .ok (.invokestatic 97, 3) := by decide +kernel
theorem dX9_cut_91 : decode cX9_cut 91 = .ok (.ifCond .eq 17, 3) := by decide +kernel
theorem dX9_cut_94 : decode cX9_cut 94 = .ok (.iconst 1, 1) := by decide +kernel
theorem dX9_cut_95 : decode cX9_cut 95 = .ok (.istore_n 2, 1) := by decide +kernel
theorem dX9_cut_96 : decode cX9_cut 96 = .ok (.aload_n 0, 1) := by decide +kernel
theorem dX9_cut_97 : decode cX9_cut 97 = .ok (.bipush 6, 2) := by decide +kernel
theorem dX9_cut_99 : decode cX9_cut 99 = .ok (.iload 5, 2) := by decide +kernel
theorem dX9_cut_101 : decode cX9_cut 101 = .ok (.iconst 0, 1) := by decide +kernel
theorem dX9_cut_102 : decode cX9_cut 102 = .ok (.invokevirtual 93, 3) := by decide +kernel
theorem dX9_cut_105 : decode cX9_cut 105 = .ok (.goto 177, 3) := by decide +kernel
theorem dX9_cut_108 : decode cX9_cut 108 = .ok (.iconst 0, 1) := by decide +kernel
theorem dX9_cut_109 : decode cX9_cut 109 = .ok (.ireturn, 1) := by decide +kernel
theorem dX9_cut_110 : decode cX9_cut 110 = .ok (.iload 5, 2) := by decide +kernel
theorem dX9_cut_112 : decode cX9_cut 112 = .ok (.bipush 45, 2) := by decide +kernel
theorem dX9_cut_114 : decode cX9_cut 114 = .ok (.if_icmp .eq 10, 3) := by decide +kernel
theorem dX9_cut_117 : decode cX9_cut 117 = .ok (.iload 5, 2) := by decide +kernel
theorem dX9_cut_119 : decode cX9_cut 119 = .ok (.bipush 126, 2) := by decide +kernel
theorem dX9_cut_121 : decode cX9_cut 121 = .ok (.if_icmp .ne 15, 3) := by decide +kernel
theorem dX9_cut_124 : decode cX9_cut 124 = .ok (.aload_n 0, 1) := by decide +kernel
theorem dX9_cut_125 : decode cX9_cut 125 = .ok (.bipush 7, 2) := by decide +kernel
theorem dX9_cut_127 : decode cX9_cut 127 = .ok (.iload 5, 2) := by decide +kernel
theorem dX9_cut_129 : decode cX9_cut 129 = .ok (.iconst 0, 1) := by decide +kernel
theorem dX9_cut_130 : decode cX9_cut 130 = .ok (.invokevirtual 93, 3) := by decide +kernel
theorem dX9_cut_133 : decode cX9_cut 133 = .ok (.goto 149, 3) := by decide +kernel
theorem dX9_cut_136 : decode cX9_cut 136 = .ok (.iload 5, 2) := by decide +kernel
theorem dX9_cut_138 : decode cX9_cut 138 = .ok (.bipush 47, 2) := by decide +kernel
theorem dX9_cut_140 : decode cX9_cut 140 = .ok (.if_icmp .eq 10, 3) := by decide +kernel
theorem dX9_cut_143 : decode cX9_cut 143 = .ok (.iload 5, 2) := by decide +kernel
theorem dX9_cut_145 : decode cX9_cut 145 = .ok (.bipush 92, 2) := by decide +kernel
theorem dX9_cut_147 : decode cX9_cut 147 = .ok (.if_icmp .ne 38, 3) := by decide +kernel
theorem dX9_cut_150 : decode cX9_cut 150 = .ok (.iload 6, 2) := by decide +kernel
theorem dX9_cut_152 : decode cX9_cut 152 = .ok (.invokestatic 100, 3) := by decide +kernel
theorem dX9_cut_155 : decode cX9_cut 155 = .ok (.ifCond .eq 30, 3) := by decide +kernel
theorem dX9_cut_158 : decode cX9_cut 158 = .ok (.aload_n 0, 1) := by decide +kernel
theorem dX9_cut_159 : decode cX9_cut 159 = .ok (.iload 5, 2) := by decide +kernel
theorem dX9_cut_161 : decode cX9_cut 161 = .ok (.bipush 47, 2) := by decide +kernel
theorem dX9_cut_163 : decode cX9_cut 163 = .ok (.if_icmp .ne 8, 3) := by decide +kernel
theorem dX9_cut_166 : decode cX9_cut 166 = .ok (.bipush 8, 2) := by decide +kernel
theorem dX9_cut_168 : decode cX9_cut 168 = .ok (.goto 5, 3) := by decide +kernel
theorem dX9_cut_171 : decode cX9_cut 171 = .ok (.bipush 9, 2) := by decide +kernel
theorem dX9_cut_173 : decode cX9_cut 173 = .ok (.iload 6, 2) := by decide +kernel
theorem dX9_cut_175 : decode cX9_cut 175 = .ok (.iconst 0, 1) := by decide +kernel
theorem dX9_cut_176 : decode cX9_cut 176 = .ok (.invokevirtual 93, 3) := by decide +kernel
theorem dX9_cut_179 : decode cX9_cut 179 = .ok (.iinc 3 1, 3) := by decide +kernel
theorem dX9_cut_182 : decode cX9_cut 182 = .ok (.goto 100, 3) := by decide +kernel
theorem dX9_cut_185 : decode cX9_cut 185 = .ok (.iload 5, 2) := by decide +kernel
theorem dX9_cut_187 : decode cX9_cut 187 = .ok (.bipush 40, 2) := by decide +kernel
theorem dX9_cut_189 : decode cX9_cut 189 = .ok (.if_icmp .ne 16, 3) := by decide +kernel
theorem dX9_cut_192 : decode cX9_cut 192 = .ok (.iinc 1 1, 3) := by decide +kernel
theorem dX9_cut_195 : decode cX9_cut 195 = .ok (.aload_n 0, 1) := by decide +kernel
theorem dX9_cut_196 : decode cX9_cut 196 = .ok (.iconst 4, 1) := by decide +kernel
theorem dX9_cut_197 : decode cX9_cut 197 = .ok (.iconst 0, 1) := by decide +kernel
theorem dX9_cut_198 : decode cX9_cut 198 = .ok (.iconst 0, 1) := by decide +kernel
theorem dX9_cut_199 : decode cX9_cut 199 = .ok (.invokevirtual 93, 3) := by decide +kernel
theorem dX9_cut_202 : decode cX9_cut 202 = .ok (.goto 80, 3) := by decide +kernel
theorem dX9_cut_205 : decode cX9_cut 205 = .ok (.iconst 0, 1) := by decide +kernel
theorem dX9_cut_206 : decode cX9_cut 206 = .ok (.istore_n 2, 1) := by decide +kernel
theorem dX9_cut_207 : decode cX9_cut 207 = .ok (.iload 5, 2) := by decide +kernel
theorem dX9_cut_209 : decode cX9_cut 209 = .ok (.bipush 97, 2) := by decide +kernel
theorem dX9_cut_211 : decode cX9_cut 211 = .ok (.bipush 104, 2) := by decide +kernel
theorem dX9_cut_213 : decode cX9_cut 213 = .ok (.invokestatic 58, 3) := by decide +kernel
theorem dX9_cut_216 : decode cX9_cut 216 = .ok (.ifCond .eq 17, 3) := by decide +kernel
theorem dX9_cut_219 : decode cX9_cut 219 = .ok (.aload_n 0, 1) := by decide +kernel
theorem dX9_cut_220 : decode cX9_cut 220 = .ok (.iconst 1, 1) := by decide +kernel
theorem dX9_cut_221 : decode cX9_cut 221 = .ok (.iload 5, 2) := by decide +kernel
theorem dX9_cut_223 : decode cX9_cut 223 = .ok (.bipush 97, 2) := by decide +kernel
theorem dX9_cut_225 : decode cX9_cut 225 = .ok (.isub, 1) := by decide +kernel
theorem dX9_cut_226 : decode cX9_cut 226 = .ok (.iconst 0, 1) := by decide +kernel
theorem dX9_cut_227 : decode cX9_cut 227 = .ok (.invokevirtual 93, 3) := by decide +kernel
theorem dX9_cut_230 : decode cX9_cut 230 = .ok (.goto 52, 3) := by decide +kernel
theorem dX9_cut_233 : decode cX9_cut 233 = .ok (.iload 5, 2) := by decide +kernel
theorem dX9_cut_235 : decode cX9_cut 235 = .ok (.bipush 105, 2) := by decide +kernel
theorem dX9_cut_237 : decode cX9_cut 237 = .ok (.if_icmp .ne 24, 3) := by decide +kernel
theorem dX9_cut_240 : decode cX9_cut 240 = .ok (.aload_n 0, 1) := by decide +kernel
theorem dX9_cut_241 : decode cX9_cut 241 = .ok (.iload_n 3, 1) := by decide +kernel
theorem dX9_cut_242 : decode cX9_cut 242 = .ok (.invokevirtual 90, 3) := by decide +kernel
theorem dX9_cut_245 : decode cX9_cut 245 = .ok (.istore_n 3, 1) := by decide +kernel
theorem dX9_cut_246 : decode cX9_cut 246 = .ok (.aload_n 0, 1) := by decide +kernel
theorem dX9_cut_247 : decode cX9_cut 247 = .ok (.iconst 3, 1) := by decide +kernel
theorem dX9_cut_248 : decode cX9_cut 248 = .ok (.aload_n 0, 1) := by decide +kernel
theorem dX9_cut_249 : decode cX9_cut 249 = .ok (.getfield 87, 3) := by decide +kernel
theorem dX9_cut_252 : decode cX9_cut 252 = .ok (.iconst 1, 1) := by decide +kernel
theorem dX9_cut_253 : decode cX9_cut 253 = .ok (.isub, 1) := by decide +kernel
theorem dX9_cut_254 : decode cX9_cut 254 = .ok (.iconst 0, 1) := by decide +kernel
theorem dX9_cut_255 : decode cX9_cut 255 = .ok (.invokevirtual 93, 3) := by decide +kernel
theorem dX9_cut_258 : decode cX9_cut 258 = .ok (.goto 24, 3) := by decide +kernel
theorem dX9_cut_261 : decode cX9_cut 261 = .ok (.iload 5, 2) := by decide +kernel
theorem dX9_cut_263 : decode cX9_cut 263 = .ok (.invokestatic 84, 3) := by decide +kernel
theorem dX9_cut_266 : decode cX9_cut 266 = .ok (.ifCond .eq 14, 3) := by decide +kernel
theorem dX9_cut_269 : decode cX9_cut 269 = .ok (.aload_n 0, 1) := by decide +kernel
theorem dX9_cut_270 : decode cX9_cut 270 = .ok (.iload_n 3, 1) := by decide +kernel
theorem dX9_cut_271 : decode cX9_cut 271 = .ok (.iconst 1, 1) := by decide +kernel
theorem dX9_cut_272 : decode cX9_cut 272 = .ok (.isub, 1) := by decide +kernel
theorem dX9_cut_273 : decode cX9_cut 273 = .ok (.invokevirtual 103, 3) := by decide +kernel
theorem dX9_cut_276 : decode cX9_cut 276 = .ok (.istore_n 3, 1) := by decide +kernel
theorem dX9_cut_277 : decode cX9_cut 277 = .ok (.goto 5, 3) := by decide +kernel
theorem dX9_cut_280 : decode cX9_cut 280 = .ok (.iconst 0, 1) := by decide +kernel
theorem dX9_cut_281 : decode cX9_cut 281 = .ok (.ireturn, 1) := by decide +kernel
theorem dX9_cut_282 : decode cX9_cut 282 = .ok (.iinc 4 1, 3) := by decide +kernel
theorem dX9_cut_285 : decode cX9_cut 285 = .ok (.goto (-266), 3) := by decide +kernel
theorem dX9_cut_288 : decode cX9_cut 288 = .ok (.iload_n 3, 1) := by decide +kernel
theorem dX9_cut_289 : decode cX9_cut 289 = .ok (.ifCond .lt 15, 3) := by decide +kernel
theorem dX9_cut_292 : decode cX9_cut 292 = .ok (.iload_n 2, 1) := by decide +kernel
theorem dX9_cut_293 : decode cX9_cut 293 = .ok (.ifCond .ne 11, 3) := by decide +kernel
theorem dX9_cut_296 : decode cX9_cut 296 = .ok (.iload_n 1, 1) := by decide +kernel
theorem dX9_cut_297 : decode cX9_cut 297 = .ok (.ifCond .ne 7, 3) := by decide +kernel
theorem dX9_cut_300 : decode cX9_cut 300 = .ok (.iconst 1, 1) := by decide +kernel
theorem dX9_cut_301 : decode cX9_cut 301 = .ok (.goto 4, 3) := by decide +kernel
theorem dX9_cut_304 : decode cX9_cut 304 = .ok (.iconst 0, 1) := by decide +kernel
theorem dX9_cut_305 : decode cX9_cut 305 = .ok (.ireturn, 1) := by decide +kernel
theorem dX9_check_0 : decode cX9_check 0 = .ok (.dload_n 1, 1) := by decide +kernel
theorem dX9_check_1 : decode cX9_check 1 = .ok (.invokestatic 62, 3) := by decide +kernel
theorem dX9_check_4 : decode cX9_check 4 = .ok (.ifCond .ne 8, 3) := by decide +kernel
theorem dX9_check_7 : decode cX9_check 7 = .ok (.aload_n 0, 1) := by decide +kernel
theorem dX9_check_8 : decode cX9_check 8 = .ok (.iconst 1, 1) := by decide +kernel
theorem dX9_check_9 : decode cX9_check 9 = .ok (.putfield 106, 3) := by decide +kernel
theorem dX9_check_12 : decode cX9_check 12 = .ok (.return_, 1) := by decide +kernel
theorem dX9_join_0 : decode cX9_join 0 = .ok (.iload_n 0, 1) := by decide +kernel
theorem dX9_join_1 : decode cX9_join 1 = .ok (.tableswitch 175 38 62 #[163, 175, 175, 175, 123, 115, 175, 119, 175, 175, 175, 175, 175, 175, 175, 175, 175, 175, 175, 175, 175, 175, 127, 151, 139], 115) := by decide +kernel
theorem dX9_join_116 : decode cX9_join 116 = .ok (.dload_n 1, 1) := by decide +kernel
theorem dX9_join_117 : decode cX9_join 117 = .ok (.dload_n 3, 1) := by decide +kernel
theorem dX9_join_118 : decode cX9_join 118 = .ok (.dadd, 1) := by decide +kernel
theorem dX9_join_119 : decode cX9_join 119 = .ok (.dreturn, 1) := by decide +kernel
theorem dX9_join_120 : decode cX9_join 120 = .ok (.dload_n 1, 1) := by decide +kernel
theorem dX9_join_121 : decode cX9_join 121 = .ok (.dload_n 3, 1) := by decide +kernel
theorem dX9_join_122 : decode cX9_join 122 = .ok (.dsub, 1) := by decide +kernel
theorem dX9_join_123 : decode cX9_join 123 = .ok (.dreturn, 1) := by decide +kernel
theorem dX9_join_124 : decode cX9_join 124 = .ok (.dload_n 1, 1) := by decide +kernel
theorem dX9_join_125 : decode cX9_join 125 = .ok (.dload_n 3, 1) := by decide +kernel
theorem dX9_join_126 : decode cX9_join 126 = .ok (.dmul, 1) := by decide +kernel
theorem dX9_join_127 : decode cX9_join 127 = .ok (.dreturn, 1) := by decide +kernel
theorem dX9_join_128 : decode cX9_join 128 = .ok (.dload_n 1, 1) := by decide +kernel
theorem dX9_join_129 : decode cX9_join 129 = .ok (.dload_n 3, 1) := by decide +kernel
theorem dX9_join_130 : decode cX9_join 130 = .ok (.dcmp .g, 1) := by decide +kernel
theorem dX9_join_131 : decode cX9_join 131 = .ok (.ifCond .ge 7, 3) := by decide +kernel
theorem dX9_join_134 : decode cX9_join 134 = .ok (.dconst 1, 1) := by decide +kernel
theorem dX9_join_135 : decode cX9_join 135 = .ok (.goto 4, 3) := by decide +kernel
theorem dX9_join_138 : decode cX9_join 138 = .ok (.dconst 0, 1) := by decide +kernel
theorem dX9_join_139 : decode cX9_join 139 = .ok (.dreturn, 1) := by decide +kernel
theorem dX9_join_140 : decode cX9_join 140 = .ok (.dload_n 1, 1) := by decide +kernel
theorem dX9_join_141 : decode cX9_join 141 = .ok (.dload_n 3, 1) := by decide +kernel
theorem dX9_join_142 : decode cX9_join 142 = .ok (.dcmp .l, 1) := by decide +kernel
theorem dX9_join_143 : decode cX9_join 143 = .ok (.ifCond .le 7, 3) := by decide +kernel
theorem dX9_join_146 : decode cX9_join 146 = .ok (.dconst 1, 1) := by decide +kernel
theorem dX9_join_147 : decode cX9_join 147 = .ok (.goto 4, 3) := by decide +kernel
theorem dX9_join_150 : decode cX9_join 150 = .ok (.dconst 0, 1) := by decide +kernel
theorem dX9_join_151 : decode cX9_join 151 = .ok (.dreturn, 1) := by decide +kernel
theorem dX9_join_152 : decode cX9_join 152 = .ok (.dload_n 1, 1) := by decide +kernel
theorem dX9_join_153 : decode cX9_join 153 = .ok (.dload_n 3, 1) := by decide +kernel
theorem dX9_join_154 : decode cX9_join 154 = .ok (.dcmp .l, 1) := by decide +kernel
theorem dX9_join_155 : decode cX9_join 155 = .ok (.ifCond .ne 7, 3) := by decide +kernel
theorem dX9_join_158 : decode cX9_join 158 = .ok (.dconst 1, 1) := by decide +kernel
theorem dX9_join_159 : decode cX9_join 159 = .ok (.goto 4, 3) := by decide +kernel
theorem dX9_join_162 : decode cX9_join 162 = .ok (.dconst 0, 1) := by decide +kernel
theorem dX9_join_163 : decode cX9_join 163 = .ok (.dreturn, 1) := by decide +kernel
theorem dX9_join_164 : decode cX9_join 164 = .ok (.dload_n 1, 1) := by decide +kernel
theorem dX9_join_165 : decode cX9_join 165 = .ok (.dload_n 3, 1) := by decide +kernel
theorem dX9_join_166 : decode cX9_join 166 = .ok (.dcmp .g, 1) := by decide +kernel
theorem dX9_join_167 : decode cX9_join 167 = .ok (.ifCond .ge 7, 3) := by decide +kernel
theorem dX9_join_170 : decode cX9_join 170 = .ok (.dload_n 1, 1) := by decide +kernel
theorem dX9_join_171 : decode cX9_join 171 = .ok (.goto 4, 3) := by decide +kernel
theorem dX9_join_174 : decode cX9_join 174 = .ok (.dload_n 3, 1) := by decide +kernel
theorem dX9_join_175 : decode cX9_join 175 = .ok (.dreturn, 1) := by decide +kernel
theorem dX9_join_176 : decode cX9_join 176 = .ok (.dload_n 1, 1) := by decide +kernel
theorem dX9_join_177 : decode cX9_join 177 = .ok (.dload_n 3, 1) := by decide +kernel
theorem dX9_join_178 : decode cX9_join 178 = .ok (.dcmp .l, 1) := by decide +kernel
theorem dX9_join_179 : decode cX9_join 179 = .ok (.ifCond .le 7, 3) := by decide +kernel
theorem dX9_join_182 : decode cX9_join 182 = .ok (.dload_n 1, 1) := by decide +kernel
theorem dX9_join_183 : decode cX9_join 183 = .ok (.goto 4, 3) := by decide +kernel
theorem dX9_join_186 : decode cX9_join 186 = .ok (.dload_n 3, 1) := by decide +kernel
theorem dX9_join_187 : decode cX9_join 187 = .ok (.dreturn, 1) := by decide +kernel
theorem dX9_load_0 : decode cX9_load 0 = .ok (.aload_n 0, 1) := by decide +kernel
theorem dX9_load_1 : decode cX9_load 1 = .ok (.getfield 23, 3) := by decide +kernel
theorem dX9_load_4 : decode cX9_load 4 = .ok (.iload_n 1, 1) := by decide +kernel
theorem dX9_load_5 : decode cX9_load 5 = .ok (.iaload, 1) := by decide +kernel
theorem dX9_load_6 : decode cX9_load 6 = .ok (.istore_n 2, 1) := by decide +kernel
theorem dX9_load_7 : decode cX9_load 7 = .ok (.aload_n 0, 1) := by decide +kernel
theorem dX9_load_8 : decode cX9_load 8 = .ok (.aload_n 0, 1) := by decide +kernel
theorem dX9_load_9 : decode cX9_load 9 = .ok (.getfield 20, 3) := by decide +kernel
theorem dX9_load_12 : decode cX9_load 12 = .ok (.iload_n 1, 1) := by decide +kernel
theorem dX9_load_13 : decode cX9_load 13 = .ok (.iaload, 1) := by decide +kernel
theorem dX9_load_14 : decode cX9_load 14 = .ok (.iconst 2, 1) := by decide +kernel
theorem dX9_load_15 : decode cX9_load 15 = .ok (.if_icmp .ne 7, 3) := by decide +kernel
theorem dX9_load_18 : decode cX9_load 18 = .ok (.iconst 1, 1) := by decide +kernel
theorem dX9_load_19 : decode cX9_load 19 = .ok (.goto 4, 3) := by decide +kernel
theorem dX9_load_22 : decode cX9_load 22 = .ok (.iconst 0, 1) := by decide +kernel
theorem dX9_load_23 : decode cX9_load 23 = .ok (.putfield 110, 3) := by decide +kernel
theorem dX9_load_26 : decode cX9_load 26 = .ok (.aload_n 0, 1) := by decide +kernel
theorem dX9_load_27 : decode cX9_load 27 = .ok (.iconst 0, 1) := by decide +kernel
theorem dX9_load_28 : decode cX9_load 28 = .ok (.putfield 113, 3) := by decide +kernel
theorem dX9_load_31 : decode cX9_load 31 = .ok (.aload_n 0, 1) := by decide +kernel
theorem dX9_load_32 : decode cX9_load 32 = .ok (.getfield 20, 3) := by decide +kernel
theorem dX9_load_35 : decode cX9_load 35 = .ok (.iload_n 1, 1) := by decide +kernel
theorem dX9_load_36 : decode cX9_load 36 = .ok (.iaload, 1) := by decide +kernel
theorem dX9_load_37 : decode cX9_load 37 = .ok (.iconst 1, 1) := by decide +kernel
theorem dX9_load_38 : decode cX9_load 38 = .ok (.if_icmp .ne 47, 3) := by decide +kernel
theorem dX9_load_41 : decode cX9_load 41 = .ok (.aload_n 0, 1) := by decide +kernel
theorem dX9_load_42 : decode cX9_load 42 = .ok (.aload_n 0, 1) := by decide +kernel
theorem dX9_load_43 : decode cX9_load 43 = .ok (.getfield 13, 3) := by decide +kernel
theorem dX9_load_46 : decode cX9_load 46 = .ok (.iload_n 2, 1) := by decide +kernel
theorem dX9_load_47 : decode cX9_load 47 = .ok (.iaload, 1) := by decide +kernel
theorem dX9_load_48 : decode cX9_load 48 = .ok (.putfield 116, 3) := by decide +kernel
theorem dX9_load_51 : decode cX9_load 51 = .ok (.iconst 0, 1) := by decide +kernel
theorem dX9_load_52 : decode cX9_load 52 = .ok (.istore_n 3, 1) := by decide +kernel
theorem dX9_load_53 : decode cX9_load 53 = .ok (.iload_n 3, 1) := by decide +kernel
theorem dX9_load_54 : decode cX9_load 54 = .ok (.bipush 24, 2) := by decide +kernel
theorem dX9_load_56 : decode cX9_load 56 = .ok (.if_icmp .ge 26, 3) := by decide +kernel
theorem dX9_load_59 : decode cX9_load 59 = .ok (.aload_n 0, 1) := by decide +kernel
theorem dX9_load_60 : decode cX9_load 60 = .ok (.getfield 35, 3) := by decide +kernel
theorem dX9_load_63 : decode cX9_load 63 = .ok (.iload_n 3, 1) := by decide +kernel
theorem dX9_load_64 : decode cX9_load 64 = .ok (.aload_n 0, 1) := by decide +kernel
theorem dX9_load_65 : decode cX9_load 65 = .ok (.getfield 16, 3) := by decide +kernel
theorem dX9_load_68 : decode cX9_load 68 = .ok (.bipush 24, 2) := by decide +kernel
theorem dX9_load_70 : decode cX9_load 70 = .ok (.iload_n 2, 1) := by decide +kernel
theorem dX9_load_71 : decode cX9_load 71 = .ok (.imul, 1) := by decide +kernel
theorem dX9_load_72 : decode cX9_load 72 = .ok (.iload_n 3, 1) := by decide +kernel
theorem dX9_load_73 : decode cX9_load 73 = .ok (.iadd, 1) := by decide +kernel
theorem dX9_load_74 : decode cX9_load 74 = .ok (.daload, 1) := by decide +kernel
theorem dX9_load_75 : decode cX9_load 75 = .ok (.dastore, 1) := by decide +kernel
theorem dX9_load_76 : decode cX9_load 76 = .ok (.iinc 3 1, 3) := by decide +kernel
theorem dX9_load_79 : decode cX9_load 79 = .ok (.goto (-26), 3) := by decide +kernel
theorem dX9_load_82 : decode cX9_load 82 = .ok (.goto 123, 3) := by decide +kernel
theorem dX9_load_85 : decode cX9_load 85 = .ok (.aload_n 0, 1) := by decide +kernel
theorem dX9_load_86 : decode cX9_load 86 = .ok (.getfield 20, 3) := by decide +kernel
theorem dX9_load_89 : decode cX9_load 89 = .ok (.iload_n 1, 1) := by decide +kernel
theorem dX9_load_90 : decode cX9_load 90 = .ok (.iaload, 1) := by decide +kernel
theorem dX9_load_91 : decode cX9_load 91 = .ok (.iconst 2, 1) := by decide +kernel
theorem dX9_load_92 : decode cX9_load 92 = .ok (.if_icmp .ne 63, 3) := by decide +kernel
theorem dX9_load_95 : decode cX9_load 95 = .ok (.aload_n 0, 1) := by decide +kernel
theorem dX9_load_96 : decode cX9_load 96 = .ok (.aload_n 0, 1) := by decide +kernel
theorem dX9_load_97 : decode cX9_load 97 = .ok (.getfield 26, 3) := by decide +kernel
theorem dX9_load_100 : decode cX9_load 100 = .ok (.iload_n 1, 1) := by decide +kernel
theorem dX9_load_101 : decode cX9_load 101 = .ok (.iaload, 1) := by decide +kernel
theorem dX9_load_102 : decode cX9_load 102 = .ok (.iconst 1, 1) := by decide +kernel
theorem dX9_load_103 : decode cX9_load 103 = .ok (.if_icmp .ne 7, 3) := by decide +kernel
theorem dX9_load_106 : decode cX9_load 106 = .ok (.iconst 0, 1) := by decide +kernel
theorem dX9_load_107 : decode cX9_load 107 = .ok (.goto 9, 3) := by decide +kernel
theorem dX9_load_110 : decode cX9_load 110 = .ok (.aload_n 0, 1) := by decide +kernel
theorem dX9_load_111 : decode cX9_load 111 = .ok (.getfield 26, 3) := by decide +kernel
theorem dX9_load_114 : decode cX9_load 114 = .ok (.iload_n 1, 1) := by decide +kernel
theorem dX9_load_115 : decode cX9_load 115 = .ok (.iaload, 1) := by decide +kernel
theorem dX9_load_116 : decode cX9_load 116 = .ok (.putfield 116, 3) := by decide +kernel
theorem dX9_load_119 : decode cX9_load 119 = .ok (.iconst 0, 1) := by decide +kernel
theorem dX9_load_120 : decode cX9_load 120 = .ok (.istore_n 3, 1) := by decide +kernel
theorem dX9_load_121 : decode cX9_load 121 = .ok (.iload_n 3, 1) := by decide +kernel
theorem dX9_load_122 : decode cX9_load 122 = .ok (.aload_n 0, 1) := by decide +kernel
theorem dX9_load_123 : decode cX9_load 123 = .ok (.getfield 26, 3) := by decide +kernel
theorem dX9_load_126 : decode cX9_load 126 = .ok (.iload_n 1, 1) := by decide +kernel
theorem dX9_load_127 : decode cX9_load 127 = .ok (.iaload, 1) := by decide +kernel
theorem dX9_load_128 : decode cX9_load 128 = .ok (.if_icmp .ge 24, 3) := by decide +kernel
theorem dX9_load_131 : decode cX9_load 131 = .ok (.aload_n 0, 1) := by decide +kernel
theorem dX9_load_132 : decode cX9_load 132 = .ok (.getfield 35, 3) := by decide +kernel
theorem dX9_load_135 : decode cX9_load 135 = .ok (.iload_n 3, 1) := by decide +kernel
theorem dX9_load_136 : decode cX9_load 136 = .ok (.aload_n 0, 1) := by decide +kernel
theorem dX9_load_137 : decode cX9_load 137 = .ok (.getfield 29, 3) := by decide +kernel
theorem dX9_load_140 : decode cX9_load 140 = .ok (.iload_n 2, 1) := by decide +kernel
theorem dX9_load_141 : decode cX9_load 141 = .ok (.iload_n 3, 1) := by decide +kernel
theorem dX9_load_142 : decode cX9_load 142 = .ok (.iadd, 1) := by decide +kernel
theorem dX9_load_143 : decode cX9_load 143 = .ok (.iaload, 1) := by decide +kernel
theorem dX9_load_144 : decode cX9_load 144 = .ok (.i2d, 1) := by decide +kernel
theorem dX9_load_145 : decode cX9_load 145 = .ok (.dastore, 1) := by decide +kernel
theorem dX9_load_146 : decode cX9_load 146 = .ok (.iinc 3 1, 3) := by decide +kernel
theorem dX9_load_149 : decode cX9_load 149 = .ok (.goto (-28), 3) := by decide +kernel
theorem dX9_load_152 : decode cX9_load 152 = .ok (.goto 53, 3) := by decide +kernel
theorem dX9_load_155 : decode cX9_load 155 = .ok (.aload_n 0, 1) := by decide +kernel
theorem dX9_load_156 : decode cX9_load 156 = .ok (.aload_n 0, 1) := by decide +kernel
theorem dX9_load_157 : decode cX9_load 157 = .ok (.getfield 29, 3) := by decide +kernel
theorem dX9_load_160 : decode cX9_load 160 = .ok (.iload_n 2, 1) := by decide +kernel
theorem dX9_load_161 : decode cX9_load 161 = .ok (.iaload, 1) := by decide +kernel
theorem dX9_load_162 : decode cX9_load 162 = .ok (.putfield 116, 3) := by decide +kernel
theorem dX9_load_165 : decode cX9_load 165 = .ok (.aload_n 0, 1) := by decide +kernel
theorem dX9_load_166 : decode cX9_load 166 = .ok (.getfield 116, 3) := by decide +kernel
theorem dX9_load_169 : decode cX9_load 169 = .ok (.iconst 1, 1) := by decide +kernel
theorem dX9_load_170 : decode cX9_load 170 = .ok (.bipush 24, 2) := by decide +kernel
theorem dX9_load_172 : decode cX9_load 172 = .ok (.invokestatic 58, 3) := by decide +kernel
theorem dX9_load_175 : decode cX9_load 175 = .ok (.ifCond .ne 8, 3) := by decide +kernel
theorem dX9_load_178 : decode cX9_load 178 = .ok (.aload_n 0, 1) := by decide +kernel
theorem dX9_load_179 : decode cX9_load 179 = .ok (.iconst 2, 1) := by decide +kernel
theorem dX9_load_180 : decode cX9_load 180 = .ok (.putfield 119, 3) := by decide +kernel
theorem dX9_load_183 : decode cX9_load 183 = .ok (.iconst 0, 1) := by decide +kernel
theorem dX9_load_184 : decode cX9_load 184 = .ok (.istore_n 3, 1) := by decide +kernel
theorem dX9_load_185 : decode cX9_load 185 = .ok (.iload_n 3, 1) := by decide +kernel
theorem dX9_load_186 : decode cX9_load 186 = .ok (.bipush 24, 2) := by decide +kernel
theorem dX9_load_188 : decode cX9_load 188 = .ok (.if_icmp .ge 17, 3) := by decide +kernel
theorem dX9_load_191 : decode cX9_load 191 = .ok (.aload_n 0, 1) := by decide +kernel
theorem dX9_load_192 : decode cX9_load 192 = .ok (.getfield 35, 3) := by decide +kernel
theorem dX9_load_195 : decode cX9_load 195 = .ok (.iload_n 3, 1) := by decide +kernel
theorem dX9_load_196 : decode cX9_load 196 = .ok (.iload_n 3, 1) := by decide +kernel
theorem dX9_load_197 : decode cX9_load 197 = .ok (.i2d, 1) := by decide +kernel
theorem dX9_load_198 : decode cX9_load 198 = .ok (.dastore, 1) := by decide +kernel
theorem dX9_load_199 : decode cX9_load 199 = .ok (.iinc 3 1, 3) := by decide +kernel
theorem dX9_load_202 : decode cX9_load 202 = .ok (.goto (-17), 3) := by decide +kernel
theorem dX9_load_205 : decode cX9_load 205 = .ok (.return_, 1) := by decide +kernel
theorem dX9_deliver_0 : decode cX9_deliver 0 = .ok (.aload_n 0, 1) := by decide +kernel
theorem dX9_deliver_1 : decode cX9_deliver 1 = .ok (.getfield 44, 3) := by decide +kernel
theorem dX9_deliver_4 : decode cX9_deliver 4 = .ok (.iload_n 1, 1) := by decide +kernel
theorem dX9_deliver_5 : decode cX9_deliver 5 = .ok (.iaload, 1) := by decide +kernel
theorem dX9_deliver_6 : decode cX9_deliver 6 = .ok (.istore_n 2, 1) := by decide +kernel
theorem dX9_deliver_7 : decode cX9_deliver 7 = .ok (.aload_n 0, 1) := by decide +kernel
theorem dX9_deliver_8 : decode cX9_deliver 8 = .ok (.getfield 44, 3) := by decide +kernel
theorem dX9_deliver_11 : decode cX9_deliver 11 = .ok (.iload_n 1, 1) := by decide +kernel
theorem dX9_deliver_12 : decode cX9_deliver 12 = .ok (.iconst 0, 1) := by decide +kernel
theorem dX9_deliver_13 : decode cX9_deliver 13 = .ok (.iastore, 1) := by decide +kernel
theorem dX9_deliver_14 : decode cX9_deliver 14 = .ok (.aload_n 0, 1) := by decide +kernel
theorem dX9_deliver_15 : decode cX9_deliver 15 = .ok (.iload_n 2, 1) := by decide +kernel
theorem dX9_deliver_16 : decode cX9_deliver 16 = .ok (.ifCond .ne 14, 3) := by decide +kernel
theorem dX9_deliver_19 : decode cX9_deliver 19 = .ok (.aload_n 0, 1) := by decide +kernel
theorem dX9_deliver_20 : decode cX9_deliver 20 = .ok (.getfield 110, 3) := by decide +kernel
theorem dX9_deliver_23 : decode cX9_deliver 23 = .ok (.ifCond .eq 7, 3) := by decide +kernel
theorem dX9_deliver_26 : decode cX9_deliver 26 = .ok (.iconst 1, 1) := by decide +kernel
theorem dX9_deliver_27 : decode cX9_deliver 27 = .ok (.goto 4, 3) := by decide +kernel
theorem dX9_deliver_30 : decode cX9_deliver 30 = .ok (.iconst 0, 1) := by decide +kernel
theorem dX9_deliver_31 : decode cX9_deliver 31 = .ok (.putfield 122, 3) := by decide +kernel
theorem dX9_deliver_34 : decode cX9_deliver 34 = .ok (.aload_n 0, 1) := by decide +kernel
theorem dX9_deliver_35 : decode cX9_deliver 35 = .ok (.iload_n 2, 1) := by decide +kernel
theorem dX9_deliver_36 : decode cX9_deliver 36 = .ok (.ifCond .ne 10, 3) := by decide +kernel
theorem dX9_deliver_39 : decode cX9_deliver 39 = .ok (.aload_n 0, 1) := by decide +kernel
theorem dX9_deliver_40 : decode cX9_deliver 40 = .ok (.getfield 113, 3) := by decide +kernel
theorem dX9_deliver_43 : decode cX9_deliver 43 = .ok (.goto 14, 3) := by decide +kernel
theorem dX9_deliver_46 : decode cX9_deliver 46 = .ok (.iload_n 2, 1) := by decide +kernel
theorem dX9_deliver_47 : decode cX9_deliver 47 = .ok (.bipush 44, 2) := by decide +kernel
theorem dX9_deliver_49 : decode cX9_deliver 49 = .ok (.if_icmp .ne 7, 3) := by decide +kernel
theorem dX9_deliver_52 : decode cX9_deliver 52 = .ok (.iconst 1, 1) := by decide +kernel
theorem dX9_deliver_53 : decode cX9_deliver 53 = .ok (.goto 4, 3) := by decide +kernel
theorem dX9_deliver_56 : decode cX9_deliver 56 = .ok (.iconst 0, 1) := by decide +kernel
theorem dX9_deliver_57 : decode cX9_deliver 57 = .ok (.putfield 125, 3) := by decide +kernel
theorem dX9_deliver_60 : decode cX9_deliver 60 = .ok (.iload_n 2, 1) := by decide +kernel
theorem dX9_deliver_61 : decode cX9_deliver 61 = .ok (.ifCond .ne 40, 3) := by decide +kernel
theorem dX9_deliver_64 : decode cX9_deliver 64 = .ok (.aload_n 0, 1) := by decide +kernel
theorem dX9_deliver_65 : decode cX9_deliver 65 = .ok (.aload_n 0, 1) := by decide +kernel
theorem dX9_deliver_66 : decode cX9_deliver 66 = .ok (.getfield 116, 3) := by decide +kernel
theorem dX9_deliver_69 : decode cX9_deliver 69 = .ok (.putfield 128, 3) := by decide +kernel
theorem dX9_deliver_72 : decode cX9_deliver 72 = .ok (.iconst 0, 1) := by decide +kernel
theorem dX9_deliver_73 : decode cX9_deliver 73 = .ok (.istore_n 3, 1) := by decide +kernel
theorem dX9_deliver_74 : decode cX9_deliver 74 = .ok (.iload_n 3, 1) := by decide +kernel
theorem dX9_deliver_75 : decode cX9_deliver 75 = .ok (.bipush 24, 2) := by decide +kernel
theorem dX9_deliver_77 : decode cX9_deliver 77 = .ok (.if_icmp .ge 21, 3) := by decide +kernel
theorem dX9_deliver_80 : decode cX9_deliver 80 = .ok (.aload_n 0, 1) := by decide +kernel
theorem dX9_deliver_81 : decode cX9_deliver 81 = .ok (.getfield 32, 3) := by decide +kernel
theorem dX9_deliver_84 : decode cX9_deliver 84 = .ok (.iload_n 3, 1) := by decide +kernel
theorem dX9_deliver_85 : decode cX9_deliver 85 = .ok (.aload_n 0, 1) := by decide +kernel
theorem dX9_deliver_86 : decode cX9_deliver 86 = .ok (.getfield 35, 3) := by decide +kernel
theorem dX9_deliver_89 : decode cX9_deliver 89 = .ok (.iload_n 3, 1) := by decide +kernel
theorem dX9_deliver_90 : decode cX9_deliver 90 = .ok (.daload, 1) := by decide +kernel
theorem dX9_deliver_91 : decode cX9_deliver 91 = .ok (.dastore, 1) := by decide +kernel
theorem dX9_deliver_92 : decode cX9_deliver 92 = .ok (.iinc 3 1, 3) := by decide +kernel
theorem dX9_deliver_95 : decode cX9_deliver 95 = .ok (.goto (-21), 3) := by decide +kernel
theorem dX9_deliver_98 : decode cX9_deliver 98 = .ok (.goto 37, 3) := by decide +kernel
theorem dX9_deliver_101 : decode cX9_deliver 101 = .ok (.iload_n 2, 1) := by decide +kernel
theorem dX9_deliver_102 : decode cX9_deliver 102 = .ok (.bipush 44, 2) := by decide +kernel
theorem dX9_deliver_104 : decode cX9_deliver 104 = .ok (.if_icmp .ne 11, 3) := by decide +kernel
theorem dX9_deliver_107 : decode cX9_deliver 107 = .ok (.aload_n 0, 1) := by decide +kernel
theorem dX9_deliver_108 : decode cX9_deliver 108 = .ok (.iload_n 1, 1) := by decide +kernel
theorem dX9_deliver_109 : decode cX9_deliver 109 = .ok (.invokevirtual 131, 3) := by decide +kernel
theorem dX9_deliver_112 : decode cX9_deliver 112 = .ok (.goto 23, 3) := by decide +kernel
theorem dX9_deliver_115 : decode cX9_deliver 115 = .ok (.iload_n 2, 1) := by decide +kernel
theorem dX9_deliver_116 : decode cX9_deliver 116 = .ok (.bipush 35, 2) := by decide +kernel
theorem dX9_deliver_118 : decode cX9_deliver 118 = .ok (.if_icmp .ne 11, 3) := by decide +kernel
theorem dX9_deliver_121 : decode cX9_deliver 121 = .ok (.aload_n 0, 1) := by decide +kernel
theorem dX9_deliver_122 : decode cX9_deliver 122 = .ok (.iload_n 1, 1) := by decide +kernel
theorem dX9_deliver_123 : decode cX9_deliver 123 = .ok (.invokevirtual 135, 3) := by decide +kernel
theorem dX9_deliver_126 : decode cX9_deliver 126 = .ok (.goto 9, 3) := by decide +kernel
theorem dX9_deliver_129 : decode cX9_deliver 129 = .ok (.aload_n 0, 1) := by decide +kernel
theorem dX9_deliver_130 : decode cX9_deliver 130 = .ok (.iload_n 2, 1) := by decide +kernel
theorem dX9_deliver_131 : decode cX9_deliver 131 = .ok (.iload_n 1, 1) := by decide +kernel
theorem dX9_deliver_132 : decode cX9_deliver 132 = .ok (.invokevirtual 138, 3) := by decide +kernel
theorem dX9_deliver_135 : decode cX9_deliver 135 = .ok (.return_, 1) := by decide +kernel
theorem dX9_append_0 : decode cX9_append 0 = .ok (.aload_n 0, 1) := by decide +kernel
theorem dX9_append_1 : decode cX9_append 1 = .ok (.getfield 41, 3) := by decide +kernel
theorem dX9_append_4 : decode cX9_append 4 = .ok (.iload_n 1, 1) := by decide +kernel
theorem dX9_append_5 : decode cX9_append 5 = .ok (.iaload, 1) := by decide +kernel
theorem dX9_append_6 : decode cX9_append 6 = .ok (.istore_n 2, 1) := by decide +kernel
theorem dX9_append_7 : decode cX9_append 7 = .ok (.aload_n 0, 1) := by decide +kernel
theorem dX9_append_8 : decode cX9_append 8 = .ok (.getfield 116, 3) := by decide +kernel
theorem dX9_append_11 : decode cX9_append 11 = .ok (.invokestatic 70, 3) := by decide +kernel
theorem dX9_append_14 : decode cX9_append 14 = .ok (.istore_n 3, 1) := by decide +kernel
theorem dX9_append_15 : decode cX9_append 15 = .ok (.aload_n 0, 1) := by decide +kernel
theorem dX9_append_16 : decode cX9_append 16 = .ok (.dup, 1) := by decide +kernel
theorem dX9_append_17 : decode cX9_append 17 = .ok (.getfield 142, 3) := by decide +kernel
theorem dX9_append_20 : decode cX9_append 20 = .ok (.iconst 1, 1) := by decide +kernel
theorem dX9_append_21 : decode cX9_append 21 = .ok (.iadd, 1) := by decide +kernel
theorem dX9_append_22 : decode cX9_append 22 = .ok (.putfield 142, 3) := by decide +kernel
theorem dX9_append_25 : decode cX9_append 25 = .ok (.aload_n 0, 1) := by decide +kernel
theorem dX9_append_26 : decode cX9_append 26 = .ok (.getfield 116, 3) := by decide +kernel
theorem dX9_append_29 : decode cX9_append 29 = .ok (.bipush 32, 2) := by decide +kernel
theorem dX9_append_31 : decode cX9_append 31 = .ok (.if_icmp .ge 9, 3) := by decide +kernel
theorem dX9_append_34 : decode cX9_append 34 = .ok (.iload_n 2, 1) := by decide +kernel
theorem dX9_append_35 : decode cX9_append 35 = .ok (.bipush 32, 2) := by decide +kernel
theorem dX9_append_37 : decode cX9_append 37 = .ok (.if_icmp .lt 11, 3) := by decide +kernel
theorem dX9_append_40 : decode cX9_append 40 = .ok (.aload_n 0, 1) := by decide +kernel
theorem dX9_append_41 : decode cX9_append 41 = .ok (.iconst 1, 1) := by decide +kernel
theorem dX9_append_42 : decode cX9_append 42 = .ok (.putfield 119, 3) := by decide +kernel
theorem dX9_append_45 : decode cX9_append 45 = .ok (.goto 19, 3) := by decide +kernel
theorem dX9_append_48 : decode cX9_append 48 = .ok (.iload_n 3, 1) := by decide +kernel
theorem dX9_append_49 : decode cX9_append 49 = .ok (.iload_n 2, 1) := by decide +kernel
theorem dX9_append_50 : decode cX9_append 50 = .ok (.invokestatic 70, 3) := by decide +kernel
theorem dX9_append_53 : decode cX9_append 53 = .ok (.iadd, 1) := by decide +kernel
theorem dX9_append_54 : decode cX9_append 54 = .ok (.bipush 24, 2) := by decide +kernel
theorem dX9_append_56 : decode cX9_append 56 = .ok (.if_icmp .le 8, 3) := by decide +kernel
theorem dX9_append_59 : decode cX9_append 59 = .ok (.aload_n 0, 1) := by decide +kernel
theorem dX9_append_60 : decode cX9_append 60 = .ok (.iconst 2, 1) := by decide +kernel
theorem dX9_append_61 : decode cX9_append 61 = .ok (.putfield 119, 3) := by decide +kernel
theorem dX9_append_64 : decode cX9_append 64 = .ok (.aload_n 0, 1) := by decide +kernel
theorem dX9_append_65 : decode cX9_append 65 = .ok (.getfield 119, 3) := by decide +kernel
theorem dX9_append_68 : decode cX9_append 68 = .ok (.ifCond .le 4, 3) := by decide +kernel
theorem dX9_append_71 : decode cX9_append 71 = .ok (.return_, 1) := by decide +kernel
theorem dX9_append_72 : decode cX9_append 72 = .ok (.iconst 0, 1) := by decide +kernel
theorem dX9_append_73 : decode cX9_append 73 = .ok (.istore 4, 2) := by decide +kernel
theorem dX9_append_75 : decode cX9_append 75 = .ok (.iload 4, 2) := by decide +kernel
theorem dX9_append_77 : decode cX9_append 77 = .ok (.iload_n 3, 1) := by decide +kernel
theorem dX9_append_78 : decode cX9_append 78 = .ok (.if_icmp .ge 23, 3) := by decide +kernel
theorem dX9_append_81 : decode cX9_append 81 = .ok (.aload_n 0, 1) := by decide +kernel
theorem dX9_append_82 : decode cX9_append 82 = .ok (.getfield 32, 3) := by decide +kernel
theorem dX9_append_85 : decode cX9_append 85 = .ok (.iload 4, 2) := by decide +kernel
theorem dX9_append_87 : decode cX9_append 87 = .ok (.aload_n 0, 1) := by decide +kernel
theorem dX9_append_88 : decode cX9_append 88 = .ok (.getfield 35, 3) := by decide +kernel
theorem dX9_append_91 : decode cX9_append 91 = .ok (.iload 4, 2) := by decide +kernel
theorem dX9_append_93 : decode cX9_append 93 = .ok (.daload, 1) := by decide +kernel
theorem dX9_append_94 : decode cX9_append 94 = .ok (.dastore, 1) := by decide +kernel
theorem dX9_append_95 : decode cX9_append 95 = .ok (.iinc 4 1, 3) := by decide +kernel
theorem dX9_append_98 : decode cX9_append 98 = .ok (.goto (-23), 3) := by decide +kernel
theorem dX9_append_101 : decode cX9_append 101 = .ok (.iconst 0, 1) := by decide +kernel
theorem dX9_append_102 : decode cX9_append 102 = .ok (.istore 4, 2) := by decide +kernel
theorem dX9_append_104 : decode cX9_append 104 = .ok (.iload 4, 2) := by decide +kernel
theorem dX9_append_106 : decode cX9_append 106 = .ok (.iload_n 2, 1) := by decide +kernel
theorem dX9_append_107 : decode cX9_append 107 = .ok (.invokestatic 70, 3) := by decide +kernel
theorem dX9_append_110 : decode cX9_append 110 = .ok (.if_icmp .ge 30, 3) := by decide +kernel
theorem dX9_append_113 : decode cX9_append 113 = .ok (.aload_n 0, 1) := by decide +kernel
theorem dX9_append_114 : decode cX9_append 114 = .ok (.getfield 32, 3) := by decide +kernel
theorem dX9_append_117 : decode cX9_append 117 = .ok (.iload_n 3, 1) := by decide +kernel
theorem dX9_append_118 : decode cX9_append 118 = .ok (.iload 4, 2) := by decide +kernel
theorem dX9_append_120 : decode cX9_append 120 = .ok (.iadd, 1) := by decide +kernel
theorem dX9_append_121 : decode cX9_append 121 = .ok (.aload_n 0, 1) := by decide +kernel
theorem dX9_append_122 : decode cX9_append 122 = .ok (.getfield 38, 3) := by decide +kernel
theorem dX9_append_125 : decode cX9_append 125 = .ok (.bipush 24, 2) := by decide +kernel
theorem dX9_append_127 : decode cX9_append 127 = .ok (.iload_n 1, 1) := by decide +kernel
theorem dX9_append_128 : decode cX9_append 128 = .ok (.imul, 1) := by decide +kernel
theorem dX9_append_129 : decode cX9_append 129 = .ok (.iload 4, 2) := by decide +kernel
theorem dX9_append_131 : decode cX9_append 131 = .ok (.iadd, 1) := by decide +kernel
theorem dX9_append_132 : decode cX9_append 132 = .ok (.daload, 1) := by decide +kernel
theorem dX9_append_133 : decode cX9_append 133 = .ok (.dastore, 1) := by decide +kernel
theorem dX9_append_134 : decode cX9_append 134 = .ok (.iinc 4 1, 3) := by decide +kernel
theorem dX9_append_137 : decode cX9_append 137 = .ok (.goto (-33), 3) := by decide +kernel
theorem dX9_append_140 : decode cX9_append 140 = .ok (.aload_n 0, 1) := by decide +kernel
theorem dX9_append_141 : decode cX9_append 141 = .ok (.iload_n 3, 1) := by decide +kernel
theorem dX9_append_142 : decode cX9_append 142 = .ok (.iload_n 2, 1) := by decide +kernel
theorem dX9_append_143 : decode cX9_append 143 = .ok (.invokestatic 70, 3) := by decide +kernel
theorem dX9_append_146 : decode cX9_append 146 = .ok (.iadd, 1) := by decide +kernel
theorem dX9_append_147 : decode cX9_append 147 = .ok (.putfield 128, 3) := by decide +kernel
theorem dX9_append_150 : decode cX9_append 150 = .ok (.return_, 1) := by decide +kernel
theorem dX9_shapeAnew_0 : decode cX9_shapeAnew 0 = .ok (.aload_n 0, 1) := by decide +kernel
theorem dX9_shapeAnew_1 : decode cX9_shapeAnew 1 = .ok (.getfield 41, 3) := by decide +kernel
theorem dX9_shapeAnew_4 : decode cX9_shapeAnew 4 = .ok (.iload_n 1, 1) := by decide +kernel
theorem dX9_shapeAnew_5 : decode cX9_shapeAnew 5 = .ok (.iaload, 1) := by decide +kernel
theorem dX9_shapeAnew_6 : decode cX9_shapeAnew 6 = .ok (.invokestatic 70, 3) := by decide +kernel
theorem dX9_shapeAnew_9 : decode cX9_shapeAnew 9 = .ok (.istore_n 2, 1) := by decide +kernel
theorem dX9_shapeAnew_10 : decode cX9_shapeAnew 10 = .ok (.aload_n 0, 1) := by decide +kernel
theorem dX9_shapeAnew_11 : decode cX9_shapeAnew 11 = .ok (.getfield 110, 3) := by decide +kernel
theorem dX9_shapeAnew_14 : decode cX9_shapeAnew 14 = .ok (.ifCond .eq 18, 3) := by decide +kernel
theorem dX9_shapeAnew_17 : decode cX9_shapeAnew 17 = .ok (.aload_n 0, 1) := by decide +kernel
theorem dX9_shapeAnew_18 : decode cX9_shapeAnew 18 = .ok (.getfield 116, 3) := by decide +kernel
theorem dX9_shapeAnew_21 : decode cX9_shapeAnew 21 = .ok (.ifCond .eq 17, 3) := by decide +kernel
theorem dX9_shapeAnew_24 : decode cX9_shapeAnew 24 = .ok (.aload_n 0, 1) := by decide +kernel
theorem dX9_shapeAnew_25 : decode cX9_shapeAnew 25 = .ok (.getfield 116, 3) := by decide +kernel
theorem dX9_shapeAnew_28 : decode cX9_shapeAnew 28 = .ok (.iconst 2, 1) := by decide +kernel
theorem dX9_shapeAnew_29 : decode cX9_shapeAnew 29 = .ok (.if_icmp .eq 9, 3) := by decide +kernel
theorem dX9_shapeAnew_32 : decode cX9_shapeAnew 32 = .ok (.aload_n 0, 1) := by decide +kernel
theorem dX9_shapeAnew_33 : decode cX9_shapeAnew 33 = .ok (.iconst 1, 1) := by decide +kernel
theorem dX9_shapeAnew_34 : decode cX9_shapeAnew 34 = .ok (.putfield 119, 3) := by decide +kernel
theorem dX9_shapeAnew_37 : decode cX9_shapeAnew 37 = .ok (.return_, 1) := by decide +kernel
theorem dX9_shapeAnew_38 : decode cX9_shapeAnew 38 = .ok (.aload_n 0, 1) := by decide +kernel
theorem dX9_shapeAnew_39 : decode cX9_shapeAnew 39 = .ok (.getfield 35, 3) := by decide +kernel
theorem dX9_shapeAnew_42 : decode cX9_shapeAnew 42 = .ok (.iconst 0, 1) := by decide +kernel
theorem dX9_shapeAnew_43 : decode cX9_shapeAnew 43 = .ok (.daload, 1) := by decide +kernel
theorem dX9_shapeAnew_44 : decode cX9_shapeAnew 44 = .ok (.d2i, 1) := by decide +kernel
theorem dX9_shapeAnew_45 : decode cX9_shapeAnew 45 = .ok (.istore_n 3, 1) := by decide +kernel
theorem dX9_shapeAnew_46 : decode cX9_shapeAnew 46 = .ok (.aload_n 0, 1) := by decide +kernel
theorem dX9_shapeAnew_47 : decode cX9_shapeAnew 47 = .ok (.getfield 116, 3) := by decide +kernel
theorem dX9_shapeAnew_50 : decode cX9_shapeAnew 50 = .ok (.ifCond .ne 7, 3) := by decide +kernel
theorem dX9_shapeAnew_53 : decode cX9_shapeAnew 53 = .ok (.iconst 1, 1) := by decide +kernel
theorem dX9_shapeAnew_54 : decode cX9_shapeAnew 54 = .ok (.goto 10, 3) := by decide +kernel
theorem dX9_shapeAnew_57 : decode cX9_shapeAnew 57 = .ok (.aload_n 0, 1) := by decide +kernel
theorem dX9_shapeAnew_58 : decode cX9_shapeAnew 58 = .ok (.getfield 35, 3) := by decide +kernel
theorem dX9_shapeAnew_61 : decode cX9_shapeAnew 61 = .ok (.iconst 1, 1) := by decide +kernel
theorem dX9_shapeAnew_62 : decode cX9_shapeAnew 62 = .ok (.daload, 1) := by decide +kernel
theorem dX9_shapeAnew_63 : decode cX9_shapeAnew 63 = .ok (.d2i, 1) := by decide +kernel
theorem dX9_shapeAnew_64 : decode cX9_shapeAnew 64 = .ok (.istore 4, 2) := by decide +kernel
theorem dX9_shapeAnew_66 : decode cX9_shapeAnew 66 = .ok (.iload_n 3, 1) := by decide +kernel
theorem dX9_shapeAnew_67 : decode cX9_shapeAnew 67 = .ok (.iconst 1, 1) := by decide +kernel
theorem dX9_shapeAnew_68 : decode cX9_shapeAnew 68 = .ok (.if_icmp .lt 18, 3) := by decide +kernel
theorem dX9_shapeAnew_71 : decode cX9_shapeAnew 71 = .ok (.iload 4, 2) := by decide +kernel
theorem dX9_shapeAnew_73 : decode cX9_shapeAnew 73 = .ok (.iconst 1, 1) := by decide +kernel
theorem dX9_shapeAnew_74 : decode cX9_shapeAnew 74 = .ok (.if_icmp .lt 12, 3) := by decide +kernel
theorem dX9_shapeAnew_77 : decode cX9_shapeAnew 77 = .ok (.iload_n 3, 1) := by decide +kernel
theorem dX9_shapeAnew_78 : decode cX9_shapeAnew 78 = .ok (.iload 4, 2) := by decide +kernel
theorem dX9_shapeAnew_80 : decode cX9_shapeAnew 80 = .ok (.imul, 1) := by decide +kernel
theorem dX9_shapeAnew_81 : decode cX9_shapeAnew 81 = .ok (.bipush 24, 2) := by decide +kernel
theorem dX9_shapeAnew_83 : decode cX9_shapeAnew 83 = .ok (.if_icmp .le 11, 3) := by decide +kernel
theorem dX9_shapeAnew_86 : decode cX9_shapeAnew 86 = .ok (.aload_n 0, 1) := by decide +kernel
theorem dX9_shapeAnew_87 : decode cX9_shapeAnew 87 = .ok (.iconst 2, 1) := by decide +kernel
theorem dX9_shapeAnew_88 : decode cX9_shapeAnew 88 = .ok (.putfield 119, 3) := by decide +kernel
theorem dX9_shapeAnew_91 : decode cX9_shapeAnew 91 = .ok (.goto 16, 3) := by decide +kernel
theorem dX9_shapeAnew_94 : decode cX9_shapeAnew 94 = .ok (.iload_n 3, 1) := by decide +kernel
theorem dX9_shapeAnew_95 : decode cX9_shapeAnew 95 = .ok (.iload 4, 2) := by decide +kernel
theorem dX9_shapeAnew_97 : decode cX9_shapeAnew 97 = .ok (.imul, 1) := by decide +kernel
theorem dX9_shapeAnew_98 : decode cX9_shapeAnew 98 = .ok (.iload_n 2, 1) := by decide +kernel
theorem dX9_shapeAnew_99 : decode cX9_shapeAnew 99 = .ok (.if_icmp .ge 8, 3) := by decide +kernel
theorem dX9_shapeAnew_102 : decode cX9_shapeAnew 102 = .ok (.aload_n 0, 1) := by decide +kernel
theorem dX9_shapeAnew_103 : decode cX9_shapeAnew 103 = .ok (.iconst 1, 1) := by decide +kernel
theorem dX9_shapeAnew_104 : decode cX9_shapeAnew 104 = .ok (.putfield 119, 3) := by decide +kernel
theorem dX9_shapeAnew_107 : decode cX9_shapeAnew 107 = .ok (.aload_n 0, 1) := by decide +kernel
theorem dX9_shapeAnew_108 : decode cX9_shapeAnew 108 = .ok (.getfield 119, 3) := by decide +kernel
theorem dX9_shapeAnew_111 : decode cX9_shapeAnew 111 = .ok (.ifCond .le 4, 3) := by decide +kernel
theorem dX9_shapeAnew_114 : decode cX9_shapeAnew 114 = .ok (.return_, 1) := by decide +kernel
theorem dX9_shapeAnew_115 : decode cX9_shapeAnew 115 = .ok (.aload_n 0, 1) := by decide +kernel
theorem dX9_shapeAnew_116 : decode cX9_shapeAnew 116 = .ok (.aload_n 0, 1) := by decide +kernel
theorem dX9_shapeAnew_117 : decode cX9_shapeAnew 117 = .ok (.getfield 116, 3) := by decide +kernel
theorem dX9_shapeAnew_120 : decode cX9_shapeAnew 120 = .ok (.ifCond .ne 7, 3) := by decide +kernel
theorem dX9_shapeAnew_123 : decode cX9_shapeAnew 123 = .ok (.iload_n 3, 1) := by decide +kernel
theorem dX9_shapeAnew_124 : decode cX9_shapeAnew 124 = .ok (.goto 10, 3) := by decide +kernel
theorem dX9_shapeAnew_127 : decode cX9_shapeAnew 127 = .ok (.bipush 32, 2) := by decide +kernel
theorem dX9_shapeAnew_129 : decode cX9_shapeAnew 129 = .ok (.iload_n 3, 1) := by decide +kernel
theorem dX9_shapeAnew_130 : decode cX9_shapeAnew 130 = .ok (.imul, 1) := by decide +kernel
theorem dX9_shapeAnew_131 : decode cX9_shapeAnew 131 = .ok (.iload 4, 2) := by decide +kernel
theorem dX9_shapeAnew_133 : decode cX9_shapeAnew 133 = .ok (.iadd, 1) := by decide +kernel
theorem dX9_shapeAnew_134 : decode cX9_shapeAnew 134 = .ok (.putfield 128, 3) := by decide +kernel
theorem dX9_shapeAnew_137 : decode cX9_shapeAnew 137 = .ok (.iconst 0, 1) := by decide +kernel
theorem dX9_shapeAnew_138 : decode cX9_shapeAnew 138 = .ok (.istore 5, 2) := by decide +kernel
theorem dX9_shapeAnew_140 : decode cX9_shapeAnew 140 = .ok (.iload 5, 2) := by decide +kernel
theorem dX9_shapeAnew_142 : decode cX9_shapeAnew 142 = .ok (.iload_n 3, 1) := by decide +kernel
theorem dX9_shapeAnew_143 : decode cX9_shapeAnew 143 = .ok (.iload 4, 2) := by decide +kernel
theorem dX9_shapeAnew_145 : decode cX9_shapeAnew 145 = .ok (.imul, 1) := by decide +kernel
theorem dX9_shapeAnew_146 : decode cX9_shapeAnew 146 = .ok (.if_icmp .ge 30, 3) := by decide +kernel
theorem dX9_shapeAnew_149 : decode cX9_shapeAnew 149 = .ok (.aload_n 0, 1) := by decide +kernel
theorem dX9_shapeAnew_150 : decode cX9_shapeAnew 150 = .ok (.getfield 32, 3) := by decide +kernel
theorem dX9_shapeAnew_153 : decode cX9_shapeAnew 153 = .ok (.iload 5, 2) := by decide +kernel
theorem dX9_shapeAnew_155 : decode cX9_shapeAnew 155 = .ok (.aload_n 0, 1) := by decide +kernel
theorem dX9_shapeAnew_156 : decode cX9_shapeAnew 156 = .ok (.getfield 38, 3) := by decide +kernel
theorem dX9_shapeAnew_159 : decode cX9_shapeAnew 159 = .ok (.bipush 24, 2) := by decide +kernel
theorem dX9_shapeAnew_161 : decode cX9_shapeAnew 161 = .ok (.iload_n 1, 1) := by decide +kernel
theorem dX9_shapeAnew_162 : decode cX9_shapeAnew 162 = .ok (.imul, 1) := by decide +kernel
theorem dX9_shapeAnew_163 : decode cX9_shapeAnew 163 = .ok (.iload 5, 2) := by decide +kernel
theorem dX9_shapeAnew_165 : decode cX9_shapeAnew 165 = .ok (.iload_n 2, 1) := by decide +kernel
theorem dX9_shapeAnew_166 : decode cX9_shapeAnew 166 = .ok (.irem, 1) := by decide +kernel
theorem dX9_shapeAnew_167 : decode cX9_shapeAnew 167 = .ok (.iadd, 1) := by decide +kernel
theorem dX9_shapeAnew_168 : decode cX9_shapeAnew 168 = .ok (.daload, 1) := by decide +kernel
theorem dX9_shapeAnew_169 : decode cX9_shapeAnew 169 = .ok (.dastore, 1) := by decide +kernel
theorem dX9_shapeAnew_170 : decode cX9_shapeAnew 170 = .ok (.iinc 5 1, 3) := by decide +kernel
theorem dX9_shapeAnew_173 : decode cX9_shapeAnew 173 = .ok (.goto (-33), 3) := by decide +kernel
theorem dX9_shapeAnew_176 : decode cX9_shapeAnew 176 = .ok (.return_, 1) := by decide +kernel
theorem dX9_pairs_0 : decode cX9_pairs 0 = .ok (.aload_n 0, 1) := by decide +kernel
theorem dX9_pairs_1 : decode cX9_pairs 1 = .ok (.getfield 41, 3) := by decide +kernel
theorem dX9_pairs_4 : decode cX9_pairs 4 = .ok (.iload_n 2, 1) := by decide +kernel
theorem dX9_pairs_5 : decode cX9_pairs 5 = .ok (.iaload, 1) := by decide +kernel
theorem dX9_pairs_6 : decode cX9_pairs 6 = .ok (.istore_n 3, 1) := by decide +kernel
theorem dX9_pairs_7 : decode cX9_pairs 7 = .ok (.aload_n 0, 1) := by decide +kernel
theorem dX9_pairs_8 : decode cX9_pairs 8 = .ok (.getfield 116, 3) := by decide +kernel
theorem dX9_pairs_11 : decode cX9_pairs 11 = .ok (.iload_n 3, 1) := by decide +kernel
theorem dX9_pairs_12 : decode cX9_pairs 12 = .ok (.if_icmp .eq 20, 3) := by decide +kernel
theorem dX9_pairs_15 : decode cX9_pairs 15 = .ok (.aload_n 0, 1) := by decide +kernel
theorem dX9_pairs_16 : decode cX9_pairs 16 = .ok (.getfield 116, 3) := by decide +kernel
theorem dX9_pairs_19 : decode cX9_pairs 19 = .ok (.ifCond .eq 13, 3) := by decide +kernel
theorem dX9_pairs_22 : decode cX9_pairs 22 = .ok (.iload_n 3, 1) := by decide +kernel
theorem dX9_pairs_23 : decode cX9_pairs 23 = .ok (.ifCond .eq 9, 3) := by decide +kernel
theorem dX9_pairs_26 : decode cX9_pairs 26 = .ok (.aload_n 0, 1) := by decide +kernel
theorem dX9_pairs_27 : decode cX9_pairs 27 = .ok (.iconst 1, 1) := by decide +kernel
theorem dX9_pairs_28 : decode cX9_pairs 28 = .ok (.putfield 119, 3) := by decide +kernel
theorem dX9_pairs_31 : decode cX9_pairs 31 = .ok (.return_, 1) := by decide +kernel
theorem dX9_pairs_32 : decode cX9_pairs 32 = .ok (.aload_n 0, 1) := by decide +kernel
theorem dX9_pairs_33 : decode cX9_pairs 33 = .ok (.aload_n 0, 1) := by decide +kernel
theorem dX9_pairs_34 : decode cX9_pairs 34 = .ok (.getfield 116, 3) := by decide +kernel
theorem dX9_pairs_37 : decode cX9_pairs 37 = .ok (.ifCond .ne 7, 3) := by decide +kernel
theorem dX9_pairs_40 : decode cX9_pairs 40 = .ok (.iload_n 3, 1) := by decide +kernel
theorem dX9_pairs_41 : decode cX9_pairs 41 = .ok (.goto 7, 3) := by decide +kernel
theorem dX9_pairs_44 : decode cX9_pairs 44 = .ok (.aload_n 0, 1) := by decide +kernel
theorem dX9_pairs_45 : decode cX9_pairs 45 = .ok (.getfield 116, 3) := by decide +kernel
theorem dX9_pairs_48 : decode cX9_pairs 48 = .ok (.putfield 128, 3) := by decide +kernel
theorem dX9_pairs_51 : decode cX9_pairs 51 = .ok (.iconst 0, 1) := by decide +kernel
theorem dX9_pairs_52 : decode cX9_pairs 52 = .ok (.istore 4, 2) := by decide +kernel
theorem dX9_pairs_54 : decode cX9_pairs 54 = .ok (.iload 4, 2) := by decide +kernel
theorem dX9_pairs_56 : decode cX9_pairs 56 = .ok (.aload_n 0, 1) := by decide +kernel
theorem dX9_pairs_57 : decode cX9_pairs 57 = .ok (.getfield 128, 3) := by decide +kernel
theorem dX9_pairs_60 : decode cX9_pairs 60 = .ok (.invokestatic 70, 3) := by decide +kernel
theorem dX9_pairs_63 : decode cX9_pairs 63 = .ok (.if_icmp .ge 76, 3) := by decide +kernel
theorem dX9_pairs_66 : decode cX9_pairs 66 = .ok (.aload_n 0, 1) := by decide +kernel
theorem dX9_pairs_67 : decode cX9_pairs 67 = .ok (.getfield 106, 3) := by decide +kernel
theorem dX9_pairs_70 : decode cX9_pairs 70 = .ok (.ifCond .ne 69, 3) := by decide +kernel
theorem dX9_pairs_73 : decode cX9_pairs 73 = .ok (.aload_n 0, 1) := by decide +kernel
theorem dX9_pairs_74 : decode cX9_pairs 74 = .ok (.getfield 32, 3) := by decide +kernel
theorem dX9_pairs_77 : decode cX9_pairs 77 = .ok (.iload 4, 2) := by decide +kernel
theorem dX9_pairs_79 : decode cX9_pairs 79 = .ok (.iload_n 1, 1) := by decide +kernel
theorem dX9_pairs_80 : decode cX9_pairs 80 = .ok (.aload_n 0, 1) := by decide +kernel
theorem dX9_pairs_81 : decode cX9_pairs 81 = .ok (.getfield 35, 3) := by decide +kernel
theorem dX9_pairs_84 : decode cX9_pairs 84 = .ok (.aload_n 0, 1) := by decide +kernel
theorem dX9_pairs_85 : decode cX9_pairs 85 = .ok (.getfield 116, 3) := by decide +kernel
theorem dX9_pairs_88 : decode cX9_pairs 88 = .ok (.ifCond .ne 7, 3) := by decide +kernel
theorem dX9_pairs_91 : decode cX9_pairs 91 = .ok (.iconst 0, 1) := by decide +kernel
theorem dX9_pairs_92 : decode cX9_pairs 92 = .ok (.goto 5, 3) := by decide +kernel
theorem dX9_pairs_95 : decode cX9_pairs 95 = .ok (.iload 4, 2) := by decide +kernel
theorem dX9_pairs_97 : decode cX9_pairs 97 = .ok (.daload, 1) := by decide +kernel
theorem dX9_pairs_98 : decode cX9_pairs 98 = .ok (.aload_n 0, 1) := by decide +kernel
theorem dX9_pairs_99 : decode cX9_pairs 99 = .ok (.getfield 38, 3) := by decide +kernel
theorem dX9_pairs_102 : decode cX9_pairs 102 = .ok (.bipush 24, 2) := by decide +kernel
theorem dX9_pairs_104 : decode cX9_pairs 104 = .ok (.iload_n 2, 1) := by decide +kernel
theorem dX9_pairs_105 : decode cX9_pairs 105 = .ok (.imul, 1) := by decide +kernel
theorem dX9_pairs_106 : decode cX9_pairs 106 = .ok (.iload_n 3, 1) := by decide +kernel
theorem dX9_pairs_107 : decode cX9_pairs 107 = .ok (.ifCond .ne 7, 3) := by decide +kernel
theorem dX9_pairs_110 : decode cX9_pairs 110 = .ok (.iconst 0, 1) := by decide +kernel
theorem dX9_pairs_111 : decode cX9_pairs 111 = .ok (.goto 5, 3) := by decide +kernel
theorem dX9_pairs_114 : decode cX9_pairs 114 = .ok (.iload 4, 2) := by decide +kernel
theorem dX9_pairs_116 : decode cX9_pairs 116 = .ok (.iadd, 1) := by decide +kernel
theorem dX9_pairs_117 : decode cX9_pairs 117 = .ok (.daload, 1) := by decide +kernel
theorem dX9_pairs_118 : decode cX9_pairs 118 = .ok (.invokestatic 145, 3) := by decide +kernel
theorem dX9_pairs_121 : decode cX9_pairs 121 = .ok (.dastore, 1) := by decide +kernel
theorem dX9_pairs_122 : decode cX9_pairs 122 = .ok (.aload_n 0, 1) := by decide +kernel
theorem dX9_pairs_123 : decode cX9_pairs 123 = .ok (.aload_n 0, 1) := by decide +kernel
theorem dX9_pairs_124 : decode cX9_pairs 124 = .ok (.getfield 32, 3) := by decide +kernel
theorem dX9_pairs_127 : decode cX9_pairs 127 = .ok (.iload 4, 2) := by decide +kernel
theorem dX9_pairs_129 : decode cX9_pairs 129 = .ok (.daload, 1) := by decide +kernel
theorem dX9_pairs_130 : decode cX9_pairs 130 = .ok (.invokevirtual 149, 3) := by decide +kernel
theorem dX9_pairs_133 : decode cX9_pairs 133 = .ok (.iinc 4 1, 3) := by decide +kernel
theorem dX9_pairs_136 : decode cX9_pairs 136 = .ok (.goto (-82), 3) := by decide +kernel
theorem dX9_pairs_139 : decode cX9_pairs 139 = .ok (.return_, 1) := by decide +kernel
theorem dX9_front_0 : decode cX9_front 0 = .ok (.aload_n 0, 1) := by decide +kernel
theorem dX9_front_1 : decode cX9_front 1 = .ok (.getfield 20, 3) := by decide +kernel
theorem dX9_front_4 : decode cX9_front 4 = .ok (.iload_n 1, 1) := by decide +kernel
theorem dX9_front_5 : decode cX9_front 5 = .ok (.iaload, 1) := by decide +kernel
theorem dX9_front_6 : decode cX9_front 6 = .ok (.istore_n 2, 1) := by decide +kernel
theorem dX9_front_7 : decode cX9_front 7 = .ok (.aload_n 0, 1) := by decide +kernel
theorem dX9_front_8 : decode cX9_front 8 = .ok (.iconst 0, 1) := by decide +kernel
theorem dX9_front_9 : decode cX9_front 9 = .ok (.putfield 122, 3) := by decide +kernel
theorem dX9_front_12 : decode cX9_front 12 = .ok (.aload_n 0, 1) := by decide +kernel
theorem dX9_front_13 : decode cX9_front 13 = .ok (.iload_n 2, 1) := by decide +kernel
theorem dX9_front_14 : decode cX9_front 14 = .ok (.bipush 7, 2) := by decide +kernel
theorem dX9_front_16 : decode cX9_front 16 = .ok (.if_icmp .ne 14, 3) := by decide +kernel
theorem dX9_front_19 : decode cX9_front 19 = .ok (.aload_n 0, 1) := by decide +kernel
theorem dX9_front_20 : decode cX9_front 20 = .ok (.getfield 23, 3) := by decide +kernel
theorem dX9_front_23 : decode cX9_front 23 = .ok (.iload_n 1, 1) := by decide +kernel
theorem dX9_front_24 : decode cX9_front 24 = .ok (.iaload, 1) := by decide +kernel
theorem dX9_front_25 : decode cX9_front 25 = .ok (.bipush 126, 2) := by decide +kernel
theorem dX9_front_27 : decode cX9_front 27 = .ok (.if_icmp .ne 7, 3) := by decide +kernel
theorem dX9_front_30 : decode cX9_front 30 = .ok (.iconst 1, 1) := by decide +kernel
theorem dX9_front_31 : decode cX9_front 31 = .ok (.goto 4, 3) := by decide +kernel
theorem dX9_front_34 : decode cX9_front 34 = .ok (.iconst 0, 1) := by decide +kernel
theorem dX9_front_35 : decode cX9_front 35 = .ok (.putfield 125, 3) := by decide +kernel
theorem dX9_front_38 : decode cX9_front 38 = .ok (.aload_n 0, 1) := by decide +kernel
theorem dX9_front_39 : decode cX9_front 39 = .ok (.getfield 125, 3) := by decide +kernel
theorem dX9_front_42 : decode cX9_front 42 = .ok (.ifCond .eq 13, 3) := by decide +kernel
theorem dX9_front_45 : decode cX9_front 45 = .ok (.aload_n 0, 1) := by decide +kernel
theorem dX9_front_46 : decode cX9_front 46 = .ok (.dup, 1) := by decide +kernel
theorem dX9_front_47 : decode cX9_front 47 = .ok (.getfield 142, 3) := by decide +kernel
theorem dX9_front_50 : decode cX9_front 50 = .ok (.iconst 1, 1) := by decide +kernel
theorem dX9_front_51 : decode cX9_front 51 = .ok (.iadd, 1) := by decide +kernel
theorem dX9_front_52 : decode cX9_front 52 = .ok (.putfield 142, 3) := by decide +kernel
theorem dX9_front_55 : decode cX9_front 55 = .ok (.aload_n 0, 1) := by decide +kernel
theorem dX9_front_56 : decode cX9_front 56 = .ok (.getfield 128, 3) := by decide +kernel
theorem dX9_front_59 : decode cX9_front 59 = .ok (.invokestatic 70, 3) := by decide +kernel
theorem dX9_front_62 : decode cX9_front 62 = .ok (.istore_n 3, 1) := by decide +kernel
theorem dX9_front_63 : decode cX9_front 63 = .ok (.iload_n 2, 1) := by decide +kernel
theorem dX9_front_64 : decode cX9_front 64 = .ok (.bipush 7, 2) := by decide +kernel
theorem dX9_front_66 : decode cX9_front 66 = .ok (.if_icmp .ne 47, 3) := by decide +kernel
theorem dX9_front_69 : decode cX9_front 69 = .ok (.aload_n 0, 1) := by decide +kernel
theorem dX9_front_70 : decode cX9_front 70 = .ok (.getfield 23, 3) := by decide +kernel
theorem dX9_front_73 : decode cX9_front 73 = .ok (.iload_n 1, 1) := by decide +kernel
theorem dX9_front_74 : decode cX9_front 74 = .ok (.iaload, 1) := by decide +kernel
theorem dX9_front_75 : decode cX9_front 75 = .ok (.bipush 45, 2) := by decide +kernel
theorem dX9_front_77 : decode cX9_front 77 = .ok (.if_icmp .ne 36, 3) := by decide +kernel
theorem dX9_front_80 : decode cX9_front 80 = .ok (.iconst 0, 1) := by decide +kernel
theorem dX9_front_81 : decode cX9_front 81 = .ok (.istore 4, 2) := by decide +kernel
theorem dX9_front_83 : decode cX9_front 83 = .ok (.iload 4, 2) := by decide +kernel
theorem dX9_front_85 : decode cX9_front 85 = .ok (.iload_n 3, 1) := by decide +kernel
theorem dX9_front_86 : decode cX9_front 86 = .ok (.if_icmp .ge 24, 3) := by decide +kernel
theorem dX9_front_89 : decode cX9_front 89 = .ok (.aload_n 0, 1) := by decide +kernel
theorem dX9_front_90 : decode cX9_front 90 = .ok (.getfield 32, 3) := by decide +kernel
theorem dX9_front_93 : decode cX9_front 93 = .ok (.iload 4, 2) := by decide +kernel
theorem dX9_front_95 : decode cX9_front 95 = .ok (.aload_n 0, 1) := by decide +kernel
theorem dX9_front_96 : decode cX9_front 96 = .ok (.getfield 32, 3) := by decide +kernel
theorem dX9_front_99 : decode cX9_front 99 = .ok (.iload 4, 2) := by decide +kernel
theorem dX9_front_101 : decode cX9_front 101 = .ok (.daload, 1) := by decide +kernel
theorem dX9_front_102 : decode cX9_front 102 = .ok (.dneg, 1) := by decide +kernel
theorem dX9_front_103 : decode cX9_front 103 = .ok (.dastore, 1) := by decide +kernel
theorem dX9_front_104 : decode cX9_front 104 = .ok (.iinc 4 1, 3) := by decide +kernel
theorem dX9_front_107 : decode cX9_front 107 = .ok (.goto (-24), 3) := by decide +kernel
theorem dX9_front_110 : decode cX9_front 110 = .ok (.goto 37, 3) := by decide +kernel
theorem dX9_front_113 : decode cX9_front 113 = .ok (.iload_n 2, 1) := by decide +kernel
theorem dX9_front_114 : decode cX9_front 114 = .ok (.bipush 7, 2) := by decide +kernel
theorem dX9_front_116 : decode cX9_front 116 = .ok (.if_icmp .ne 10, 3) := by decide +kernel
theorem dX9_front_119 : decode cX9_front 119 = .ok (.aload_n 0, 1) := by decide +kernel
theorem dX9_front_120 : decode cX9_front 120 = .ok (.invokevirtual 153, 3) := by decide +kernel
theorem dX9_front_123 : decode cX9_front 123 = .ok (.goto 24, 3) := by decide +kernel
theorem dX9_front_126 : decode cX9_front 126 = .ok (.aload_n 0, 1) := by decide +kernel
theorem dX9_front_127 : decode cX9_front 127 = .ok (.aload_n 0, 1) := by decide +kernel
theorem dX9_front_128 : decode cX9_front 128 = .ok (.getfield 23, 3) := by decide +kernel
theorem dX9_front_131 : decode cX9_front 131 = .ok (.iload_n 1, 1) := by decide +kernel
theorem dX9_front_132 : decode cX9_front 132 = .ok (.iaload, 1) := by decide +kernel
theorem dX9_front_133 : decode cX9_front 133 = .ok (.iload_n 2, 1) := by decide +kernel
theorem dX9_front_134 : decode cX9_front 134 = .ok (.bipush 8, 2) := by decide +kernel
theorem dX9_front_136 : decode cX9_front 136 = .ok (.if_icmp .ne 7, 3) := by decide +kernel
theorem dX9_front_139 : decode cX9_front 139 = .ok (.iconst 1, 1) := by decide +kernel
theorem dX9_front_140 : decode cX9_front 140 = .ok (.goto 4, 3) := by decide +kernel
theorem dX9_front_143 : decode cX9_front 143 = .ok (.iconst 0, 1) := by decide +kernel
theorem dX9_front_144 : decode cX9_front 144 = .ok (.invokevirtual 156, 3) := by decide +kernel
theorem dX9_front_147 : decode cX9_front 147 = .ok (.return_, 1) := by decide +kernel
theorem dX9_turn_0 : decode cX9_turn 0 = .ok (.aload_n 0, 1) := by decide +kernel
theorem dX9_turn_1 : decode cX9_turn 1 = .ok (.getfield 128, 3) := by decide +kernel
theorem dX9_turn_4 : decode cX9_turn 4 = .ok (.bipush 32, 2) := by decide +kernel
theorem dX9_turn_6 : decode cX9_turn 6 = .ok (.if_icmp .ge 4, 3) := by decide +kernel
theorem dX9_turn_9 : decode cX9_turn 9 = .ok (.return_, 1) := by decide +kernel
theorem dX9_turn_10 : decode cX9_turn 10 = .ok (.aload_n 0, 1) := by decide +kernel
theorem dX9_turn_11 : decode cX9_turn 11 = .ok (.getfield 128, 3) := by decide +kernel
theorem dX9_turn_14 : decode cX9_turn 14 = .ok (.bipush 32, 2) := by decide +kernel
theorem dX9_turn_16 : decode cX9_turn 16 = .ok (.idiv, 1) := by decide +kernel
theorem dX9_turn_17 : decode cX9_turn 17 = .ok (.istore_n 1, 1) := by decide +kernel
theorem dX9_turn_18 : decode cX9_turn 18 = .ok (.aload_n 0, 1) := by decide +kernel
theorem dX9_turn_19 : decode cX9_turn 19 = .ok (.getfield 128, 3) := by decide +kernel
theorem dX9_turn_22 : decode cX9_turn 22 = .ok (.bipush 32, 2) := by decide +kernel
theorem dX9_turn_24 : decode cX9_turn 24 = .ok (.irem, 1) := by decide +kernel
theorem dX9_turn_25 : decode cX9_turn 25 = .ok (.istore_n 2, 1) := by decide +kernel
theorem dX9_turn_26 : decode cX9_turn 26 = .ok (.iconst 0, 1) := by decide +kernel
theorem dX9_turn_27 : decode cX9_turn 27 = .ok (.istore_n 3, 1) := by decide +kernel
theorem dX9_turn_28 : decode cX9_turn 28 = .ok (.iload_n 3, 1) := by decide +kernel
theorem dX9_turn_29 : decode cX9_turn 29 = .ok (.bipush 24, 2) := by decide +kernel
theorem dX9_turn_31 : decode cX9_turn 31 = .ok (.if_icmp .ge 21, 3) := by decide +kernel
theorem dX9_turn_34 : decode cX9_turn 34 = .ok (.aload_n 0, 1) := by decide +kernel
theorem dX9_turn_35 : decode cX9_turn 35 = .ok (.getfield 35, 3) := by decide +kernel
theorem dX9_turn_38 : decode cX9_turn 38 = .ok (.iload_n 3, 1) := by decide +kernel
theorem dX9_turn_39 : decode cX9_turn 39 = .ok (.aload_n 0, 1) := by decide +kernel
theorem dX9_turn_40 : decode cX9_turn 40 = .ok (.getfield 32, 3) := by decide +kernel
theorem dX9_turn_43 : decode cX9_turn 43 = .ok (.iload_n 3, 1) := by decide +kernel
theorem dX9_turn_44 : decode cX9_turn 44 = .ok (.daload, 1) := by decide +kernel
theorem dX9_turn_45 : decode cX9_turn 45 = .ok (.dastore, 1) := by decide +kernel
theorem dX9_turn_46 : decode cX9_turn 46 = .ok (.iinc 3 1, 3) := by decide +kernel
theorem dX9_turn_49 : decode cX9_turn 49 = .ok (.goto (-21), 3) := by decide +kernel
theorem dX9_turn_52 : decode cX9_turn 52 = .ok (.iconst 0, 1) := by decide +kernel
theorem dX9_turn_53 : decode cX9_turn 53 = .ok (.istore_n 3, 1) := by decide +kernel
theorem dX9_turn_54 : decode cX9_turn 54 = .ok (.iload_n 3, 1) := by decide +kernel
theorem dX9_turn_55 : decode cX9_turn 55 = .ok (.iload_n 1, 1) := by decide +kernel
theorem dX9_turn_56 : decode cX9_turn 56 = .ok (.iload_n 2, 1) := by decide +kernel
theorem dX9_turn_57 : decode cX9_turn 57 = .ok (.imul, 1) := by decide +kernel
theorem dX9_turn_58 : decode cX9_turn 58 = .ok (.if_icmp .ge 29, 3) := by decide +kernel
theorem dX9_turn_61 : decode cX9_turn 61 = .ok (.aload_n 0, 1) := by decide +kernel
theorem dX9_turn_62 : decode cX9_turn 62 = .ok (.getfield 32, 3) := by decide +kernel
theorem dX9_turn_65 : decode cX9_turn 65 = .ok (.iload_n 3, 1) := by decide +kernel
theorem dX9_turn_66 : decode cX9_turn 66 = .ok (.aload_n 0, 1) := by decide +kernel
theorem dX9_turn_67 : decode cX9_turn 67 = .ok (.getfield 35, 3) := by decide +kernel
theorem dX9_turn_70 : decode cX9_turn 70 = .ok (.iload_n 3, 1) := by decide +kernel
theorem dX9_turn_71 : decode cX9_turn 71 = .ok (.iload_n 1, 1) := by decide +kernel
theorem dX9_turn_72 : decode cX9_turn 72 = .ok (.irem, 1) := by decide +kernel
theorem dX9_turn_73 : decode cX9_turn 73 = .ok (.iload_n 2, 1) := by decide +kernel
theorem dX9_turn_74 : decode cX9_turn 74 = .ok (.imul, 1) := by decide +kernel
theorem dX9_turn_75 : decode cX9_turn 75 = .ok (.iload_n 3, 1) := by decide +kernel
theorem dX9_turn_76 : decode cX9_turn 76 = .ok (.iload_n 1, 1) := by decide +kernel
theorem dX9_turn_77 : decode cX9_turn 77 = .ok (.idiv, 1) := by decide +kernel
theorem dX9_turn_78 : decode cX9_turn 78 = .ok (.iadd, 1) := by decide +kernel
theorem dX9_turn_79 : decode cX9_turn 79 = .ok (.daload, 1) := by decide +kernel
theorem dX9_turn_80 : decode cX9_turn 80 = .ok (.dastore, 1) := by decide +kernel
theorem dX9_turn_81 : decode cX9_turn 81 = .ok (.iinc 3 1, 3) := by decide +kernel
theorem dX9_turn_84 : decode cX9_turn 84 = .ok (.goto (-30), 3) := by decide +kernel
theorem dX9_turn_87 : decode cX9_turn 87 = .ok (.aload_n 0, 1) := by decide +kernel
theorem dX9_turn_88 : decode cX9_turn 88 = .ok (.bipush 32, 2) := by decide +kernel
theorem dX9_turn_90 : decode cX9_turn 90 = .ok (.iload_n 2, 1) := by decide +kernel
theorem dX9_turn_91 : decode cX9_turn 91 = .ok (.imul, 1) := by decide +kernel
theorem dX9_turn_92 : decode cX9_turn 92 = .ok (.iload_n 1, 1) := by decide +kernel
theorem dX9_turn_93 : decode cX9_turn 93 = .ok (.iadd, 1) := by decide +kernel
theorem dX9_turn_94 : decode cX9_turn 94 = .ok (.putfield 128, 3) := by decide +kernel
theorem dX9_turn_97 : decode cX9_turn 97 = .ok (.return_, 1) := by decide +kernel
theorem dX9_along_0 : decode cX9_along 0 = .ok (.aload_n 0, 1) := by decide +kernel
theorem dX9_along_1 : decode cX9_along 1 = .ok (.getfield 128, 3) := by decide +kernel
theorem dX9_along_4 : decode cX9_along 4 = .ok (.ifCond .ne 4, 3) := by decide +kernel
theorem dX9_along_7 : decode cX9_along 7 = .ok (.return_, 1) := by decide +kernel
theorem dX9_along_8 : decode cX9_along 8 = .ok (.aload_n 0, 1) := by decide +kernel
theorem dX9_along_9 : decode cX9_along 9 = .ok (.getfield 128, 3) := by decide +kernel
theorem dX9_along_12 : decode cX9_along 12 = .ok (.bipush 32, 2) := by decide +kernel
theorem dX9_along_14 : decode cX9_along 14 = .ok (.if_icmp .ge 7, 3) := by decide +kernel
theorem dX9_along_17 : decode cX9_along 17 = .ok (.iconst 1, 1) := by decide +kernel
theorem dX9_along_18 : decode cX9_along 18 = .ok (.goto 10, 3) := by decide +kernel
theorem dX9_along_21 : decode cX9_along 21 = .ok (.aload_n 0, 1) := by decide +kernel
theorem dX9_along_22 : decode cX9_along 22 = .ok (.getfield 128, 3) := by decide +kernel
theorem dX9_along_25 : decode cX9_along 25 = .ok (.bipush 32, 2) := by decide +kernel
theorem dX9_along_27 : decode cX9_along 27 = .ok (.idiv, 1) := by decide +kernel
theorem dX9_along_28 : decode cX9_along 28 = .ok (.istore_n 3, 1) := by decide +kernel
theorem dX9_along_29 : decode cX9_along 29 = .ok (.aload_n 0, 1) := by decide +kernel
theorem dX9_along_30 : decode cX9_along 30 = .ok (.getfield 128, 3) := by decide +kernel
theorem dX9_along_33 : decode cX9_along 33 = .ok (.bipush 32, 2) := by decide +kernel
theorem dX9_along_35 : decode cX9_along 35 = .ok (.if_icmp .ge 10, 3) := by decide +kernel
theorem dX9_along_38 : decode cX9_along 38 = .ok (.aload_n 0, 1) := by decide +kernel
theorem dX9_along_39 : decode cX9_along 39 = .ok (.getfield 128, 3) := by decide +kernel
theorem dX9_along_42 : decode cX9_along 42 = .ok (.goto 10, 3) := by decide +kernel
theorem dX9_along_45 : decode cX9_along 45 = .ok (.aload_n 0, 1) := by decide +kernel
theorem dX9_along_46 : decode cX9_along 46 = .ok (.getfield 128, 3) := by decide +kernel
theorem dX9_along_49 : decode cX9_along 49 = .ok (.bipush 32, 2) := by decide +kernel
theorem dX9_along_51 : decode cX9_along 51 = .ok (.irem, 1) := by decide +kernel
theorem dX9_along_52 : decode cX9_along 52 = .ok (.istore 4, 2) := by decide +kernel
theorem dX9_along_54 : decode cX9_along 54 = .ok (.iconst 0, 1) := by decide +kernel
theorem dX9_along_55 : decode cX9_along 55 = .ok (.istore 5, 2) := by decide +kernel
theorem dX9_along_57 : decode cX9_along 57 = .ok (.iload 5, 2) := by decide +kernel
theorem dX9_along_59 : decode cX9_along 59 = .ok (.iload_n 3, 1) := by decide +kernel
theorem dX9_along_60 : decode cX9_along 60 = .ok (.iload 4, 2) := by decide +kernel
theorem dX9_along_62 : decode cX9_along 62 = .ok (.imul, 1) := by decide +kernel
theorem dX9_along_63 : decode cX9_along 63 = .ok (.if_icmp .ge 62, 3) := by decide +kernel
theorem dX9_along_66 : decode cX9_along 66 = .ok (.aload_n 0, 1) := by decide +kernel
theorem dX9_along_67 : decode cX9_along 67 = .ok (.getfield 106, 3) := by decide +kernel
theorem dX9_along_70 : decode cX9_along 70 = .ok (.ifCond .ne 55, 3) := by decide +kernel
theorem dX9_along_73 : decode cX9_along 73 = .ok (.iload 5, 2) := by decide +kernel
theorem dX9_along_75 : decode cX9_along 75 = .ok (.iload 4, 2) := by decide +kernel
theorem dX9_along_77 : decode cX9_along 77 = .ok (.irem, 1) := by decide +kernel
theorem dX9_along_78 : decode cX9_along 78 = .ok (.ifCond .le 30, 3) := by decide +kernel
theorem dX9_along_81 : decode cX9_along 81 = .ok (.aload_n 0, 1) := by decide +kernel
theorem dX9_along_82 : decode cX9_along 82 = .ok (.getfield 32, 3) := by decide +kernel
theorem dX9_along_85 : decode cX9_along 85 = .ok (.iload 5, 2) := by decide +kernel
theorem dX9_along_87 : decode cX9_along 87 = .ok (.iload_n 1, 1) := by decide +kernel
theorem dX9_along_88 : decode cX9_along 88 = .ok (.aload_n 0, 1) := by decide +kernel
theorem dX9_along_89 : decode cX9_along 89 = .ok (.getfield 32, 3) := by decide +kernel
theorem dX9_along_92 : decode cX9_along 92 = .ok (.iload 5, 2) := by decide +kernel
theorem dX9_along_94 : decode cX9_along 94 = .ok (.iconst 1, 1) := by decide +kernel
theorem dX9_along_95 : decode cX9_along 95 = .ok (.isub, 1) := by decide +kernel
theorem dX9_along_96 : decode cX9_along 96 = .ok (.daload, 1) := by decide +kernel
theorem dX9_along_97 : decode cX9_along 97 = .ok (.aload_n 0, 1) := by decide +kernel
theorem dX9_along_98 : decode cX9_along 98 = .ok (.getfield 32, 3) := by decide +kernel
theorem dX9_along_101 : decode cX9_along 101 = .ok (.iload 5, 2) := by decide +kernel
theorem dX9_along_103 : decode cX9_along 103 = .ok (.daload, 1) := by decide +kernel
theorem dX9_along_104 : decode cX9_along 104 = .ok (.invokestatic 145, 3) := by decide +kernel
theorem dX9_along_107 : decode cX9_along 107 = .ok (.dastore, 1) := by decide +kernel
theorem dX9_along_108 : decode cX9_along 108 = .ok (.aload_n 0, 1) := by decide +kernel
theorem dX9_along_109 : decode cX9_along 109 = .ok (.aload_n 0, 1) := by decide +kernel
theorem dX9_along_110 : decode cX9_along 110 = .ok (.getfield 32, 3) := by decide +kernel
theorem dX9_along_113 : decode cX9_along 113 = .ok (.iload 5, 2) := by decide +kernel
theorem dX9_along_115 : decode cX9_along 115 = .ok (.daload, 1) := by decide +kernel
theorem dX9_along_116 : decode cX9_along 116 = .ok (.invokevirtual 149, 3) := by decide +kernel
theorem dX9_along_119 : decode cX9_along 119 = .ok (.iinc 5 1, 3) := by decide +kernel
theorem dX9_along_122 : decode cX9_along 122 = .ok (.goto (-65), 3) := by decide +kernel
theorem dX9_along_125 : decode cX9_along 125 = .ok (.iload_n 2, 1) := by decide +kernel
theorem dX9_along_126 : decode cX9_along 126 = .ok (.ifCond .ne 4, 3) := by decide +kernel
theorem dX9_along_129 : decode cX9_along 129 = .ok (.return_, 1) := by decide +kernel
theorem dX9_along_130 : decode cX9_along 130 = .ok (.iconst 0, 1) := by decide +kernel
theorem dX9_along_131 : decode cX9_along 131 = .ok (.istore 5, 2) := by decide +kernel
theorem dX9_along_133 : decode cX9_along 133 = .ok (.iload 5, 2) := by decide +kernel
theorem dX9_along_135 : decode cX9_along 135 = .ok (.iload_n 3, 1) := by decide +kernel
theorem dX9_along_136 : decode cX9_along 136 = .ok (.if_icmp .ge 31, 3) := by decide +kernel
theorem dX9_along_139 : decode cX9_along 139 = .ok (.aload_n 0, 1) := by decide +kernel
theorem dX9_along_140 : decode cX9_along 140 = .ok (.getfield 32, 3) := by decide +kernel
theorem dX9_along_143 : decode cX9_along 143 = .ok (.iload 5, 2) := by decide +kernel
theorem dX9_along_145 : decode cX9_along 145 = .ok (.aload_n 0, 1) := by decide +kernel
theorem dX9_along_146 : decode cX9_along 146 = .ok (.getfield 32, 3) := by decide +kernel
theorem dX9_along_149 : decode cX9_along 149 = .ok (.iload 4, 2) := by decide +kernel
theorem dX9_along_151 : decode cX9_along 151 = .ok (.iload 5, 2) := by decide +kernel
theorem dX9_along_153 : decode cX9_along 153 = .ok (.imul, 1) := by decide +kernel
theorem dX9_along_154 : decode cX9_along 154 = .ok (.iload 4, 2) := by decide +kernel
theorem dX9_along_156 : decode cX9_along 156 = .ok (.iadd, 1) := by decide +kernel
theorem dX9_along_157 : decode cX9_along 157 = .ok (.iconst 1, 1) := by decide +kernel
theorem dX9_along_158 : decode cX9_along 158 = .ok (.isub, 1) := by decide +kernel
theorem dX9_along_159 : decode cX9_along 159 = .ok (.daload, 1) := by decide +kernel
theorem dX9_along_160 : decode cX9_along 160 = .ok (.dastore, 1) := by decide +kernel
theorem dX9_along_161 : decode cX9_along 161 = .ok (.iinc 5 1, 3) := by decide +kernel
theorem dX9_along_164 : decode cX9_along 164 = .ok (.goto (-31), 3) := by decide +kernel
theorem dX9_along_167 : decode cX9_along 167 = .ok (.aload_n 0, 1) := by decide +kernel
theorem dX9_along_168 : decode cX9_along 168 = .ok (.aload_n 0, 1) := by decide +kernel
theorem dX9_along_169 : decode cX9_along 169 = .ok (.getfield 128, 3) := by decide +kernel
theorem dX9_along_172 : decode cX9_along 172 = .ok (.bipush 32, 2) := by decide +kernel
theorem dX9_along_174 : decode cX9_along 174 = .ok (.if_icmp .ge 7, 3) := by decide +kernel
theorem dX9_along_177 : decode cX9_along 177 = .ok (.iconst 0, 1) := by decide +kernel
theorem dX9_along_178 : decode cX9_along 178 = .ok (.goto 4, 3) := by decide +kernel
theorem dX9_along_181 : decode cX9_along 181 = .ok (.iload_n 3, 1) := by decide +kernel
theorem dX9_along_182 : decode cX9_along 182 = .ok (.putfield 128, 3) := by decide +kernel
theorem dX9_along_185 : decode cX9_along 185 = .ok (.return_, 1) := by decide +kernel
theorem dX9_work_0 : decode cX9_work 0 = .ok (.aload_n 0, 1) := by decide +kernel
theorem dX9_work_1 : decode cX9_work 1 = .ok (.invokevirtual 160, 3) := by decide +kernel
theorem dX9_work_4 : decode cX9_work 4 = .ok (.ifCond .ne 5, 3) := by decide +kernel
theorem dX9_work_7 : decode cX9_work 7 = .ok (.iconst 1, 1) := by decide +kernel
theorem dX9_work_8 : decode cX9_work 8 = .ok (.ireturn, 1) := by decide +kernel
theorem dX9_work_9 : decode cX9_work 9 = .ok (.iconst 0, 1) := by decide +kernel
theorem dX9_work_10 : decode cX9_work 10 = .ok (.istore_n 1, 1) := by decide +kernel
theorem dX9_work_11 : decode cX9_work 11 = .ok (.aload_n 0, 1) := by decide +kernel
theorem dX9_work_12 : decode cX9_work 12 = .ok (.iconst 0, 1) := by decide +kernel
theorem dX9_work_13 : decode cX9_work 13 = .ok (.putfield 142, 3) := by decide +kernel
theorem dX9_work_16 : decode cX9_work 16 = .ok (.aload_n 0, 1) := by decide +kernel
theorem dX9_work_17 : decode cX9_work 17 = .ok (.iconst 0, 1) := by decide +kernel
theorem dX9_work_18 : decode cX9_work 18 = .ok (.putfield 119, 3) := by decide +kernel
theorem dX9_work_21 : decode cX9_work 21 = .ok (.aload_n 0, 1) := by decide +kernel
theorem dX9_work_22 : decode cX9_work 22 = .ok (.iconst 0, 1) := by decide +kernel
theorem dX9_work_23 : decode cX9_work 23 = .ok (.putfield 106, 3) := by decide +kernel
theorem dX9_work_26 : decode cX9_work 26 = .ok (.aload_n 0, 1) := by decide +kernel
theorem dX9_work_27 : decode cX9_work 27 = .ok (.getfield 44, 3) := by decide +kernel
theorem dX9_work_30 : decode cX9_work 30 = .ok (.iconst 0, 1) := by decide +kernel
theorem dX9_work_31 : decode cX9_work 31 = .ok (.iconst 0, 1) := by decide +kernel
theorem dX9_work_32 : decode cX9_work 32 = .ok (.iastore, 1) := by decide +kernel
theorem dX9_work_33 : decode cX9_work 33 = .ok (.aload_n 0, 1) := by decide +kernel
theorem dX9_work_34 : decode cX9_work 34 = .ok (.getfield 78, 3) := by decide +kernel
theorem dX9_work_37 : decode cX9_work 37 = .ok (.iconst 1, 1) := by decide +kernel
theorem dX9_work_38 : decode cX9_work 38 = .ok (.isub, 1) := by decide +kernel
theorem dX9_work_39 : decode cX9_work 39 = .ok (.istore_n 2, 1) := by decide +kernel
theorem dX9_work_40 : decode cX9_work 40 = .ok (.iload_n 2, 1) := by decide +kernel
theorem dX9_work_41 : decode cX9_work 41 = .ok (.ifCond .lt 203, 3) := by decide +kernel
theorem dX9_work_44 : decode cX9_work 44 = .ok (.aload_n 0, 1) := by decide +kernel
theorem dX9_work_45 : decode cX9_work 45 = .ok (.getfield 119, 3) := by decide +kernel
theorem dX9_work_48 : decode cX9_work 48 = .ok (.ifCond .ne 196, 3) := by decide +kernel
theorem dX9_work_51 : decode cX9_work 51 = .ok (.aload_n 0, 1) := by decide +kernel
theorem dX9_work_52 : decode cX9_work 52 = .ok (.getfield 20, 3) := by decide +kernel
theorem dX9_work_55 : decode cX9_work 55 = .ok (.iload_n 2, 1) := by decide +kernel
theorem dX9_work_56 : decode cX9_work 56 = .ok (.iaload, 1) := by decide +kernel
theorem dX9_work_57 : decode cX9_work 57 = .ok (.istore_n 3, 1) := by decide +kernel
theorem dX9_work_58 : decode cX9_work 58 = .ok (.iload_n 3, 1) := by decide +kernel
theorem dX9_work_59 : decode cX9_work 59 = .ok (.iconst 5, 1) := by decide +kernel
theorem dX9_work_60 : decode cX9_work 60 = .ok (.if_icmp .ne 16, 3) := by decide +kernel
theorem dX9_work_63 : decode cX9_work 63 = .ok (.iinc 1 1, 3) := by decide +kernel
theorem dX9_work_66 : decode cX9_work 66 = .ok (.aload_n 0, 1) := by decide +kernel
theorem dX9_work_67 : decode cX9_work 67 = .ok (.getfield 44, 3) := by decide +kernel
theorem dX9_work_70 : decode cX9_work 70 = .ok (.iload_n 1, 1) := by decide +kernel
theorem dX9_work_71 : decode cX9_work 71 = .ok (.iconst 0, 1) := by decide +kernel
theorem dX9_work_72 : decode cX9_work 72 = .ok (.iastore, 1) := by decide +kernel
theorem dX9_work_73 : decode cX9_work 73 = .ok (.goto 165, 3) := by decide +kernel
theorem dX9_work_76 : decode cX9_work 76 = .ok (.iload_n 3, 1) := by decide +kernel
theorem dX9_work_77 : decode cX9_work 77 = .ok (.bipush 6, 2) := by decide +kernel
theorem dX9_work_79 : decode cX9_work 79 = .ok (.if_icmp .ne 63, 3) := by decide +kernel
theorem dX9_work_82 : decode cX9_work 82 = .ok (.aload_n 0, 1) := by decide +kernel
theorem dX9_work_83 : decode cX9_work 83 = .ok (.getfield 44, 3) := by decide +kernel
theorem dX9_work_86 : decode cX9_work 86 = .ok (.iload_n 1, 1) := by decide +kernel
theorem dX9_work_87 : decode cX9_work 87 = .ok (.aload_n 0, 1) := by decide +kernel
theorem dX9_work_88 : decode cX9_work 88 = .ok (.getfield 23, 3) := by decide +kernel
theorem dX9_work_91 : decode cX9_work 91 = .ok (.iload_n 2, 1) := by decide +kernel
theorem dX9_work_92 : decode cX9_work 92 = .ok (.iaload, 1) := by decide +kernel
theorem dX9_work_93 : decode cX9_work 93 = .ok (.iastore, 1) := by decide +kernel
theorem dX9_work_94 : decode cX9_work 94 = .ok (.aload_n 0, 1) := by decide +kernel
theorem dX9_work_95 : decode cX9_work 95 = .ok (.getfield 41, 3) := by decide +kernel
theorem dX9_work_98 : decode cX9_work 98 = .ok (.iload_n 1, 1) := by decide +kernel
theorem dX9_work_99 : decode cX9_work 99 = .ok (.aload_n 0, 1) := by decide +kernel
theorem dX9_work_100 : decode cX9_work 100 = .ok (.getfield 128, 3) := by decide +kernel
theorem dX9_work_103 : decode cX9_work 103 = .ok (.iastore, 1) := by decide +kernel
theorem dX9_work_104 : decode cX9_work 104 = .ok (.iconst 0, 1) := by decide +kernel
theorem dX9_work_105 : decode cX9_work 105 = .ok (.istore 4, 2) := by decide +kernel
theorem dX9_work_107 : decode cX9_work 107 = .ok (.iload 4, 2) := by decide +kernel
theorem dX9_work_109 : decode cX9_work 109 = .ok (.bipush 24, 2) := by decide +kernel
theorem dX9_work_111 : decode cX9_work 111 = .ok (.if_icmp .ge 28, 3) := by decide +kernel
theorem dX9_work_114 : decode cX9_work 114 = .ok (.aload_n 0, 1) := by decide +kernel
theorem dX9_work_115 : decode cX9_work 115 = .ok (.getfield 38, 3) := by decide +kernel
theorem dX9_work_118 : decode cX9_work 118 = .ok (.bipush 24, 2) := by decide +kernel
theorem dX9_work_120 : decode cX9_work 120 = .ok (.iload_n 1, 1) := by decide +kernel
theorem dX9_work_121 : decode cX9_work 121 = .ok (.imul, 1) := by decide +kernel
theorem dX9_work_122 : decode cX9_work 122 = .ok (.iload 4, 2) := by decide +kernel
theorem dX9_work_124 : decode cX9_work 124 = .ok (.iadd, 1) := by decide +kernel
theorem dX9_work_125 : decode cX9_work 125 = .ok (.aload_n 0, 1) := by decide +kernel
theorem dX9_work_126 : decode cX9_work 126 = .ok (.getfield 32, 3) := by decide +kernel
theorem dX9_work_129 : decode cX9_work 129 = .ok (.iload 4, 2) := by decide +kernel
theorem dX9_work_131 : decode cX9_work 131 = .ok (.daload, 1) := by decide +kernel
theorem dX9_work_132 : decode cX9_work 132 = .ok (.dastore, 1) := by decide +kernel
theorem dX9_work_133 : decode cX9_work 133 = .ok (.iinc 4 1, 3) := by decide +kernel
theorem dX9_work_136 : decode cX9_work 136 = .ok (.goto (-29), 3) := by decide +kernel
theorem dX9_work_139 : decode cX9_work 139 = .ok (.goto 99, 3) := by decide +kernel
theorem dX9_work_142 : decode cX9_work 142 = .ok (.iload_n 3, 1) := by decide +kernel
theorem dX9_work_143 : decode cX9_work 143 = .ok (.bipush 7, 2) := by decide +kernel
theorem dX9_work_145 : decode cX9_work 145 = .ok (.if_icmp .lt 11, 3) := by decide +kernel
theorem dX9_work_148 : decode cX9_work 148 = .ok (.aload_n 0, 1) := by decide +kernel
theorem dX9_work_149 : decode cX9_work 149 = .ok (.iload_n 2, 1) := by decide +kernel
theorem dX9_work_150 : decode cX9_work 150 = .ok (.invokevirtual 164, 3) := by decide +kernel
theorem dX9_work_153 : decode cX9_work 153 = .ok (.goto 85, 3) := by decide +kernel
theorem dX9_work_156 : decode cX9_work 156 = .ok (.iload_n 3, 1) := by decide +kernel
theorem dX9_work_157 : decode cX9_work 157 = .ok (.iconst 4, 1) := by decide +kernel
theorem dX9_work_158 : decode cX9_work 158 = .ok (.if_icmp .ne 63, 3) := by decide +kernel
theorem dX9_work_161 : decode cX9_work 161 = .ok (.aload_n 0, 1) := by decide +kernel
theorem dX9_work_162 : decode cX9_work 162 = .ok (.aload_n 0, 1) := by decide +kernel
theorem dX9_work_163 : decode cX9_work 163 = .ok (.getfield 128, 3) := by decide +kernel
theorem dX9_work_166 : decode cX9_work 166 = .ok (.putfield 116, 3) := by decide +kernel
theorem dX9_work_169 : decode cX9_work 169 = .ok (.aload_n 0, 1) := by decide +kernel
theorem dX9_work_170 : decode cX9_work 170 = .ok (.aload_n 0, 1) := by decide +kernel
theorem dX9_work_171 : decode cX9_work 171 = .ok (.getfield 122, 3) := by decide +kernel
theorem dX9_work_174 : decode cX9_work 174 = .ok (.putfield 110, 3) := by decide +kernel
theorem dX9_work_177 : decode cX9_work 177 = .ok (.aload_n 0, 1) := by decide +kernel
theorem dX9_work_178 : decode cX9_work 178 = .ok (.aload_n 0, 1) := by decide +kernel
theorem dX9_work_179 : decode cX9_work 179 = .ok (.getfield 125, 3) := by decide +kernel
theorem dX9_work_182 : decode cX9_work 182 = .ok (.putfield 113, 3) := by decide +kernel
theorem dX9_work_185 : decode cX9_work 185 = .ok (.iconst 0, 1) := by decide +kernel
theorem dX9_work_186 : decode cX9_work 186 = .ok (.istore 4, 2) := by decide +kernel
theorem dX9_work_188 : decode cX9_work 188 = .ok (.iload 4, 2) := by decide +kernel
theorem dX9_work_190 : decode cX9_work 190 = .ok (.bipush 24, 2) := by decide +kernel
theorem dX9_work_192 : decode cX9_work 192 = .ok (.if_icmp .ge 23, 3) := by decide +kernel
theorem dX9_work_195 : decode cX9_work 195 = .ok (.aload_n 0, 1) := by decide +kernel
theorem dX9_work_196 : decode cX9_work 196 = .ok (.getfield 35, 3) := by decide +kernel
theorem dX9_work_199 : decode cX9_work 199 = .ok (.iload 4, 2) := by decide +kernel
theorem dX9_work_201 : decode cX9_work 201 = .ok (.aload_n 0, 1) := by decide +kernel
theorem dX9_work_202 : decode cX9_work 202 = .ok (.getfield 32, 3) := by decide +kernel
theorem dX9_work_205 : decode cX9_work 205 = .ok (.iload 4, 2) := by decide +kernel
theorem dX9_work_207 : decode cX9_work 207 = .ok (.daload, 1) := by decide +kernel
theorem dX9_work_208 : decode cX9_work 208 = .ok (.dastore, 1) := by decide +kernel
theorem dX9_work_209 : decode cX9_work 209 = .ok (.iinc 4 1, 3) := by decide +kernel
theorem dX9_work_212 : decode cX9_work 212 = .ok (.goto (-24), 3) := by decide +kernel
theorem dX9_work_215 : decode cX9_work 215 = .ok (.iinc 1 (-1), 3) := by decide +kernel
theorem dX9_work_218 : decode cX9_work 218 = .ok (.goto 8, 3) := by decide +kernel
theorem dX9_work_221 : decode cX9_work 221 = .ok (.aload_n 0, 1) := by decide +kernel
theorem dX9_work_222 : decode cX9_work 222 = .ok (.iload_n 2, 1) := by decide +kernel
theorem dX9_work_223 : decode cX9_work 223 = .ok (.invokevirtual 167, 3) := by decide +kernel
theorem dX9_work_226 : decode cX9_work 226 = .ok (.aload_n 0, 1) := by decide +kernel
theorem dX9_work_227 : decode cX9_work 227 = .ok (.getfield 119, 3) := by decide +kernel
theorem dX9_work_230 : decode cX9_work 230 = .ok (.ifCond .ne 8, 3) := by decide +kernel
theorem dX9_work_233 : decode cX9_work 233 = .ok (.aload_n 0, 1) := by decide +kernel
theorem dX9_work_234 : decode cX9_work 234 = .ok (.iload_n 1, 1) := by decide +kernel
theorem dX9_work_235 : decode cX9_work 235 = .ok (.invokevirtual 170, 3) := by decide +kernel
theorem dX9_work_238 : decode cX9_work 238 = .ok (.iinc 2 (-1), 3) := by decide +kernel
theorem dX9_work_241 : decode cX9_work 241 = .ok (.goto (-201), 3) := by decide +kernel
theorem dX9_work_244 : decode cX9_work 244 = .ok (.aload_n 0, 1) := by decide +kernel
theorem dX9_work_245 : decode cX9_work 245 = .ok (.getfield 119, 3) := by decide +kernel
theorem dX9_work_248 : decode cX9_work 248 = .ok (.ifCond .le 10, 3) := by decide +kernel
theorem dX9_work_251 : decode cX9_work 251 = .ok (.iconst 1, 1) := by decide +kernel
theorem dX9_work_252 : decode cX9_work 252 = .ok (.aload_n 0, 1) := by decide +kernel
theorem dX9_work_253 : decode cX9_work 253 = .ok (.getfield 119, 3) := by decide +kernel
theorem dX9_work_256 : decode cX9_work 256 = .ok (.iadd, 1) := by decide +kernel
theorem dX9_work_257 : decode cX9_work 257 = .ok (.ireturn, 1) := by decide +kernel
theorem dX9_work_258 : decode cX9_work 258 = .ok (.aload_n 0, 1) := by decide +kernel
theorem dX9_work_259 : decode cX9_work 259 = .ok (.getfield 106, 3) := by decide +kernel
theorem dX9_work_262 : decode cX9_work 262 = .ok (.ifCond .eq 7, 3) := by decide +kernel
theorem dX9_work_265 : decode cX9_work 265 = .ok (.iconst 4, 1) := by decide +kernel
theorem dX9_work_266 : decode cX9_work 266 = .ok (.goto 4, 3) := by decide +kernel
theorem dX9_work_269 : decode cX9_work 269 = .ok (.iconst 0, 1) := by decide +kernel
theorem dX9_work_270 : decode cX9_work 270 = .ok (.ireturn, 1) := by decide +kernel
theorem dX9_run_0 : decode cX9_run 0 = .ok (.aload_n 0, 1) := by decide +kernel
theorem dX9_run_1 : decode cX9_run 1 = .ok (.iconst 1, 1) := by decide +kernel
theorem dX9_run_2 : decode cX9_run 2 = .ok (.putfield 47, 3) := by decide +kernel
theorem dX9_run_5 : decode cX9_run 5 = .ok (.iload_n 1, 1) := by decide +kernel
theorem dX9_run_6 : decode cX9_run 6 = .ok (.iconst 0, 1) := by decide +kernel
theorem dX9_run_7 : decode cX9_run 7 = .ok (.bipush 7, 2) := by decide +kernel
theorem dX9_run_9 : decode cX9_run 9 = .ok (.invokestatic 58, 3) := by decide +kernel
theorem dX9_run_12 : decode cX9_run 12 = .ok (.ifCond .ne 5, 3) := by decide +kernel
theorem dX9_run_15 : decode cX9_run 15 = .ok (.iconst 0, 1) := by decide +kernel
theorem dX9_run_16 : decode cX9_run 16 = .ok (.ireturn, 1) := by decide +kernel
theorem dX9_run_17 : decode cX9_run 17 = .ok (.aload_n 0, 1) := by decide +kernel
theorem dX9_run_18 : decode cX9_run 18 = .ok (.invokevirtual 173, 3) := by decide +kernel
theorem dX9_run_21 : decode cX9_run 21 = .ok (.istore_n 2, 1) := by decide +kernel
theorem dX9_run_22 : decode cX9_run 22 = .ok (.aload_n 0, 1) := by decide +kernel
theorem dX9_run_23 : decode cX9_run 23 = .ok (.iload_n 2, 1) := by decide +kernel
theorem dX9_run_24 : decode cX9_run 24 = .ok (.ifCond .ne 7, 3) := by decide +kernel
theorem dX9_run_27 : decode cX9_run 27 = .ok (.iconst 0, 1) := by decide +kernel
theorem dX9_run_28 : decode cX9_run 28 = .ok (.goto 6, 3) := by decide +kernel
theorem dX9_run_31 : decode cX9_run 31 = .ok (.iconst 1, 1) := by decide +kernel
theorem dX9_run_32 : decode cX9_run 32 = .ok (.iload_n 2, 1) := by decide +kernel
theorem dX9_run_33 : decode cX9_run 33 = .ok (.iadd, 1) := by decide +kernel
theorem dX9_run_34 : decode cX9_run 34 = .ok (.putfield 47, 3) := by decide +kernel
theorem dX9_run_37 : decode cX9_run 37 = .ok (.iload_n 2, 1) := by decide +kernel
theorem dX9_run_38 : decode cX9_run 38 = .ok (.ifCond .le 5, 3) := by decide +kernel
theorem dX9_run_41 : decode cX9_run 41 = .ok (.iconst 0, 1) := by decide +kernel
theorem dX9_run_42 : decode cX9_run 42 = .ok (.ireturn, 1) := by decide +kernel
theorem dX9_run_43 : decode cX9_run 43 = .ok (.aload_n 0, 1) := by decide +kernel
theorem dX9_run_44 : decode cX9_run 44 = .ok (.getfield 13, 3) := by decide +kernel
theorem dX9_run_47 : decode cX9_run 47 = .ok (.iload_n 1, 1) := by decide +kernel
theorem dX9_run_48 : decode cX9_run 48 = .ok (.aload_n 0, 1) := by decide +kernel
theorem dX9_run_49 : decode cX9_run 49 = .ok (.getfield 128, 3) := by decide +kernel
theorem dX9_run_52 : decode cX9_run 52 = .ok (.iastore, 1) := by decide +kernel
theorem dX9_run_53 : decode cX9_run 53 = .ok (.iconst 0, 1) := by decide +kernel
theorem dX9_run_54 : decode cX9_run 54 = .ok (.istore_n 3, 1) := by decide +kernel
theorem dX9_run_55 : decode cX9_run 55 = .ok (.iload_n 3, 1) := by decide +kernel
theorem dX9_run_56 : decode cX9_run 56 = .ok (.bipush 24, 2) := by decide +kernel
theorem dX9_run_58 : decode cX9_run 58 = .ok (.if_icmp .ge 26, 3) := by decide +kernel
theorem dX9_run_61 : decode cX9_run 61 = .ok (.aload_n 0, 1) := by decide +kernel
theorem dX9_run_62 : decode cX9_run 62 = .ok (.getfield 16, 3) := by decide +kernel
theorem dX9_run_65 : decode cX9_run 65 = .ok (.bipush 24, 2) := by decide +kernel
theorem dX9_run_67 : decode cX9_run 67 = .ok (.iload_n 1, 1) := by decide +kernel
theorem dX9_run_68 : decode cX9_run 68 = .ok (.imul, 1) := by decide +kernel
theorem dX9_run_69 : decode cX9_run 69 = .ok (.iload_n 3, 1) := by decide +kernel
theorem dX9_run_70 : decode cX9_run 70 = .ok (.iadd, 1) := by decide +kernel
theorem dX9_run_71 : decode cX9_run 71 = .ok (.aload_n 0, 1) := by decide +kernel
theorem dX9_run_72 : decode cX9_run 72 = .ok (.getfield 32, 3) := by decide +kernel
theorem dX9_run_75 : decode cX9_run 75 = .ok (.iload_n 3, 1) := by decide +kernel
theorem dX9_run_76 : decode cX9_run 76 = .ok (.daload, 1) := by decide +kernel
theorem dX9_run_77 : decode cX9_run 77 = .ok (.dastore, 1) := by decide +kernel
theorem dX9_run_78 : decode cX9_run 78 = .ok (.iinc 3 1, 3) := by decide +kernel
theorem dX9_run_81 : decode cX9_run 81 = .ok (.goto (-26), 3) := by decide +kernel
theorem dX9_run_84 : decode cX9_run 84 = .ok (.aload_n 0, 1) := by decide +kernel
theorem dX9_run_85 : decode cX9_run 85 = .ok (.aload_n 0, 1) := by decide +kernel
theorem dX9_run_86 : decode cX9_run 86 = .ok (.getfield 142, 3) := by decide +kernel
theorem dX9_run_89 : decode cX9_run 89 = .ok (.aload_n 0, 1) := by decide +kernel
theorem dX9_run_90 : decode cX9_run 90 = .ok (.getfield 125, 3) := by decide +kernel
theorem dX9_run_93 : decode cX9_run 93 = .ok (.ifCond .eq 7, 3) := by decide +kernel
theorem dX9_run_96 : decode cX9_run 96 = .ok (.iconst 0, 1) := by decide +kernel
theorem dX9_run_97 : decode cX9_run 97 = .ok (.goto 4, 3) := by decide +kernel
theorem dX9_run_100 : decode cX9_run 100 = .ok (.iconst 1, 1) := by decide +kernel
theorem dX9_run_101 : decode cX9_run 101 = .ok (.iadd, 1) := by decide +kernel
theorem dX9_run_102 : decode cX9_run 102 = .ok (.putfield 177, 3) := by decide +kernel
theorem dX9_run_105 : decode cX9_run 105 = .ok (.aload_n 0, 1) := by decide +kernel
theorem dX9_run_106 : decode cX9_run 106 = .ok (.dup, 1) := by decide +kernel
theorem dX9_run_107 : decode cX9_run 107 = .ok (.getfield 180, 3) := by decide +kernel
theorem dX9_run_110 : decode cX9_run 110 = .ok (.iconst 1, 1) := by decide +kernel
theorem dX9_run_111 : decode cX9_run 111 = .ok (.iadd, 1) := by decide +kernel
theorem dX9_run_112 : decode cX9_run 112 = .ok (.putfield 180, 3) := by decide +kernel
theorem dX9_run_115 : decode cX9_run 115 = .ok (.aload_n 0, 1) := by decide +kernel
theorem dX9_run_116 : decode cX9_run 116 = .ok (.getfield 128, 3) := by decide +kernel
theorem dX9_run_119 : decode cX9_run 119 = .ok (.invokestatic 70, 3) := by decide +kernel
theorem dX9_run_122 : decode cX9_run 122 = .ok (.ireturn, 1) := by decide +kernel
theorem dX9_look_0 : decode cX9_look 0 = .ok (.aload_n 0, 1) := by decide +kernel
theorem dX9_look_1 : decode cX9_look 1 = .ok (.invokevirtual 173, 3) := by decide +kernel
theorem dX9_look_4 : decode cX9_look 4 = .ok (.istore_n 1, 1) := by decide +kernel
theorem dX9_look_5 : decode cX9_look 5 = .ok (.aload_n 0, 1) := by decide +kernel
theorem dX9_look_6 : decode cX9_look 6 = .ok (.iload_n 1, 1) := by decide +kernel
theorem dX9_look_7 : decode cX9_look 7 = .ok (.iconst 4, 1) := by decide +kernel
theorem dX9_look_8 : decode cX9_look 8 = .ok (.if_icmp .ge 7, 3) := by decide +kernel
theorem dX9_look_11 : decode cX9_look 11 = .ok (.iload_n 1, 1) := by decide +kernel
theorem dX9_look_12 : decode cX9_look 12 = .ok (.goto 4, 3) := by decide +kernel
theorem dX9_look_15 : decode cX9_look 15 = .ok (.iconst 0, 1) := by decide +kernel
theorem dX9_look_16 : decode cX9_look 16 = .ok (.putfield 47, 3) := by decide +kernel
theorem dX9_look_19 : decode cX9_look 19 = .ok (.aload_n 0, 1) := by decide +kernel
theorem dX9_look_20 : decode cX9_look 20 = .ok (.getfield 47, 3) := by decide +kernel
theorem dX9_look_23 : decode cX9_look 23 = .ok (.ifCond .le 7, 3) := by decide +kernel
theorem dX9_look_26 : decode cX9_look 26 = .ok (.iconst 0, 1) := by decide +kernel
theorem dX9_look_27 : decode cX9_look 27 = .ok (.goto 7, 3) := by decide +kernel
theorem dX9_look_30 : decode cX9_look 30 = .ok (.aload_n 0, 1) := by decide +kernel
theorem dX9_look_31 : decode cX9_look 31 = .ok (.getfield 128, 3) := by decide +kernel
theorem dX9_look_34 : decode cX9_look 34 = .ok (.ireturn, 1) := by decide +kernel
theorem dX9_made_0 : decode cX9_made 0 = .ok (.aload_n 0, 1) := by decide +kernel
theorem dX9_made_1 : decode cX9_made 1 = .ok (.iconst 0, 1) := by decide +kernel
theorem dX9_made_2 : decode cX9_made 2 = .ok (.putfield 47, 3) := by decide +kernel
theorem dX9_made_5 : decode cX9_made 5 = .ok (.aload_n 0, 1) := by decide +kernel
theorem dX9_made_6 : decode cX9_made 6 = .ok (.getfield 177, 3) := by decide +kernel
theorem dX9_made_9 : decode cX9_made 9 = .ok (.ireturn, 1) := by decide +kernel
theorem dX9_runs_0 : decode cX9_runs 0 = .ok (.aload_n 0, 1) := by decide +kernel
theorem dX9_runs_1 : decode cX9_runs 1 = .ok (.iconst 0, 1) := by decide +kernel
theorem dX9_runs_2 : decode cX9_runs 2 = .ok (.putfield 47, 3) := by decide +kernel
theorem dX9_runs_5 : decode cX9_runs 5 = .ok (.aload_n 0, 1) := by decide +kernel
theorem dX9_runs_6 : decode cX9_runs 6 = .ok (.getfield 180, 3) := by decide +kernel
theorem dX9_runs_9 : decode cX9_runs 9 = .ok (.ireturn, 1) := by decide +kernel
end
section
theorem dX0_init_0 : decode cX0_init 0 = .ok (.aload_n 0, 1) := by decide +kernel
theorem dX0_init_1 : decode cX0_init 1 = .ok (.invokespecial 3, 3) := by decide +kernel
theorem dX0_init_4 : decode cX0_init 4 = .ok (.aload_n 0, 1) := by decide +kernel
theorem dX0_init_5 : decode cX0_init 5 = .ok (.new 9, 3) := by decide +kernel
theorem dX0_init_8 : decode cX0_init 8 = .ok (.dup, 1) := by decide +kernel
theorem dX0_init_9 : decode cX0_init 9 = .ok (.invokespecial 11, 3) := by decide +kernel
theorem dX0_init_12 : decode cX0_init 12 = .ok (.putfield 12, 3) := by decide +kernel
theorem dX0_init_15 : decode cX0_init 15 = .ok (.return_, 1) := by decide +kernel
theorem dX0_clear_0 : decode cX0_clear 0 = .ok (.aload_n 0, 1) := by decide +kernel
theorem dX0_clear_1 : decode cX0_clear 1 = .ok (.iconst 0, 1) := by decide +kernel
theorem dX0_clear_2 : decode cX0_clear 2 = .ok (.putfield 18, 3) := by decide +kernel
theorem dX0_clear_5 : decode cX0_clear 5 = .ok (.aload_n 0, 1) := by decide +kernel
theorem dX0_clear_6 : decode cX0_clear 6 = .ok (.iconst 0, 1) := by decide +kernel
theorem dX0_clear_7 : decode cX0_clear 7 = .ok (.putfield 22, 3) := by decide +kernel
theorem dX0_clear_10 : decode cX0_clear 10 = .ok (.aload_n 0, 1) := by decide +kernel
theorem dX0_clear_11 : decode cX0_clear 11 = .ok (.iconst 0, 1) := by decide +kernel
theorem dX0_clear_12 : decode cX0_clear 12 = .ok (.putfield 26, 3) := by decide +kernel
theorem dX0_clear_15 : decode cX0_clear 15 = .ok (.aload_n 0, 1) := by decide +kernel
theorem dX0_clear_16 : decode cX0_clear 16 = .ok (.aconst_null, 1) := by decide +kernel
theorem dX0_clear_17 : decode cX0_clear 17 = .ok (.putfield 29, 3) := by decide +kernel
theorem dX0_clear_20 : decode cX0_clear 20 = .ok (.aload_n 0, 1) := by decide +kernel
theorem dX0_clear_21 : decode cX0_clear 21 = .ok (.aconst_null, 1) := by decide +kernel
theorem dX0_clear_22 : decode cX0_clear 22 = .ok (.putfield 33, 3) := by decide +kernel
theorem dX0_clear_25 : decode cX0_clear 25 = .ok (.return_, 1) := by decide +kernel
theorem dX0_makesArray_0 : decode cX0_makesArray 0 = .ok (.aload_n 0, 1) := by decide +kernel
theorem dX0_makesArray_1 : decode cX0_makesArray 1 = .ok (.getfield 18, 3) := by decide +kernel
theorem dX0_makesArray_4 : decode cX0_makesArray 4 = .ok (.bipush 9, 2) := by decide +kernel
theorem dX0_makesArray_6 : decode cX0_makesArray 6 = .ok (.if_icmp .eq 29, 3) := by decide +kernel
theorem dX0_makesArray_9 : decode cX0_makesArray 9 = .ok (.aload_n 0, 1) := by decide +kernel
theorem dX0_makesArray_10 : decode cX0_makesArray 10 = .ok (.getfield 18, 3) := by decide +kernel
theorem dX0_makesArray_13 : decode cX0_makesArray 13 = .ok (.iconst 5, 1) := by decide +kernel
theorem dX0_makesArray_14 : decode cX0_makesArray 14 = .ok (.if_icmp .eq 21, 3) := by decide +kernel
theorem dX0_makesArray_17 : decode cX0_makesArray 17 = .ok (.aload_n 0, 1) := by decide +kernel
theorem dX0_makesArray_18 : decode cX0_makesArray 18 = .ok (.getfield 18, 3) := by decide +kernel
theorem dX0_makesArray_21 : decode cX0_makesArray 21 = .ok (.bipush 6, 2) := by decide +kernel
theorem dX0_makesArray_23 : decode cX0_makesArray 23 = .ok (.if_icmp .eq 12, 3) := by decide +kernel
theorem dX0_makesArray_26 : decode cX0_makesArray 26 = .ok (.aload_n 0, 1) := by decide +kernel
theorem dX0_makesArray_27 : decode cX0_makesArray 27 = .ok (.getfield 18, 3) := by decide +kernel
theorem dX0_makesArray_30 : decode cX0_makesArray 30 = .ok (.bipush 7, 2) := by decide +kernel
theorem dX0_makesArray_32 : decode cX0_makesArray 32 = .ok (.if_icmp .ne 7, 3) := by decide +kernel
theorem dX0_makesArray_35 : decode cX0_makesArray 35 = .ok (.iconst 1, 1) := by decide +kernel
theorem dX0_makesArray_36 : decode cX0_makesArray 36 = .ok (.goto 4, 3) := by decide +kernel
theorem dX0_makesArray_39 : decode cX0_makesArray 39 = .ok (.iconst 0, 1) := by decide +kernel
theorem dX0_makesArray_40 : decode cX0_makesArray 40 = .ok (.ireturn, 1) := by decide +kernel
theorem dX1_init_0 : decode cX1_init 0 = .ok (.aload_n 0, 1) := by decide +kernel
theorem dX1_init_1 : decode cX1_init 1 = .ok (.invokespecial 3, 3) := by decide +kernel
theorem dX1_init_4 : decode cX1_init 4 = .ok (.aload_n 0, 1) := by decide +kernel
theorem dX1_init_5 : decode cX1_init 5 = .ok (.iconst 0, 1) := by decide +kernel
theorem dX1_init_6 : decode cX1_init 6 = .ok (.putfield 9, 3) := by decide +kernel
theorem dX1_init_9 : decode cX1_init 9 = .ok (.aload_n 0, 1) := by decide +kernel
theorem dX1_init_10 : decode cX1_init 10 = .ok (.bipush 24, 2) := by decide +kernel
theorem dX1_init_12 : decode cX1_init 12 = .ok (.newarray .double, 2) := by decide +kernel
theorem dX1_init_14 : decode cX1_init 14 = .ok (.putfield 15, 3) := by decide +kernel
theorem dX1_init_17 : decode cX1_init 17 = .ok (.return_, 1) := by decide +kernel
theorem dX1_count_0 : decode cX1_count 0 = .ok (.aload_n 0, 1) := by decide +kernel
theorem dX1_count_1 : decode cX1_count 1 = .ok (.getfield 9, 3) := by decide +kernel
theorem dX1_count_4 : decode cX1_count 4 = .ok (.invokestatic 19, 3) := by decide +kernel
theorem dX1_count_7 : decode cX1_count 7 = .ok (.ireturn, 1) := by decide +kernel
theorem dX1_hasElement_0 : decode cX1_hasElement 0 = .ok (.iload_n 1, 1) := by decide +kernel
theorem dX1_hasElement_1 : decode cX1_hasElement 1 = .ok (.ifCond .lt 15, 3) := by decide +kernel
theorem dX1_hasElement_4 : decode cX1_hasElement 4 = .ok (.iload_n 1, 1) := by decide +kernel
theorem dX1_hasElement_5 : decode cX1_hasElement 5 = .ok (.aload_n 0, 1) := by decide +kernel
theorem dX1_hasElement_6 : decode cX1_hasElement 6 = .ok (.invokevirtual 24, 3) := by decide +kernel
theorem dX1_hasElement_9 : decode cX1_hasElement 9 = .ok (.if_icmp .ge 7, 3) := by decide +kernel
theorem dX1_hasElement_12 : decode cX1_hasElement 12 = .ok (.iconst 1, 1) := by decide +kernel
theorem dX1_hasElement_13 : decode cX1_hasElement 13 = .ok (.goto 4, 3) := by decide +kernel
theorem dX1_hasElement_16 : decode cX1_hasElement 16 = .ok (.iconst 0, 1) := by decide +kernel
theorem dX1_hasElement_17 : decode cX1_hasElement 17 = .ok (.ireturn, 1) := by decide +kernel
theorem dX1_becomeZeros_0 : decode cX1_becomeZeros 0 = .ok (.aload_n 0, 1) := by decide +kernel
theorem dX1_becomeZeros_1 : decode cX1_becomeZeros 1 = .ok (.iload_n 1, 1) := by decide +kernel
theorem dX1_becomeZeros_2 : decode cX1_becomeZeros 2 = .ok (.putfield 9, 3) := by decide +kernel
theorem dX1_becomeZeros_5 : decode cX1_becomeZeros 5 = .ok (.iconst 0, 1) := by decide +kernel
theorem dX1_becomeZeros_6 : decode cX1_becomeZeros 6 = .ok (.istore_n 2, 1) := by decide +kernel
theorem dX1_becomeZeros_7 : decode cX1_becomeZeros 7 = .ok (.iload_n 2, 1) := by decide +kernel
theorem dX1_becomeZeros_8 : decode cX1_becomeZeros 8 = .ok (.bipush 24, 2) := by decide +kernel
theorem dX1_becomeZeros_10 : decode cX1_becomeZeros 10 = .ok (.if_icmp .ge 16, 3) := by decide +kernel
theorem dX1_becomeZeros_13 : decode cX1_becomeZeros 13 = .ok (.aload_n 0, 1) := by decide +kernel
theorem dX1_becomeZeros_14 : decode cX1_becomeZeros 14 = .ok (.getfield 15, 3) := by decide +kernel
theorem dX1_becomeZeros_17 : decode cX1_becomeZeros 17 = .ok (.iload_n 2, 1) := by decide +kernel
theorem dX1_becomeZeros_18 : decode cX1_becomeZeros 18 = .ok (.dconst 0, 1) := by decide +kernel
theorem dX1_becomeZeros_19 : decode cX1_becomeZeros 19 = .ok (.dastore, 1) := by decide +kernel
theorem dX1_becomeZeros_20 : decode cX1_becomeZeros 20 = .ok (.iinc 2 1, 3) := by decide +kernel
theorem dX1_becomeZeros_23 : decode cX1_becomeZeros 23 = .ok (.goto (-16), 3) := by decide +kernel
theorem dX1_becomeZeros_26 : decode cX1_becomeZeros 26 = .ok (.return_, 1) := by decide +kernel
theorem dX1_becomeCopy_0 : decode cX1_becomeCopy 0 = .ok (.aload_n 0, 1) := by decide +kernel
theorem dX1_becomeCopy_1 : decode cX1_becomeCopy 1 = .ok (.aload_n 1, 1) := by decide +kernel
theorem dX1_becomeCopy_2 : decode cX1_becomeCopy 2 = .ok (.getfield 9, 3) := by decide +kernel
theorem dX1_becomeCopy_5 : decode cX1_becomeCopy 5 = .ok (.putfield 9, 3) := by decide +kernel
theorem dX1_becomeCopy_8 : decode cX1_becomeCopy 8 = .ok (.iconst 0, 1) := by decide +kernel
theorem dX1_becomeCopy_9 : decode cX1_becomeCopy 9 = .ok (.istore_n 2, 1) := by decide +kernel
theorem dX1_becomeCopy_10 : decode cX1_becomeCopy 10 = .ok (.iload_n 2, 1) := by decide +kernel
theorem dX1_becomeCopy_11 : decode cX1_becomeCopy 11 = .ok (.bipush 24, 2) := by decide +kernel
theorem dX1_becomeCopy_13 : decode cX1_becomeCopy 13 = .ok (.if_icmp .ge 21, 3) := by decide +kernel
theorem dX1_becomeCopy_16 : decode cX1_becomeCopy 16 = .ok (.aload_n 0, 1) := by decide +kernel
theorem dX1_becomeCopy_17 : decode cX1_becomeCopy 17 = .ok (.getfield 15, 3) := by decide +kernel
theorem dX1_becomeCopy_20 : decode cX1_becomeCopy 20 = .ok (.iload_n 2, 1) := by decide +kernel
theorem dX1_becomeCopy_21 : decode cX1_becomeCopy 21 = .ok (.aload_n 1, 1) := by decide +kernel
theorem dX1_becomeCopy_22 : decode cX1_becomeCopy 22 = .ok (.getfield 15, 3) := by decide +kernel
theorem dX1_becomeCopy_25 : decode cX1_becomeCopy 25 = .ok (.iload_n 2, 1) := by decide +kernel
theorem dX1_becomeCopy_26 : decode cX1_becomeCopy 26 = .ok (.daload, 1) := by decide +kernel
theorem dX1_becomeCopy_27 : decode cX1_becomeCopy 27 = .ok (.dastore, 1) := by decide +kernel
theorem dX1_becomeCopy_28 : decode cX1_becomeCopy 28 = .ok (.iinc 2 1, 3) := by decide +kernel
theorem dX1_becomeCopy_31 : decode cX1_becomeCopy 31 = .ok (.goto (-21), 3) := by decide +kernel
theorem dX1_becomeCopy_34 : decode cX1_becomeCopy 34 = .ok (.return_, 1) := by decide +kernel
theorem dX2_readWhole_0 : decode cX2_readWhole 0 = .ok (.aload_n 0, 1) := by decide +kernel
theorem dX2_readWhole_1 : decode cX2_readWhole 1 = .ok (.invokevirtual 9, 3) := by decide +kernel
theorem dX2_readWhole_4 : decode cX2_readWhole 4 = .ok (.aload_n 1, 1) := by decide +kernel
theorem dX2_readWhole_5 : decode cX2_readWhole 5 = .ok (.invokevirtual 14, 3) := by decide +kernel
theorem dX2_readWhole_8 : decode cX2_readWhole 8 = .ok (.aload_n 0, 1) := by decide +kernel
theorem dX2_readWhole_9 : decode cX2_readWhole 9 = .ok (.aload_n 1, 1) := by decide +kernel
theorem dX2_readWhole_10 : decode cX2_readWhole 10 = .ok (.iconst 0, 1) := by decide +kernel
theorem dX2_readWhole_11 : decode cX2_readWhole 11 = .ok (.invokestatic 19, 3) := by decide +kernel
theorem dX2_readWhole_14 : decode cX2_readWhole 14 = .ok (.astore_n 2, 1) := by decide +kernel
theorem dX2_readWhole_15 : decode cX2_readWhole 15 = .ok (.aload_n 0, 1) := by decide +kernel
theorem dX2_readWhole_16 : decode cX2_readWhole 16 = .ok (.invokevirtual 25, 3) := by decide +kernel
theorem dX2_readWhole_19 : decode cX2_readWhole 19 = .ok (.ifCond .eq 13, 3) := by decide +kernel
theorem dX2_readWhole_22 : decode cX2_readWhole 22 = .ok (.new 29, 3) := by decide +kernel
theorem dX2_readWhole_25 : decode cX2_readWhole 25 = .ok (.dup, 1) := by decide +kernel
theorem dX2_readWhole_26 : decode cX2_readWhole 26 = .ok (.ldc 31, 2) := by decide +kernel
theorem dX2_readWhole_28 : decode cX2_readWhole 28 = .ok (.invokespecial 33, 3) := by decide +kernel
theorem dX2_readWhole_31 : decode cX2_readWhole 31 = .ok (.athrow, 1) := by decide +kernel
theorem dX2_readWhole_32 : decode cX2_readWhole 32 = .ok (.aload_n 2, 1) := by decide +kernel
theorem dX2_readWhole_33 : decode cX2_readWhole 33 = .ok (.areturn, 1) := by decide +kernel
theorem dX2_readExpression_0 : decode cX2_readExpression 0 = .ok (.iload_n 2, 1) := by decide +kernel
theorem dX2_readExpression_1 : decode cX2_readExpression 1 = .ok (.bipush 40, 2) := by decide +kernel
theorem dX2_readExpression_3 : decode cX2_readExpression 3 = .ok (.if_icmp .le 13, 3) := by decide +kernel
theorem dX2_readExpression_6 : decode cX2_readExpression 6 = .ok (.new 29, 3) := by decide +kernel
theorem dX2_readExpression_9 : decode cX2_readExpression 9 = .ok (.dup, 1) := by decide +kernel
theorem dX2_readExpression_10 : decode cX2_readExpression 10 = .ok (.ldc 36, 2) := by decide +kernel
theorem dX2_readExpression_12 : decode cX2_readExpression 12 = .ok (.invokespecial 33, 3) := by decide +kernel
theorem dX2_readExpression_15 : decode cX2_readExpression 15 = .ok (.athrow, 1) := by decide +kernel
theorem dX2_readExpression_16 : decode cX2_readExpression 16 = .ok (.aload_n 1, 1) := by decide +kernel
theorem dX2_readExpression_17 : decode cX2_readExpression 17 = .ok (.invokevirtual 38, 3) := by decide +kernel
theorem dX2_readExpression_20 : decode cX2_readExpression 20 = .ok (.astore_n 3, 1) := by decide +kernel
theorem dX2_readExpression_21 : decode cX2_readExpression 21 = .ok (.aload_n 0, 1) := by decide +kernel
theorem dX2_readExpression_22 : decode cX2_readExpression 22 = .ok (.aload_n 3, 1) := by decide +kernel
theorem dX2_readExpression_23 : decode cX2_readExpression 23 = .ok (.invokestatic 42, 3) := by decide +kernel
theorem dX2_readExpression_26 : decode cX2_readExpression 26 = .ok (.ifCond .ne 28, 3) := by decide +kernel
theorem dX2_readExpression_29 : decode cX2_readExpression 29 = .ok (.aload_n 0, 1) := by decide +kernel
theorem dX2_readExpression_30 : decode cX2_readExpression 30 = .ok (.aload_n 1, 1) := by decide +kernel
theorem dX2_readExpression_31 : decode cX2_readExpression 31 = .ok (.iload_n 2, 1) := by decide +kernel
theorem dX2_readExpression_32 : decode cX2_readExpression 32 = .ok (.invokestatic 46, 3) := by decide +kernel
theorem dX2_readExpression_35 : decode cX2_readExpression 35 = .ok (.astore 4, 2) := by decide +kernel
theorem dX2_readExpression_37 : decode cX2_readExpression 37 = .ok (.aload_n 0, 1) := by decide +kernel
theorem dX2_readExpression_38 : decode cX2_readExpression 38 = .ok (.aload_n 3, 1) := by decide +kernel
theorem dX2_readExpression_39 : decode cX2_readExpression 39 = .ok (.invokestatic 49, 3) := by decide +kernel
theorem dX2_readExpression_42 : decode cX2_readExpression 42 = .ok (.ifCond .ne 6, 3) := by decide +kernel
theorem dX2_readExpression_45 : decode cX2_readExpression 45 = .ok (.aload 4, 2) := by decide +kernel
theorem dX2_readExpression_47 : decode cX2_readExpression 47 = .ok (.areturn, 1) := by decide +kernel
theorem dX2_readExpression_48 : decode cX2_readExpression 48 = .ok (.aload_n 3, 1) := by decide +kernel
theorem dX2_readExpression_49 : decode cX2_readExpression 49 = .ok (.aload 4, 2) := by decide +kernel
theorem dX2_readExpression_51 : decode cX2_readExpression 51 = .ok (.putfield 52, 3) := by decide +kernel
theorem dX2_readExpression_54 : decode cX2_readExpression 54 = .ok (.aload_n 3, 1) := by decide +kernel
theorem dX2_readExpression_55 : decode cX2_readExpression 55 = .ok (.aload_n 0, 1) := by decide +kernel
theorem dX2_readExpression_56 : decode cX2_readExpression 56 = .ok (.aload_n 1, 1) := by decide +kernel
theorem dX2_readExpression_57 : decode cX2_readExpression 57 = .ok (.iload_n 2, 1) := by decide +kernel
theorem dX2_readExpression_58 : decode cX2_readExpression 58 = .ok (.iconst 1, 1) := by decide +kernel
theorem dX2_readExpression_59 : decode cX2_readExpression 59 = .ok (.iadd, 1) := by decide +kernel
theorem dX2_readExpression_60 : decode cX2_readExpression 60 = .ok (.invokestatic 19, 3) := by decide +kernel
theorem dX2_readExpression_63 : decode cX2_readExpression 63 = .ok (.putfield 58, 3) := by decide +kernel
theorem dX2_readExpression_66 : decode cX2_readExpression 66 = .ok (.aload_n 3, 1) := by decide +kernel
theorem dX2_readExpression_67 : decode cX2_readExpression 67 = .ok (.areturn, 1) := by decide +kernel
theorem dX2_readPart_0 : decode cX2_readPart 0 = .ok (.aload_n 0, 1) := by decide +kernel
theorem dX2_readPart_1 : decode cX2_readPart 1 = .ok (.bipush 40, 2) := by decide +kernel
theorem dX2_readPart_3 : decode cX2_readPart 3 = .ok (.invokevirtual 61, 3) := by decide +kernel
theorem dX2_readPart_6 : decode cX2_readPart 6 = .ok (.ifCond .eq 33, 3) := by decide +kernel
theorem dX2_readPart_9 : decode cX2_readPart 9 = .ok (.aload_n 0, 1) := by decide +kernel
theorem dX2_readPart_10 : decode cX2_readPart 10 = .ok (.aload_n 1, 1) := by decide +kernel
theorem dX2_readPart_11 : decode cX2_readPart 11 = .ok (.iload_n 2, 1) := by decide +kernel
theorem dX2_readPart_12 : decode cX2_readPart 12 = .ok (.iconst 1, 1) := by decide +kernel
theorem dX2_readPart_13 : decode cX2_readPart 13 = .ok (.iadd, 1) := by decide +kernel
theorem dX2_readPart_14 : decode cX2_readPart 14 = .ok (.invokestatic 19, 3) := by decide +kernel
theorem dX2_readPart_17 : decode cX2_readPart 17 = .ok (.astore_n 3, 1) := by decide +kernel
theorem dX2_readPart_18 : decode cX2_readPart 18 = .ok (.aload_n 0, 1) := by decide +kernel
theorem dX2_readPart_19 : decode cX2_readPart 19 = .ok (.bipush 41, 2) := by decide +kernel
theorem dX2_readPart_21 : decode cX2_readPart 21 = .ok (.invokevirtual 61, 3) := by decide +kernel
theorem dX2_readPart_24 : decode cX2_readPart 24 = .ok (.ifCond .ne 13, 3) := by decide +kernel
theorem dX2_readPart_27 : decode cX2_readPart 27 = .ok (.new 29, 3) := by decide +kernel
theorem dX2_readPart_30 : decode cX2_readPart 30 = .ok (.dup, 1) := by decide +kernel
theorem dX2_readPart_31 : decode cX2_readPart 31 = .ok (.ldc 65, 2) := by decide +kernel
theorem dX2_readPart_33 : decode cX2_readPart 33 = .ok (.invokespecial 33, 3) := by decide +kernel
theorem dX2_readPart_36 : decode cX2_readPart 36 = .ok (.athrow, 1) := by decide +kernel
theorem dX2_readPart_37 : decode cX2_readPart 37 = .ok (.aload_n 3, 1) := by decide +kernel
theorem dX2_readPart_38 : decode cX2_readPart 38 = .ok (.areturn, 1) := by decide +kernel
theorem dX2_readPart_39 : decode cX2_readPart 39 = .ok (.aload_n 1, 1) := by decide +kernel
theorem dX2_readPart_40 : decode cX2_readPart 40 = .ok (.invokevirtual 38, 3) := by decide +kernel
theorem dX2_readPart_43 : decode cX2_readPart 43 = .ok (.astore_n 3, 1) := by decide +kernel
theorem dX2_readPart_44 : decode cX2_readPart 44 = .ok (.aload_n 0, 1) := by decide +kernel
theorem dX2_readPart_45 : decode cX2_readPart 45 = .ok (.invokevirtual 25, 3) := by decide +kernel
theorem dX2_readPart_48 : decode cX2_readPart 48 = .ok (.bipush 97, 2) := by decide +kernel
theorem dX2_readPart_50 : decode cX2_readPart 50 = .ok (.isub, 1) := by decide +kernel
theorem dX2_readPart_51 : decode cX2_readPart 51 = .ok (.invokestatic 67, 3) := by decide +kernel
theorem dX2_readPart_54 : decode cX2_readPart 54 = .ok (.ifCond .eq 26, 3) := by decide +kernel
theorem dX2_readPart_57 : decode cX2_readPart 57 = .ok (.aload_n 3, 1) := by decide +kernel
theorem dX2_readPart_58 : decode cX2_readPart 58 = .ok (.iconst 1, 1) := by decide +kernel
theorem dX2_readPart_59 : decode cX2_readPart 59 = .ok (.putfield 71, 3) := by decide +kernel
theorem dX2_readPart_62 : decode cX2_readPart 62 = .ok (.aload_n 3, 1) := by decide +kernel
theorem dX2_readPart_63 : decode cX2_readPart 63 = .ok (.aload_n 0, 1) := by decide +kernel
theorem dX2_readPart_64 : decode cX2_readPart 64 = .ok (.invokevirtual 25, 3) := by decide +kernel
theorem dX2_readPart_67 : decode cX2_readPart 67 = .ok (.bipush 97, 2) := by decide +kernel
theorem dX2_readPart_69 : decode cX2_readPart 69 = .ok (.isub, 1) := by decide +kernel
theorem dX2_readPart_70 : decode cX2_readPart 70 = .ok (.putfield 75, 3) := by decide +kernel
theorem dX2_readPart_73 : decode cX2_readPart 73 = .ok (.aload_n 0, 1) := by decide +kernel
theorem dX2_readPart_74 : decode cX2_readPart 74 = .ok (.invokevirtual 78, 3) := by decide +kernel
theorem dX2_readPart_77 : decode cX2_readPart 77 = .ok (.goto 41, 3) := by decide +kernel
theorem dX2_readPart_80 : decode cX2_readPart 80 = .ok (.aload_n 0, 1) := by decide +kernel
theorem dX2_readPart_81 : decode cX2_readPart 81 = .ok (.bipush 105, 2) := by decide +kernel
theorem dX2_readPart_83 : decode cX2_readPart 83 = .ok (.invokevirtual 61, 3) := by decide +kernel
theorem dX2_readPart_86 : decode cX2_readPart 86 = .ok (.ifCond .eq 19, 3) := by decide +kernel
theorem dX2_readPart_89 : decode cX2_readPart 89 = .ok (.aload_n 3, 1) := by decide +kernel
theorem dX2_readPart_90 : decode cX2_readPart 90 = .ok (.iconst 3, 1) := by decide +kernel
theorem dX2_readPart_91 : decode cX2_readPart 91 = .ok (.putfield 71, 3) := by decide +kernel
theorem dX2_readPart_94 : decode cX2_readPart 94 = .ok (.aload_n 3, 1) := by decide +kernel
theorem dX2_readPart_95 : decode cX2_readPart 95 = .ok (.aload_n 0, 1) := by decide +kernel
theorem dX2_readPart_96 : decode cX2_readPart 96 = .ok (.invokestatic 81, 3) := by decide +kernel
theorem dX2_readPart_99 : decode cX2_readPart 99 = .ok (.putfield 75, 3) := by decide +kernel
theorem dX2_readPart_102 : decode cX2_readPart 102 = .ok (.goto 16, 3) := by decide +kernel
theorem dX2_readPart_105 : decode cX2_readPart 105 = .ok (.aload_n 3, 1) := by decide +kernel
theorem dX2_readPart_106 : decode cX2_readPart 106 = .ok (.iconst 2, 1) := by decide +kernel
theorem dX2_readPart_107 : decode cX2_readPart 107 = .ok (.putfield 71, 3) := by decide +kernel
theorem dX2_readPart_110 : decode cX2_readPart 110 = .ok (.aload_n 0, 1) := by decide +kernel
theorem dX2_readPart_111 : decode cX2_readPart 111 = .ok (.aload_n 3, 1) := by decide +kernel
theorem dX2_readPart_112 : decode cX2_readPart 112 = .ok (.getfield 85, 3) := by decide +kernel
theorem dX2_readPart_115 : decode cX2_readPart 115 = .ok (.invokestatic 89, 3) := by decide +kernel
theorem dX2_readPart_118 : decode cX2_readPart 118 = .ok (.aload_n 3, 1) := by decide +kernel
theorem dX2_readPart_119 : decode cX2_readPart 119 = .ok (.areturn, 1) := by decide +kernel
theorem dX2_readConstant_0 : decode cX2_readConstant 0 = .ok (.aload_n 1, 1) := by decide +kernel
theorem dX2_readConstant_1 : decode cX2_readConstant 1 = .ok (.getfield 93, 3) := by decide +kernel
theorem dX2_readConstant_4 : decode cX2_readConstant 4 = .ok (.iconst 0, 1) := by decide +kernel
theorem dX2_readConstant_5 : decode cX2_readConstant 5 = .ok (.aload_n 0, 1) := by decide +kernel
theorem dX2_readConstant_6 : decode cX2_readConstant 6 = .ok (.invokestatic 81, 3) := by decide +kernel
theorem dX2_readConstant_9 : decode cX2_readConstant 9 = .ok (.i2d, 1) := by decide +kernel
theorem dX2_readConstant_10 : decode cX2_readConstant 10 = .ok (.dastore, 1) := by decide +kernel
theorem dX2_readConstant_11 : decode cX2_readConstant 11 = .ok (.iconst 1, 1) := by decide +kernel
theorem dX2_readConstant_12 : decode cX2_readConstant 12 = .ok (.istore_n 2, 1) := by decide +kernel
theorem dX2_readConstant_13 : decode cX2_readConstant 13 = .ok (.iload_n 2, 1) := by decide +kernel
theorem dX2_readConstant_14 : decode cX2_readConstant 14 = .ok (.bipush 24, 2) := by decide +kernel
theorem dX2_readConstant_16 : decode cX2_readConstant 16 = .ok (.if_icmp .ge 29, 3) := by decide +kernel
theorem dX2_readConstant_19 : decode cX2_readConstant 19 = .ok (.aload_n 0, 1) := by decide +kernel
theorem dX2_readConstant_20 : decode cX2_readConstant 20 = .ok (.bipush 32, 2) := by decide +kernel
theorem dX2_readConstant_22 : decode cX2_readConstant 22 = .ok (.invokevirtual 61, 3) := by decide +kernel
theorem dX2_readConstant_25 : decode cX2_readConstant 25 = .ok (.ifCond .eq 20, 3) := by decide +kernel
theorem dX2_readConstant_28 : decode cX2_readConstant 28 = .ok (.aload_n 1, 1) := by decide +kernel
theorem dX2_readConstant_29 : decode cX2_readConstant 29 = .ok (.getfield 93, 3) := by decide +kernel
theorem dX2_readConstant_32 : decode cX2_readConstant 32 = .ok (.iload_n 2, 1) := by decide +kernel
theorem dX2_readConstant_33 : decode cX2_readConstant 33 = .ok (.aload_n 0, 1) := by decide +kernel
theorem dX2_readConstant_34 : decode cX2_readConstant 34 = .ok (.invokestatic 81, 3) := by decide +kernel
theorem dX2_readConstant_37 : decode cX2_readConstant 37 = .ok (.i2d, 1) := by decide +kernel
theorem dX2_readConstant_38 : decode cX2_readConstant 38 = .ok (.dastore, 1) := by decide +kernel
theorem dX2_readConstant_39 : decode cX2_readConstant 39 = .ok (.iinc 2 1, 3) := by decide +kernel
theorem dX2_readConstant_42 : decode cX2_readConstant 42 = .ok (.goto (-29), 3) := by decide +kernel
theorem dX2_readConstant_45 : decode cX2_readConstant 45 = .ok (.aload_n 1, 1) := by decide +kernel
theorem dX2_readConstant_46 : decode cX2_readConstant 46 = .ok (.iload_n 2, 1) := by decide +kernel
theorem dX2_readConstant_47 : decode cX2_readConstant 47 = .ok (.iconst 1, 1) := by decide +kernel
theorem dX2_readConstant_48 : decode cX2_readConstant 48 = .ok (.if_icmp .ne 7, 3) := by decide +kernel
theorem dX2_readConstant_51 : decode cX2_readConstant 51 = .ok (.iconst 0, 1) := by decide +kernel
theorem dX2_readConstant_52 : decode cX2_readConstant 52 = .ok (.goto 4, 3) := by decide +kernel
theorem dX2_readConstant_55 : decode cX2_readConstant 55 = .ok (.iload_n 2, 1) := by decide +kernel
theorem dX2_readConstant_56 : decode cX2_readConstant 56 = .ok (.putfield 99, 3) := by decide +kernel
theorem dX2_readConstant_59 : decode cX2_readConstant 59 = .ok (.return_, 1) := by decide +kernel
theorem dX2_readNumber_0 : decode cX2_readNumber 0 = .ok (.iconst 0, 1) := by decide +kernel
theorem dX2_readNumber_1 : decode cX2_readNumber 1 = .ok (.istore_n 1, 1) := by decide +kernel
theorem dX2_readNumber_2 : decode cX2_readNumber 2 = .ok (.iconst 0, 1) := by decide +kernel
theorem dX2_readNumber_3 : decode cX2_readNumber 3 = .ok (.istore_n 2, 1) := by decide +kernel
theorem dX2_readNumber_4 : decode cX2_readNumber 4 = .ok (.iload_n 2, 1) := by decide +kernel
theorem dX2_readNumber_5 : decode cX2_readNumber 5 = .ok (.iconst 4, 1) := by decide +kernel
theorem dX2_readNumber_6 : decode cX2_readNumber 6 = .ok (.if_icmp .ge 36, 3) := by decide +kernel
theorem dX2_readNumber_9 : decode cX2_readNumber 9 = .ok (.aload_n 0, 1) := by decide +kernel
theorem dX2_readNumber_10 : decode cX2_readNumber 10 = .ok (.invokevirtual 25, 3) := by decide +kernel
theorem dX2_readNumber_13 : decode cX2_readNumber 13 = .ok (.invokestatic 102, 3) := by decide +kernel
theorem dX2_readNumber_16 : decode cX2_readNumber 16 = .ok (.ifCond .eq 26, 3) := by decide +kernel
theorem dX2_readNumber_19 : decode cX2_readNumber 19 = .ok (.iload_n 1, 1) := by decide +kernel
theorem dX2_readNumber_20 : decode cX2_readNumber 20 = .ok (.bipush 10, 2) := by decide +kernel
theorem dX2_readNumber_22 : decode cX2_readNumber 22 = .ok (.imul, 1) := by decide +kernel
theorem dX2_readNumber_23 : decode cX2_readNumber 23 = .ok (.aload_n 0, 1) := by decide +kernel
theorem dX2_readNumber_24 : decode cX2_readNumber 24 = .ok (.invokevirtual 25, 3) := by decide +kernel
theorem dX2_readNumber_27 : decode cX2_readNumber 27 = .ok (.bipush 48, 2) := by decide +kernel
theorem dX2_readNumber_29 : decode cX2_readNumber 29 = .ok (.isub, 1) := by decide +kernel
theorem dX2_readNumber_30 : decode cX2_readNumber 30 = .ok (.iadd, 1) := by decide +kernel
theorem dX2_readNumber_31 : decode cX2_readNumber 31 = .ok (.istore_n 1, 1) := by decide +kernel
theorem dX2_readNumber_32 : decode cX2_readNumber 32 = .ok (.iinc 2 1, 3) := by decide +kernel
theorem dX2_readNumber_35 : decode cX2_readNumber 35 = .ok (.aload_n 0, 1) := by decide +kernel
theorem dX2_readNumber_36 : decode cX2_readNumber 36 = .ok (.invokevirtual 78, 3) := by decide +kernel
theorem dX2_readNumber_39 : decode cX2_readNumber 39 = .ok (.goto (-35), 3) := by decide +kernel
theorem dX2_readNumber_42 : decode cX2_readNumber 42 = .ok (.iload_n 2, 1) := by decide +kernel
theorem dX2_readNumber_43 : decode cX2_readNumber 43 = .ok (.ifCond .ne 13, 3) := by decide +kernel
theorem dX2_readNumber_46 : decode cX2_readNumber 46 = .ok (.new 29, 3) := by decide +kernel
theorem dX2_readNumber_49 : decode cX2_readNumber 49 = .ok (.dup, 1) := by decide +kernel
theorem dX2_readNumber_50 : decode cX2_readNumber 50 = .ok (.ldc 105, 2) := by decide +kernel
theorem dX2_readNumber_52 : decode cX2_readNumber 52 = .ok (.invokespecial 33, 3) := by decide +kernel
theorem dX2_readNumber_55 : decode cX2_readNumber 55 = .ok (.athrow, 1) := by decide +kernel
theorem dX2_readNumber_56 : decode cX2_readNumber 56 = .ok (.iload_n 1, 1) := by decide +kernel
theorem dX2_readNumber_57 : decode cX2_readNumber 57 = .ok (.ireturn, 1) := by decide +kernel
theorem dX2_isDigit_0 : decode cX2_isDigit 0 = .ok (.iload_n 0, 1) := by decide +kernel
theorem dX2_isDigit_1 : decode cX2_isDigit 1 = .ok (.bipush 48, 2) := by decide +kernel
theorem dX2_isDigit_3 : decode cX2_isDigit 3 = .ok (.if_icmp .lt 13, 3) := by decide +kernel
theorem dX2_isDigit_6 : decode cX2_isDigit 6 = .ok (.iload_n 0, 1) := by decide +kernel
theorem dX2_isDigit_7 : decode cX2_isDigit 7 = .ok (.bipush 57, 2) := by decide +kernel
theorem dX2_isDigit_9 : decode cX2_isDigit 9 = .ok (.if_icmp .gt 7, 3) := by decide +kernel
theorem dX2_isDigit_12 : decode cX2_isDigit 12 = .ok (.iconst 1, 1) := by decide +kernel
theorem dX2_isDigit_13 : decode cX2_isDigit 13 = .ok (.goto 4, 3) := by decide +kernel
theorem dX2_isDigit_16 : decode cX2_isDigit 16 = .ok (.iconst 0, 1) := by decide +kernel
theorem dX2_isDigit_17 : decode cX2_isDigit 17 = .ok (.ireturn, 1) := by decide +kernel
theorem dX2_readFront_0 : decode cX2_readFront 0 = .ok (.aload_n 1, 1) := by decide +kernel
theorem dX2_readFront_1 : decode cX2_readFront 1 = .ok (.aload_n 0, 1) := by decide +kernel
theorem dX2_readFront_2 : decode cX2_readFront 2 = .ok (.invokevirtual 25, 3) := by decide +kernel
theorem dX2_readFront_5 : decode cX2_readFront 5 = .ok (.invokestatic 107, 3) := by decide +kernel
theorem dX2_readFront_8 : decode cX2_readFront 8 = .ok (.putfield 71, 3) := by decide +kernel
theorem dX2_readFront_11 : decode cX2_readFront 11 = .ok (.aload_n 1, 1) := by decide +kernel
theorem dX2_readFront_12 : decode cX2_readFront 12 = .ok (.getfield 71, 3) := by decide +kernel
theorem dX2_readFront_15 : decode cX2_readFront 15 = .ok (.ifCond .ne 5, 3) := by decide +kernel
theorem dX2_readFront_18 : decode cX2_readFront 18 = .ok (.iconst 0, 1) := by decide +kernel
theorem dX2_readFront_19 : decode cX2_readFront 19 = .ok (.ireturn, 1) := by decide +kernel
theorem dX2_readFront_20 : decode cX2_readFront 20 = .ok (.aload_n 0, 1) := by decide +kernel
theorem dX2_readFront_21 : decode cX2_readFront 21 = .ok (.invokevirtual 78, 3) := by decide +kernel
theorem dX2_readFront_24 : decode cX2_readFront 24 = .ok (.aload_n 1, 1) := by decide +kernel
theorem dX2_readFront_25 : decode cX2_readFront 25 = .ok (.getfield 71, 3) := by decide +kernel
theorem dX2_readFront_28 : decode cX2_readFront 28 = .ok (.bipush 6, 2) := by decide +kernel
theorem dX2_readFront_30 : decode cX2_readFront 30 = .ok (.if_icmp .eq 12, 3) := by decide +kernel
theorem dX2_readFront_33 : decode cX2_readFront 33 = .ok (.aload_n 1, 1) := by decide +kernel
theorem dX2_readFront_34 : decode cX2_readFront 34 = .ok (.getfield 71, 3) := by decide +kernel
theorem dX2_readFront_37 : decode cX2_readFront 37 = .ok (.bipush 7, 2) := by decide +kernel
theorem dX2_readFront_39 : decode cX2_readFront 39 = .ok (.if_icmp .ne 11, 3) := by decide +kernel
theorem dX2_readFront_42 : decode cX2_readFront 42 = .ok (.aload_n 1, 1) := by decide +kernel
theorem dX2_readFront_43 : decode cX2_readFront 43 = .ok (.aload_n 0, 1) := by decide +kernel
theorem dX2_readFront_44 : decode cX2_readFront 44 = .ok (.invokestatic 111, 3) := by decide +kernel
theorem dX2_readFront_47 : decode cX2_readFront 47 = .ok (.putfield 115, 3) := by decide +kernel
theorem dX2_readFront_50 : decode cX2_readFront 50 = .ok (.iconst 1, 1) := by decide +kernel
theorem dX2_readFront_51 : decode cX2_readFront 51 = .ok (.ireturn, 1) := by decide +kernel
theorem dX2_kindOfFront_0 : decode cX2_kindOfFront 0 = .ok (.iload_n 0, 1) := by decide +kernel
theorem dX2_kindOfFront_1 : decode cX2_kindOfFront 1 = .ok (.lookupswitch 53 #[(45, 43), (47, 47), (92, 50), (126, 45)], 43) := by decide +kernel
theorem dX2_kindOfFront_44 : decode cX2_kindOfFront 44 = .ok (.iconst 4, 1) := by decide +kernel
theorem dX2_kindOfFront_45 : decode cX2_kindOfFront 45 = .ok (.ireturn, 1) := by decide +kernel
theorem dX2_kindOfFront_46 : decode cX2_kindOfFront 46 = .ok (.iconst 5, 1) := by decide +kernel
theorem dX2_kindOfFront_47 : decode cX2_kindOfFront 47 = .ok (.ireturn, 1) := by decide +kernel
theorem dX2_kindOfFront_48 : decode cX2_kindOfFront 48 = .ok (.bipush 6, 2) := by decide +kernel
theorem dX2_kindOfFront_50 : decode cX2_kindOfFront 50 = .ok (.ireturn, 1) := by decide +kernel
theorem dX2_kindOfFront_51 : decode cX2_kindOfFront 51 = .ok (.bipush 7, 2) := by decide +kernel
theorem dX2_kindOfFront_53 : decode cX2_kindOfFront 53 = .ok (.ireturn, 1) := by decide +kernel
theorem dX2_kindOfFront_54 : decode cX2_kindOfFront 54 = .ok (.iconst 0, 1) := by decide +kernel
theorem dX2_kindOfFront_55 : decode cX2_kindOfFront 55 = .ok (.ireturn, 1) := by decide +kernel
theorem dX2_readFoldingSign_0 : decode cX2_readFoldingSign 0 = .ok (.aload_n 0, 1) := by decide +kernel
theorem dX2_readFoldingSign_1 : decode cX2_readFoldingSign 1 = .ok (.invokevirtual 25, 3) := by decide +kernel
theorem dX2_readFoldingSign_4 : decode cX2_readFoldingSign 4 = .ok (.istore_n 1, 1) := by decide +kernel
theorem dX2_readFoldingSign_5 : decode cX2_readFoldingSign 5 = .ok (.iload_n 1, 1) := by decide +kernel
theorem dX2_readFoldingSign_6 : decode cX2_readFoldingSign 6 = .ok (.bipush 43, 2) := by decide +kernel
theorem dX2_readFoldingSign_8 : decode cX2_readFoldingSign 8 = .ok (.if_icmp .eq 31, 3) := by decide +kernel
theorem dX2_readFoldingSign_11 : decode cX2_readFoldingSign 11 = .ok (.iload_n 1, 1) := by decide +kernel
theorem dX2_readFoldingSign_12 : decode cX2_readFoldingSign 12 = .ok (.bipush 42, 2) := by decide +kernel
theorem dX2_readFoldingSign_14 : decode cX2_readFoldingSign 14 = .ok (.if_icmp .eq 25, 3) := by decide +kernel
theorem dX2_readFoldingSign_17 : decode cX2_readFoldingSign 17 = .ok (.iload_n 1, 1) := by decide +kernel
theorem dX2_readFoldingSign_18 : decode cX2_readFoldingSign 18 = .ok (.bipush 38, 2) := by decide +kernel
theorem dX2_readFoldingSign_20 : decode cX2_readFoldingSign 20 = .ok (.if_icmp .eq 19, 3) := by decide +kernel
theorem dX2_readFoldingSign_23 : decode cX2_readFoldingSign 23 = .ok (.iload_n 1, 1) := by decide +kernel
theorem dX2_readFoldingSign_24 : decode cX2_readFoldingSign 24 = .ok (.bipush 124, 2) := by decide +kernel
theorem dX2_readFoldingSign_26 : decode cX2_readFoldingSign 26 = .ok (.if_icmp .eq 13, 3) := by decide +kernel
theorem dX2_readFoldingSign_29 : decode cX2_readFoldingSign 29 = .ok (.new 29, 3) := by decide +kernel
theorem dX2_readFoldingSign_32 : decode cX2_readFoldingSign 32 = .ok (.dup, 1) := by decide +kernel
theorem dX2_readFoldingSign_33 : decode cX2_readFoldingSign 33 = .ok (.ldc 119, 2) := by decide +kernel
theorem dX2_readFoldingSign_35 : decode cX2_readFoldingSign 35 = .ok (.invokespecial 33, 3) := by decide +kernel
theorem dX2_readFoldingSign_38 : decode cX2_readFoldingSign 38 = .ok (.athrow, 1) := by decide +kernel
theorem dX2_readFoldingSign_39 : decode cX2_readFoldingSign 39 = .ok (.aload_n 0, 1) := by decide +kernel
theorem dX2_readFoldingSign_40 : decode cX2_readFoldingSign 40 = .ok (.invokevirtual 78, 3) := by decide +kernel
theorem dX2_readFoldingSign_43 : decode cX2_readFoldingSign 43 = .ok (.iload_n 1, 1) := by decide +kernel
theorem dX2_readFoldingSign_44 : decode cX2_readFoldingSign 44 = .ok (.ireturn, 1) := by decide +kernel
theorem dX2_readSign_0 : decode cX2_readSign 0 = .ok (.aload_n 1, 1) := by decide +kernel
theorem dX2_readSign_1 : decode cX2_readSign 1 = .ok (.aload_n 0, 1) := by decide +kernel
theorem dX2_readSign_2 : decode cX2_readSign 2 = .ok (.invokevirtual 25, 3) := by decide +kernel
theorem dX2_readSign_5 : decode cX2_readSign 5 = .ok (.putfield 115, 3) := by decide +kernel
theorem dX2_readSign_8 : decode cX2_readSign 8 = .ok (.aload_n 1, 1) := by decide +kernel
theorem dX2_readSign_9 : decode cX2_readSign 9 = .ok (.aload_n 1, 1) := by decide +kernel
theorem dX2_readSign_10 : decode cX2_readSign 10 = .ok (.getfield 115, 3) := by decide +kernel
theorem dX2_readSign_13 : decode cX2_readSign 13 = .ok (.invokestatic 121, 3) := by decide +kernel
theorem dX2_readSign_16 : decode cX2_readSign 16 = .ok (.putfield 71, 3) := by decide +kernel
theorem dX2_readSign_19 : decode cX2_readSign 19 = .ok (.aload_n 1, 1) := by decide +kernel
theorem dX2_readSign_20 : decode cX2_readSign 20 = .ok (.getfield 71, 3) := by decide +kernel
theorem dX2_readSign_23 : decode cX2_readSign 23 = .ok (.ifCond .ne 5, 3) := by decide +kernel
theorem dX2_readSign_26 : decode cX2_readSign 26 = .ok (.iconst 0, 1) := by decide +kernel
theorem dX2_readSign_27 : decode cX2_readSign 27 = .ok (.ireturn, 1) := by decide +kernel
theorem dX2_readSign_28 : decode cX2_readSign 28 = .ok (.aload_n 0, 1) := by decide +kernel
theorem dX2_readSign_29 : decode cX2_readSign 29 = .ok (.invokevirtual 78, 3) := by decide +kernel
theorem dX2_readSign_32 : decode cX2_readSign 32 = .ok (.iconst 1, 1) := by decide +kernel
theorem dX2_readSign_33 : decode cX2_readSign 33 = .ok (.ireturn, 1) := by decide +kernel
theorem dX2_kindOfSign_0 : decode cX2_kindOfSign 0 = .ok (.iload_n 0, 1) := by decide +kernel
theorem dX2_kindOfSign_1 : decode cX2_kindOfSign 1 = .ok (.lookupswitch 100 #[(35, 97), (38, 91), (42, 91), (43, 91), (44, 94), (45, 91), (60, 91), (61, 91), (62, 91), (124, 91)], 91) := by decide +kernel
theorem dX2_kindOfSign_92 : decode cX2_kindOfSign 92 = .ok (.bipush 8, 2) := by decide +kernel
theorem dX2_kindOfSign_94 : decode cX2_kindOfSign 94 = .ok (.ireturn, 1) := by decide +kernel
theorem dX2_kindOfSign_95 : decode cX2_kindOfSign 95 = .ok (.bipush 9, 2) := by decide +kernel
theorem dX2_kindOfSign_97 : decode cX2_kindOfSign 97 = .ok (.ireturn, 1) := by decide +kernel
theorem dX2_kindOfSign_98 : decode cX2_kindOfSign 98 = .ok (.bipush 10, 2) := by decide +kernel
theorem dX2_kindOfSign_100 : decode cX2_kindOfSign 100 = .ok (.ireturn, 1) := by decide +kernel
theorem dX2_kindOfSign_101 : decode cX2_kindOfSign 101 = .ok (.iconst 0, 1) := by decide +kernel
theorem dX2_kindOfSign_102 : decode cX2_kindOfSign 102 = .ok (.ireturn, 1) := by decide +kernel
theorem dX3_findAll_0 : decode cX3_findAll 0 = .ok (.aload_n 0, 1) := by decide +kernel
theorem dX3_findAll_1 : decode cX3_findAll 1 = .ok (.getfield 9, 3) := by decide +kernel
theorem dX3_findAll_4 : decode cX3_findAll 4 = .ok (.iconst 1, 1) := by decide +kernel
theorem dX3_findAll_5 : decode cX3_findAll 5 = .ok (.isub, 1) := by decide +kernel
theorem dX3_findAll_6 : decode cX3_findAll 6 = .ok (.istore_n 2, 1) := by decide +kernel
theorem dX3_findAll_7 : decode cX3_findAll 7 = .ok (.iload_n 2, 1) := by decide +kernel
theorem dX3_findAll_8 : decode cX3_findAll 8 = .ok (.ifCond .lt 28, 3) := by decide +kernel
theorem dX3_findAll_11 : decode cX3_findAll 11 = .ok (.aload_n 0, 1) := by decide +kernel
theorem dX3_findAll_12 : decode cX3_findAll 12 = .ok (.getfield 15, 3) := by decide +kernel
theorem dX3_findAll_15 : decode cX3_findAll 15 = .ok (.iload_n 2, 1) := by decide +kernel
theorem dX3_findAll_16 : decode cX3_findAll 16 = .ok (.aaload, 1) := by decide +kernel
theorem dX3_findAll_17 : decode cX3_findAll 17 = .ok (.astore_n 3, 1) := by decide +kernel
theorem dX3_findAll_18 : decode cX3_findAll 18 = .ok (.aload_n 3, 1) := by decide +kernel
theorem dX3_findAll_19 : decode cX3_findAll 19 = .ok (.getfield 19, 3) := by decide +kernel
theorem dX3_findAll_22 : decode cX3_findAll 22 = .ok (.aload_n 3, 1) := by decide +kernel
theorem dX3_findAll_23 : decode cX3_findAll 23 = .ok (.aload_n 1, 1) := by decide +kernel
theorem dX3_findAll_24 : decode cX3_findAll 24 = .ok (.invokestatic 25, 3) := by decide +kernel
theorem dX3_findAll_27 : decode cX3_findAll 27 = .ok (.putfield 31, 3) := by decide +kernel
theorem dX3_findAll_30 : decode cX3_findAll 30 = .ok (.iinc 2 (-1), 3) := by decide +kernel
theorem dX3_findAll_33 : decode cX3_findAll 33 = .ok (.goto (-26), 3) := by decide +kernel
theorem dX3_findAll_36 : decode cX3_findAll 36 = .ok (.return_, 1) := by decide +kernel
theorem dX3_shapeFound_0 : decode cX3_shapeFound 0 = .ok (.aload_n 0, 1) := by decide +kernel
theorem dX3_shapeFound_1 : decode cX3_shapeFound 1 = .ok (.getfield 36, 3) := by decide +kernel
theorem dX3_shapeFound_4 : decode cX3_shapeFound 4 = .ok (.tableswitch 179 1 10 #[56, 179, 66, 74, 85, 99, 74, 113, 137, 161], 56) := by decide +kernel
theorem dX3_shapeFound_60 : decode cX3_shapeFound 60 = .ok (.aload_n 1, 1) := by decide +kernel
theorem dX3_shapeFound_61 : decode cX3_shapeFound 61 = .ok (.aload_n 0, 1) := by decide +kernel
theorem dX3_shapeFound_62 : decode cX3_shapeFound 62 = .ok (.getfield 39, 3) := by decide +kernel
theorem dX3_shapeFound_65 : decode cX3_shapeFound 65 = .ok (.aaload, 1) := by decide +kernel
theorem dX3_shapeFound_66 : decode cX3_shapeFound 66 = .ok (.getfield 31, 3) := by decide +kernel
theorem dX3_shapeFound_69 : decode cX3_shapeFound 69 = .ok (.ireturn, 1) := by decide +kernel
theorem dX3_shapeFound_70 : decode cX3_shapeFound 70 = .ok (.aload_n 0, 1) := by decide +kernel
theorem dX3_shapeFound_71 : decode cX3_shapeFound 71 = .ok (.getfield 39, 3) := by decide +kernel
theorem dX3_shapeFound_74 : decode cX3_shapeFound 74 = .ok (.invokestatic 42, 3) := by decide +kernel
theorem dX3_shapeFound_77 : decode cX3_shapeFound 77 = .ok (.ireturn, 1) := by decide +kernel
theorem dX3_shapeFound_78 : decode cX3_shapeFound 78 = .ok (.aload_n 0, 1) := by decide +kernel
theorem dX3_shapeFound_79 : decode cX3_shapeFound 79 = .ok (.getfield 46, 3) := by decide +kernel
theorem dX3_shapeFound_82 : decode cX3_shapeFound 82 = .ok (.getfield 19, 3) := by decide +kernel
theorem dX3_shapeFound_85 : decode cX3_shapeFound 85 = .ok (.getfield 31, 3) := by decide +kernel
theorem dX3_shapeFound_88 : decode cX3_shapeFound 88 = .ok (.ireturn, 1) := by decide +kernel
theorem dX3_shapeFound_89 : decode cX3_shapeFound 89 = .ok (.aload_n 0, 1) := by decide +kernel
theorem dX3_shapeFound_90 : decode cX3_shapeFound 90 = .ok (.getfield 46, 3) := by decide +kernel
theorem dX3_shapeFound_93 : decode cX3_shapeFound 93 = .ok (.getfield 19, 3) := by decide +kernel
theorem dX3_shapeFound_96 : decode cX3_shapeFound 96 = .ok (.getfield 31, 3) := by decide +kernel
theorem dX3_shapeFound_99 : decode cX3_shapeFound 99 = .ok (.invokestatic 50, 3) := by decide +kernel
theorem dX3_shapeFound_102 : decode cX3_shapeFound 102 = .ok (.ireturn, 1) := by decide +kernel
theorem dX3_shapeFound_103 : decode cX3_shapeFound 103 = .ok (.aload_n 0, 1) := by decide +kernel
theorem dX3_shapeFound_104 : decode cX3_shapeFound 104 = .ok (.getfield 46, 3) := by decide +kernel
theorem dX3_shapeFound_107 : decode cX3_shapeFound 107 = .ok (.getfield 19, 3) := by decide +kernel
theorem dX3_shapeFound_110 : decode cX3_shapeFound 110 = .ok (.getfield 31, 3) := by decide +kernel
theorem dX3_shapeFound_113 : decode cX3_shapeFound 113 = .ok (.invokestatic 53, 3) := by decide +kernel
theorem dX3_shapeFound_116 : decode cX3_shapeFound 116 = .ok (.ireturn, 1) := by decide +kernel
theorem dX3_shapeFound_117 : decode cX3_shapeFound 117 = .ok (.aload_n 0, 1) := by decide +kernel
theorem dX3_shapeFound_118 : decode cX3_shapeFound 118 = .ok (.getfield 56, 3) := by decide +kernel
theorem dX3_shapeFound_121 : decode cX3_shapeFound 121 = .ok (.getfield 19, 3) := by decide +kernel
theorem dX3_shapeFound_124 : decode cX3_shapeFound 124 = .ok (.getfield 31, 3) := by decide +kernel
theorem dX3_shapeFound_127 : decode cX3_shapeFound 127 = .ok (.aload_n 0, 1) := by decide +kernel
theorem dX3_shapeFound_128 : decode cX3_shapeFound 128 = .ok (.getfield 46, 3) := by decide +kernel
theorem dX3_shapeFound_131 : decode cX3_shapeFound 131 = .ok (.getfield 19, 3) := by decide +kernel
theorem dX3_shapeFound_134 : decode cX3_shapeFound 134 = .ok (.getfield 31, 3) := by decide +kernel
theorem dX3_shapeFound_137 : decode cX3_shapeFound 137 = .ok (.invokestatic 59, 3) := by decide +kernel
theorem dX3_shapeFound_140 : decode cX3_shapeFound 140 = .ok (.ireturn, 1) := by decide +kernel
theorem dX3_shapeFound_141 : decode cX3_shapeFound 141 = .ok (.aload_n 0, 1) := by decide +kernel
theorem dX3_shapeFound_142 : decode cX3_shapeFound 142 = .ok (.getfield 56, 3) := by decide +kernel
theorem dX3_shapeFound_145 : decode cX3_shapeFound 145 = .ok (.getfield 19, 3) := by decide +kernel
theorem dX3_shapeFound_148 : decode cX3_shapeFound 148 = .ok (.getfield 31, 3) := by decide +kernel
theorem dX3_shapeFound_151 : decode cX3_shapeFound 151 = .ok (.aload_n 0, 1) := by decide +kernel
theorem dX3_shapeFound_152 : decode cX3_shapeFound 152 = .ok (.getfield 46, 3) := by decide +kernel
theorem dX3_shapeFound_155 : decode cX3_shapeFound 155 = .ok (.getfield 19, 3) := by decide +kernel
theorem dX3_shapeFound_158 : decode cX3_shapeFound 158 = .ok (.getfield 31, 3) := by decide +kernel
theorem dX3_shapeFound_161 : decode cX3_shapeFound 161 = .ok (.invokestatic 63, 3) := by decide +kernel
theorem dX3_shapeFound_164 : decode cX3_shapeFound 164 = .ok (.ireturn, 1) := by decide +kernel
theorem dX3_shapeFound_165 : decode cX3_shapeFound 165 = .ok (.aload_n 0, 1) := by decide +kernel
theorem dX3_shapeFound_166 : decode cX3_shapeFound 166 = .ok (.getfield 56, 3) := by decide +kernel
theorem dX3_shapeFound_169 : decode cX3_shapeFound 169 = .ok (.aload_n 0, 1) := by decide +kernel
theorem dX3_shapeFound_170 : decode cX3_shapeFound 170 = .ok (.getfield 46, 3) := by decide +kernel
theorem dX3_shapeFound_173 : decode cX3_shapeFound 173 = .ok (.getfield 19, 3) := by decide +kernel
theorem dX3_shapeFound_176 : decode cX3_shapeFound 176 = .ok (.invokevirtual 66, 3) := by decide +kernel
theorem dX3_shapeFound_179 : decode cX3_shapeFound 179 = .ok (.invokestatic 69, 3) := by decide +kernel
theorem dX3_shapeFound_182 : decode cX3_shapeFound 182 = .ok (.ireturn, 1) := by decide +kernel
theorem dX3_shapeFound_183 : decode cX3_shapeFound 183 = .ok (.aload_n 0, 1) := by decide +kernel
theorem dX3_shapeFound_184 : decode cX3_shapeFound 184 = .ok (.getfield 19, 3) := by decide +kernel
theorem dX3_shapeFound_187 : decode cX3_shapeFound 187 = .ok (.getfield 31, 3) := by decide +kernel
theorem dX3_shapeFound_190 : decode cX3_shapeFound 190 = .ok (.ireturn, 1) := by decide +kernel
theorem dX3_shapeOfCount_0 : decode cX3_shapeOfCount 0 = .ok (.iconst 1, 1) := by decide +kernel
theorem dX3_shapeOfCount_1 : decode cX3_shapeOfCount 1 = .ok (.iload_n 0, 1) := by decide +kernel
theorem dX3_shapeOfCount_2 : decode cX3_shapeOfCount 2 = .ok (.invokestatic 73, 3) := by decide +kernel
theorem dX3_shapeOfCount_5 : decode cX3_shapeOfCount 5 = .ok (.ifCond .ne 13, 3) := by decide +kernel
theorem dX3_shapeOfCount_8 : decode cX3_shapeOfCount 8 = .ok (.new 79, 3) := by decide +kernel
theorem dX3_shapeOfCount_11 : decode cX3_shapeOfCount 11 = .ok (.dup, 1) := by decide +kernel
theorem dX3_shapeOfCount_12 : decode cX3_shapeOfCount 12 = .ok (.ldc 81, 2) := by decide +kernel
theorem dX3_shapeOfCount_14 : decode cX3_shapeOfCount 14 = .ok (.invokespecial 83, 3) := by decide +kernel
theorem dX3_shapeOfCount_17 : decode cX3_shapeOfCount 17 = .ok (.athrow, 1) := by decide +kernel
theorem dX3_shapeOfCount_18 : decode cX3_shapeOfCount 18 = .ok (.iload_n 0, 1) := by decide +kernel
theorem dX3_shapeOfCount_19 : decode cX3_shapeOfCount 19 = .ok (.ireturn, 1) := by decide +kernel
theorem dX3_shapeTurned_0 : decode cX3_shapeTurned 0 = .ok (.iload_n 0, 1) := by decide +kernel
theorem dX3_shapeTurned_1 : decode cX3_shapeTurned 1 = .ok (.invokestatic 86, 3) := by decide +kernel
theorem dX3_shapeTurned_4 : decode cX3_shapeTurned 4 = .ok (.ifCond .eq 17, 3) := by decide +kernel
theorem dX3_shapeTurned_7 : decode cX3_shapeTurned 7 = .ok (.iload_n 0, 1) := by decide +kernel
theorem dX3_shapeTurned_8 : decode cX3_shapeTurned 8 = .ok (.invokestatic 90, 3) := by decide +kernel
theorem dX3_shapeTurned_11 : decode cX3_shapeTurned 11 = .ok (.iload_n 0, 1) := by decide +kernel
theorem dX3_shapeTurned_12 : decode cX3_shapeTurned 12 = .ok (.invokestatic 93, 3) := by decide +kernel
theorem dX3_shapeTurned_15 : decode cX3_shapeTurned 15 = .ok (.invokestatic 96, 3) := by decide +kernel
theorem dX3_shapeTurned_18 : decode cX3_shapeTurned 18 = .ok (.goto 4, 3) := by decide +kernel
theorem dX3_shapeTurned_21 : decode cX3_shapeTurned 21 = .ok (.iload_n 0, 1) := by decide +kernel
theorem dX3_shapeTurned_22 : decode cX3_shapeTurned 22 = .ok (.ireturn, 1) := by decide +kernel
theorem dX3_shapeReduced_0 : decode cX3_shapeReduced 0 = .ok (.iload_n 0, 1) := by decide +kernel
theorem dX3_shapeReduced_1 : decode cX3_shapeReduced 1 = .ok (.invokestatic 86, 3) := by decide +kernel
theorem dX3_shapeReduced_4 : decode cX3_shapeReduced 4 = .ok (.ifCond .eq 10, 3) := by decide +kernel
theorem dX3_shapeReduced_7 : decode cX3_shapeReduced 7 = .ok (.iload_n 0, 1) := by decide +kernel
theorem dX3_shapeReduced_8 : decode cX3_shapeReduced 8 = .ok (.invokestatic 93, 3) := by decide +kernel
theorem dX3_shapeReduced_11 : decode cX3_shapeReduced 11 = .ok (.goto 4, 3) := by decide +kernel
theorem dX3_shapeReduced_14 : decode cX3_shapeReduced 14 = .ok (.iconst 0, 1) := by decide +kernel
theorem dX3_shapeReduced_15 : decode cX3_shapeReduced 15 = .ok (.ireturn, 1) := by decide +kernel
theorem dX3_shapeOfEach_0 : decode cX3_shapeOfEach 0 = .ok (.iload_n 0, 1) := by decide +kernel
theorem dX3_shapeOfEach_1 : decode cX3_shapeOfEach 1 = .ok (.iload_n 1, 1) := by decide +kernel
theorem dX3_shapeOfEach_2 : decode cX3_shapeOfEach 2 = .ok (.if_icmp .eq 21, 3) := by decide +kernel
theorem dX3_shapeOfEach_5 : decode cX3_shapeOfEach 5 = .ok (.iload_n 0, 1) := by decide +kernel
theorem dX3_shapeOfEach_6 : decode cX3_shapeOfEach 6 = .ok (.ifCond .eq 17, 3) := by decide +kernel
theorem dX3_shapeOfEach_9 : decode cX3_shapeOfEach 9 = .ok (.iload_n 1, 1) := by decide +kernel
theorem dX3_shapeOfEach_10 : decode cX3_shapeOfEach 10 = .ok (.ifCond .eq 13, 3) := by decide +kernel
theorem dX3_shapeOfEach_13 : decode cX3_shapeOfEach 13 = .ok (.new 99, 3) := by decide +kernel
theorem dX3_shapeOfEach_16 : decode cX3_shapeOfEach 16 = .ok (.dup, 1) := by decide +kernel
theorem dX3_shapeOfEach_17 : decode cX3_shapeOfEach 17 = .ok (.ldc 101, 2) := by decide +kernel
theorem dX3_shapeOfEach_19 : decode cX3_shapeOfEach 19 = .ok (.invokespecial 103, 3) := by decide +kernel
theorem dX3_shapeOfEach_22 : decode cX3_shapeOfEach 22 = .ok (.athrow, 1) := by decide +kernel
theorem dX3_shapeOfEach_23 : decode cX3_shapeOfEach 23 = .ok (.iload_n 0, 1) := by decide +kernel
theorem dX3_shapeOfEach_24 : decode cX3_shapeOfEach 24 = .ok (.ifCond .ne 7, 3) := by decide +kernel
theorem dX3_shapeOfEach_27 : decode cX3_shapeOfEach 27 = .ok (.iload_n 1, 1) := by decide +kernel
theorem dX3_shapeOfEach_28 : decode cX3_shapeOfEach 28 = .ok (.goto 4, 3) := by decide +kernel
theorem dX3_shapeOfEach_31 : decode cX3_shapeOfEach 31 = .ok (.iload_n 0, 1) := by decide +kernel
theorem dX3_shapeOfEach_32 : decode cX3_shapeOfEach 32 = .ok (.ireturn, 1) := by decide +kernel
theorem dX3_shapeJoined_0 : decode cX3_shapeJoined 0 = .ok (.iload_n 0, 1) := by decide +kernel
theorem dX3_shapeJoined_1 : decode cX3_shapeJoined 1 = .ok (.invokestatic 86, 3) := by decide +kernel
theorem dX3_shapeJoined_4 : decode cX3_shapeJoined 4 = .ok (.ifCond .ne 10, 3) := by decide +kernel
theorem dX3_shapeJoined_7 : decode cX3_shapeJoined 7 = .ok (.iload_n 1, 1) := by decide +kernel
theorem dX3_shapeJoined_8 : decode cX3_shapeJoined 8 = .ok (.invokestatic 86, 3) := by decide +kernel
theorem dX3_shapeJoined_11 : decode cX3_shapeJoined 11 = .ok (.ifCond .eq 13, 3) := by decide +kernel
theorem dX3_shapeJoined_14 : decode cX3_shapeJoined 14 = .ok (.new 99, 3) := by decide +kernel
theorem dX3_shapeJoined_17 : decode cX3_shapeJoined 17 = .ok (.dup, 1) := by decide +kernel
theorem dX3_shapeJoined_18 : decode cX3_shapeJoined 18 = .ok (.ldc 104, 2) := by decide +kernel
theorem dX3_shapeJoined_20 : decode cX3_shapeJoined 20 = .ok (.invokespecial 103, 3) := by decide +kernel
theorem dX3_shapeJoined_23 : decode cX3_shapeJoined 23 = .ok (.athrow, 1) := by decide +kernel
theorem dX3_shapeJoined_24 : decode cX3_shapeJoined 24 = .ok (.iload_n 0, 1) := by decide +kernel
theorem dX3_shapeJoined_25 : decode cX3_shapeJoined 25 = .ok (.invokestatic 106, 3) := by decide +kernel
theorem dX3_shapeJoined_28 : decode cX3_shapeJoined 28 = .ok (.iload_n 1, 1) := by decide +kernel
theorem dX3_shapeJoined_29 : decode cX3_shapeJoined 29 = .ok (.invokestatic 106, 3) := by decide +kernel
theorem dX3_shapeJoined_32 : decode cX3_shapeJoined 32 = .ok (.iadd, 1) := by decide +kernel
theorem dX3_shapeJoined_33 : decode cX3_shapeJoined 33 = .ok (.istore_n 2, 1) := by decide +kernel
theorem dX3_shapeJoined_34 : decode cX3_shapeJoined 34 = .ok (.iconst 1, 1) := by decide +kernel
theorem dX3_shapeJoined_35 : decode cX3_shapeJoined 35 = .ok (.iload_n 2, 1) := by decide +kernel
theorem dX3_shapeJoined_36 : decode cX3_shapeJoined 36 = .ok (.invokestatic 73, 3) := by decide +kernel
theorem dX3_shapeJoined_39 : decode cX3_shapeJoined 39 = .ok (.ifCond .ne 13, 3) := by decide +kernel
theorem dX3_shapeJoined_42 : decode cX3_shapeJoined 42 = .ok (.new 79, 3) := by decide +kernel
theorem dX3_shapeJoined_45 : decode cX3_shapeJoined 45 = .ok (.dup, 1) := by decide +kernel
theorem dX3_shapeJoined_46 : decode cX3_shapeJoined 46 = .ok (.ldc 109, 2) := by decide +kernel
theorem dX3_shapeJoined_48 : decode cX3_shapeJoined 48 = .ok (.invokespecial 83, 3) := by decide +kernel
theorem dX3_shapeJoined_51 : decode cX3_shapeJoined 51 = .ok (.athrow, 1) := by decide +kernel
theorem dX3_shapeJoined_52 : decode cX3_shapeJoined 52 = .ok (.iload_n 2, 1) := by decide +kernel
theorem dX3_shapeJoined_53 : decode cX3_shapeJoined 53 = .ok (.ireturn, 1) := by decide +kernel
theorem dX3_shapeAnew_0 : decode cX3_shapeAnew 0 = .ok (.aload_n 0, 1) := by decide +kernel
theorem dX3_shapeAnew_1 : decode cX3_shapeAnew 1 = .ok (.getfield 36, 3) := by decide +kernel
theorem dX3_shapeAnew_4 : decode cX3_shapeAnew 4 = .ok (.iconst 2, 1) := by decide +kernel
theorem dX3_shapeAnew_5 : decode cX3_shapeAnew 5 = .ok (.if_icmp .ne 14, 3) := by decide +kernel
theorem dX3_shapeAnew_8 : decode cX3_shapeAnew 8 = .ok (.aload_n 0, 1) := by decide +kernel
theorem dX3_shapeAnew_9 : decode cX3_shapeAnew 9 = .ok (.getfield 19, 3) := by decide +kernel
theorem dX3_shapeAnew_12 : decode cX3_shapeAnew 12 = .ok (.invokevirtual 66, 3) := by decide +kernel
theorem dX3_shapeAnew_15 : decode cX3_shapeAnew 15 = .ok (.iconst 2, 1) := by decide +kernel
theorem dX3_shapeAnew_16 : decode cX3_shapeAnew 16 = .ok (.if_icmp .le 13, 3) := by decide +kernel
theorem dX3_shapeAnew_19 : decode cX3_shapeAnew 19 = .ok (.new 99, 3) := by decide +kernel
theorem dX3_shapeAnew_22 : decode cX3_shapeAnew 22 = .ok (.dup, 1) := by decide +kernel
theorem dX3_shapeAnew_23 : decode cX3_shapeAnew 23 = .ok (.ldc 111, 2) := by decide +kernel
theorem dX3_shapeAnew_25 : decode cX3_shapeAnew 25 = .ok (.invokespecial 103, 3) := by decide +kernel
theorem dX3_shapeAnew_28 : decode cX3_shapeAnew 28 = .ok (.athrow, 1) := by decide +kernel
theorem dX3_shapeAnew_29 : decode cX3_shapeAnew 29 = .ok (.aload_n 0, 1) := by decide +kernel
theorem dX3_shapeAnew_30 : decode cX3_shapeAnew 30 = .ok (.getfield 19, 3) := by decide +kernel
theorem dX3_shapeAnew_33 : decode cX3_shapeAnew 33 = .ok (.getfield 31, 3) := by decide +kernel
theorem dX3_shapeAnew_36 : decode cX3_shapeAnew 36 = .ok (.ifCond .ne 7, 3) := by decide +kernel
theorem dX3_shapeAnew_39 : decode cX3_shapeAnew 39 = .ok (.iconst 1, 1) := by decide +kernel
theorem dX3_shapeAnew_40 : decode cX3_shapeAnew 40 = .ok (.goto 4, 3) := by decide +kernel
theorem dX3_shapeAnew_43 : decode cX3_shapeAnew 43 = .ok (.iconst 0, 1) := by decide +kernel
theorem dX3_shapeAnew_44 : decode cX3_shapeAnew 44 = .ok (.istore_n 2, 1) := by decide +kernel
theorem dX3_shapeAnew_45 : decode cX3_shapeAnew 45 = .ok (.iload_n 2, 1) := by decide +kernel
theorem dX3_shapeAnew_46 : decode cX3_shapeAnew 46 = .ok (.ifCond .eq 7, 3) := by decide +kernel
theorem dX3_shapeAnew_49 : decode cX3_shapeAnew 49 = .ok (.iconst 1, 1) := by decide +kernel
theorem dX3_shapeAnew_50 : decode cX3_shapeAnew 50 = .ok (.goto 13, 3) := by decide +kernel
theorem dX3_shapeAnew_53 : decode cX3_shapeAnew 53 = .ok (.aload_n 0, 1) := by decide +kernel
theorem dX3_shapeAnew_54 : decode cX3_shapeAnew 54 = .ok (.getfield 19, 3) := by decide +kernel
theorem dX3_shapeAnew_57 : decode cX3_shapeAnew 57 = .ok (.getfield 113, 3) := by decide +kernel
theorem dX3_shapeAnew_60 : decode cX3_shapeAnew 60 = .ok (.iconst 0, 1) := by decide +kernel
theorem dX3_shapeAnew_61 : decode cX3_shapeAnew 61 = .ok (.daload, 1) := by decide +kernel
theorem dX3_shapeAnew_62 : decode cX3_shapeAnew 62 = .ok (.d2i, 1) := by decide +kernel
theorem dX3_shapeAnew_63 : decode cX3_shapeAnew 63 = .ok (.istore_n 3, 1) := by decide +kernel
theorem dX3_shapeAnew_64 : decode cX3_shapeAnew 64 = .ok (.aload_n 0, 1) := by decide +kernel
theorem dX3_shapeAnew_65 : decode cX3_shapeAnew 65 = .ok (.getfield 19, 3) := by decide +kernel
theorem dX3_shapeAnew_68 : decode cX3_shapeAnew 68 = .ok (.getfield 113, 3) := by decide +kernel
theorem dX3_shapeAnew_71 : decode cX3_shapeAnew 71 = .ok (.iload_n 2, 1) := by decide +kernel
theorem dX3_shapeAnew_72 : decode cX3_shapeAnew 72 = .ok (.ifCond .eq 7, 3) := by decide +kernel
theorem dX3_shapeAnew_75 : decode cX3_shapeAnew 75 = .ok (.iconst 0, 1) := by decide +kernel
theorem dX3_shapeAnew_76 : decode cX3_shapeAnew 76 = .ok (.goto 4, 3) := by decide +kernel
theorem dX3_shapeAnew_79 : decode cX3_shapeAnew 79 = .ok (.iconst 1, 1) := by decide +kernel
theorem dX3_shapeAnew_80 : decode cX3_shapeAnew 80 = .ok (.daload, 1) := by decide +kernel
theorem dX3_shapeAnew_81 : decode cX3_shapeAnew 81 = .ok (.d2i, 1) := by decide +kernel
theorem dX3_shapeAnew_82 : decode cX3_shapeAnew 82 = .ok (.istore 4, 2) := by decide +kernel
theorem dX3_shapeAnew_84 : decode cX3_shapeAnew 84 = .ok (.iload_n 3, 1) := by decide +kernel
theorem dX3_shapeAnew_85 : decode cX3_shapeAnew 85 = .ok (.iload 4, 2) := by decide +kernel
theorem dX3_shapeAnew_87 : decode cX3_shapeAnew 87 = .ok (.invokestatic 73, 3) := by decide +kernel
theorem dX3_shapeAnew_90 : decode cX3_shapeAnew 90 = .ok (.ifCond .ne 13, 3) := by decide +kernel
theorem dX3_shapeAnew_93 : decode cX3_shapeAnew 93 = .ok (.new 79, 3) := by decide +kernel
theorem dX3_shapeAnew_96 : decode cX3_shapeAnew 96 = .ok (.dup, 1) := by decide +kernel
theorem dX3_shapeAnew_97 : decode cX3_shapeAnew 97 = .ok (.ldc 116, 2) := by decide +kernel
theorem dX3_shapeAnew_99 : decode cX3_shapeAnew 99 = .ok (.invokespecial 83, 3) := by decide +kernel
theorem dX3_shapeAnew_102 : decode cX3_shapeAnew 102 = .ok (.athrow, 1) := by decide +kernel
theorem dX3_shapeAnew_103 : decode cX3_shapeAnew 103 = .ok (.iload_n 3, 1) := by decide +kernel
theorem dX3_shapeAnew_104 : decode cX3_shapeAnew 104 = .ok (.iload 4, 2) := by decide +kernel
theorem dX3_shapeAnew_106 : decode cX3_shapeAnew 106 = .ok (.imul, 1) := by decide +kernel
theorem dX3_shapeAnew_107 : decode cX3_shapeAnew 107 = .ok (.iload_n 1, 1) := by decide +kernel
theorem dX3_shapeAnew_108 : decode cX3_shapeAnew 108 = .ok (.if_icmp .ge 13, 3) := by decide +kernel
theorem dX3_shapeAnew_111 : decode cX3_shapeAnew 111 = .ok (.new 99, 3) := by decide +kernel
theorem dX3_shapeAnew_114 : decode cX3_shapeAnew 114 = .ok (.dup, 1) := by decide +kernel
theorem dX3_shapeAnew_115 : decode cX3_shapeAnew 115 = .ok (.ldc 118, 2) := by decide +kernel
theorem dX3_shapeAnew_117 : decode cX3_shapeAnew 117 = .ok (.invokespecial 103, 3) := by decide +kernel
theorem dX3_shapeAnew_120 : decode cX3_shapeAnew 120 = .ok (.athrow, 1) := by decide +kernel
theorem dX3_shapeAnew_121 : decode cX3_shapeAnew 121 = .ok (.iload_n 2, 1) := by decide +kernel
theorem dX3_shapeAnew_122 : decode cX3_shapeAnew 122 = .ok (.ifCond .eq 8, 3) := by decide +kernel
theorem dX3_shapeAnew_125 : decode cX3_shapeAnew 125 = .ok (.iload 4, 2) := by decide +kernel
theorem dX3_shapeAnew_127 : decode cX3_shapeAnew 127 = .ok (.goto 9, 3) := by decide +kernel
theorem dX3_shapeAnew_130 : decode cX3_shapeAnew 130 = .ok (.iload_n 3, 1) := by decide +kernel
theorem dX3_shapeAnew_131 : decode cX3_shapeAnew 131 = .ok (.iload 4, 2) := by decide +kernel
theorem dX3_shapeAnew_133 : decode cX3_shapeAnew 133 = .ok (.invokestatic 96, 3) := by decide +kernel
theorem dX3_shapeAnew_136 : decode cX3_shapeAnew 136 = .ok (.ireturn, 1) := by decide +kernel
theorem dX4_exists_0 : decode cX4_exists 0 = .ok (.iload_n 0, 1) := by decide +kernel
theorem dX4_exists_1 : decode cX4_exists 1 = .ok (.ifCond .lt 14, 3) := by decide +kernel
theorem dX4_exists_4 : decode cX4_exists 4 = .ok (.iload_n 0, 1) := by decide +kernel
theorem dX4_exists_5 : decode cX4_exists 5 = .ok (.bipush 24, 2) := by decide +kernel
theorem dX4_exists_7 : decode cX4_exists 7 = .ok (.bipush 24, 2) := by decide +kernel
theorem dX4_exists_9 : decode cX4_exists 9 = .ok (.invokestatic 9, 3) := by decide +kernel
theorem dX4_exists_12 : decode cX4_exists 12 = .ok (.if_icmp .le 5, 3) := by decide +kernel
theorem dX4_exists_15 : decode cX4_exists 15 = .ok (.iconst 0, 1) := by decide +kernel
theorem dX4_exists_16 : decode cX4_exists 16 = .ok (.ireturn, 1) := by decide +kernel
theorem dX4_exists_17 : decode cX4_exists 17 = .ok (.iload_n 0, 1) := by decide +kernel
theorem dX4_exists_18 : decode cX4_exists 18 = .ok (.ifCond .eq 17, 3) := by decide +kernel
theorem dX4_exists_21 : decode cX4_exists 21 = .ok (.iload_n 0, 1) := by decide +kernel
theorem dX4_exists_22 : decode cX4_exists 22 = .ok (.invokestatic 15, 3) := by decide +kernel
theorem dX4_exists_25 : decode cX4_exists 25 = .ok (.iload_n 0, 1) := by decide +kernel
theorem dX4_exists_26 : decode cX4_exists 26 = .ok (.invokestatic 19, 3) := by decide +kernel
theorem dX4_exists_29 : decode cX4_exists 29 = .ok (.invokestatic 22, 3) := by decide +kernel
theorem dX4_exists_32 : decode cX4_exists 32 = .ok (.ifCond .eq 7, 3) := by decide +kernel
theorem dX4_exists_35 : decode cX4_exists 35 = .ok (.iconst 1, 1) := by decide +kernel
theorem dX4_exists_36 : decode cX4_exists 36 = .ok (.goto 4, 3) := by decide +kernel
theorem dX4_exists_39 : decode cX4_exists 39 = .ok (.iconst 0, 1) := by decide +kernel
theorem dX4_exists_40 : decode cX4_exists 40 = .ok (.ireturn, 1) := by decide +kernel
theorem dX4_fits_0 : decode cX4_fits 0 = .ok (.iload_n 0, 1) := by decide +kernel
theorem dX4_fits_1 : decode cX4_fits 1 = .ok (.iconst 1, 1) := by decide +kernel
theorem dX4_fits_2 : decode cX4_fits 2 = .ok (.if_icmp .lt 32, 3) := by decide +kernel
theorem dX4_fits_5 : decode cX4_fits 5 = .ok (.iload_n 0, 1) := by decide +kernel
theorem dX4_fits_6 : decode cX4_fits 6 = .ok (.bipush 24, 2) := by decide +kernel
theorem dX4_fits_8 : decode cX4_fits 8 = .ok (.if_icmp .gt 26, 3) := by decide +kernel
theorem dX4_fits_11 : decode cX4_fits 11 = .ok (.iload_n 1, 1) := by decide +kernel
theorem dX4_fits_12 : decode cX4_fits 12 = .ok (.iconst 1, 1) := by decide +kernel
theorem dX4_fits_13 : decode cX4_fits 13 = .ok (.if_icmp .lt 21, 3) := by decide +kernel
theorem dX4_fits_16 : decode cX4_fits 16 = .ok (.iload_n 1, 1) := by decide +kernel
theorem dX4_fits_17 : decode cX4_fits 17 = .ok (.bipush 24, 2) := by decide +kernel
theorem dX4_fits_19 : decode cX4_fits 19 = .ok (.if_icmp .gt 15, 3) := by decide +kernel
theorem dX4_fits_22 : decode cX4_fits 22 = .ok (.iload_n 0, 1) := by decide +kernel
theorem dX4_fits_23 : decode cX4_fits 23 = .ok (.iload_n 1, 1) := by decide +kernel
theorem dX4_fits_24 : decode cX4_fits 24 = .ok (.imul, 1) := by decide +kernel
theorem dX4_fits_25 : decode cX4_fits 25 = .ok (.bipush 24, 2) := by decide +kernel
theorem dX4_fits_27 : decode cX4_fits 27 = .ok (.if_icmp .gt 7, 3) := by decide +kernel
theorem dX4_fits_30 : decode cX4_fits 30 = .ok (.iconst 1, 1) := by decide +kernel
theorem dX4_fits_31 : decode cX4_fits 31 = .ok (.goto 4, 3) := by decide +kernel
theorem dX4_fits_34 : decode cX4_fits 34 = .ok (.iconst 0, 1) := by decide +kernel
theorem dX4_fits_35 : decode cX4_fits 35 = .ok (.ireturn, 1) := by decide +kernel
theorem dX4_tableOf_0 : decode cX4_tableOf 0 = .ok (.iload_n 0, 1) := by decide +kernel
theorem dX4_tableOf_1 : decode cX4_tableOf 1 = .ok (.iconst 5, 1) := by decide +kernel
theorem dX4_tableOf_2 : decode cX4_tableOf 2 = .ok (.ishl, 1) := by decide +kernel
theorem dX4_tableOf_3 : decode cX4_tableOf 3 = .ok (.iload_n 1, 1) := by decide +kernel
theorem dX4_tableOf_4 : decode cX4_tableOf 4 = .ok (.iadd, 1) := by decide +kernel
theorem dX4_tableOf_5 : decode cX4_tableOf 5 = .ok (.ireturn, 1) := by decide +kernel
theorem dX4_isTable_0 : decode cX4_isTable 0 = .ok (.iload_n 0, 1) := by decide +kernel
theorem dX4_isTable_1 : decode cX4_isTable 1 = .ok (.bipush 31, 2) := by decide +kernel
theorem dX4_isTable_3 : decode cX4_isTable 3 = .ok (.if_icmp .le 7, 3) := by decide +kernel
theorem dX4_isTable_6 : decode cX4_isTable 6 = .ok (.iconst 1, 1) := by decide +kernel
theorem dX4_isTable_7 : decode cX4_isTable 7 = .ok (.goto 4, 3) := by decide +kernel
theorem dX4_isTable_10 : decode cX4_isTable 10 = .ok (.iconst 0, 1) := by decide +kernel
theorem dX4_isTable_11 : decode cX4_isTable 11 = .ok (.ireturn, 1) := by decide +kernel
theorem dX4_lines_0 : decode cX4_lines 0 = .ok (.iload_n 0, 1) := by decide +kernel
theorem dX4_lines_1 : decode cX4_lines 1 = .ok (.bipush 31, 2) := by decide +kernel
theorem dX4_lines_3 : decode cX4_lines 3 = .ok (.if_icmp .le 9, 3) := by decide +kernel
theorem dX4_lines_6 : decode cX4_lines 6 = .ok (.iload_n 0, 1) := by decide +kernel
theorem dX4_lines_7 : decode cX4_lines 7 = .ok (.iconst 5, 1) := by decide +kernel
theorem dX4_lines_8 : decode cX4_lines 8 = .ok (.ishr, 1) := by decide +kernel
theorem dX4_lines_9 : decode cX4_lines 9 = .ok (.goto 4, 3) := by decide +kernel
theorem dX4_lines_12 : decode cX4_lines 12 = .ok (.iconst 1, 1) := by decide +kernel
theorem dX4_lines_13 : decode cX4_lines 13 = .ok (.ireturn, 1) := by decide +kernel
theorem dX4_length_0 : decode cX4_length 0 = .ok (.iload_n 0, 1) := by decide +kernel
theorem dX4_length_1 : decode cX4_length 1 = .ok (.ifCond .ne 7, 3) := by decide +kernel
theorem dX4_length_4 : decode cX4_length 4 = .ok (.iconst 1, 1) := by decide +kernel
theorem dX4_length_5 : decode cX4_length 5 = .ok (.goto 7, 3) := by decide +kernel
theorem dX4_length_8 : decode cX4_length 8 = .ok (.iload_n 0, 1) := by decide +kernel
theorem dX4_length_9 : decode cX4_length 9 = .ok (.bipush 31, 2) := by decide +kernel
theorem dX4_length_11 : decode cX4_length 11 = .ok (.iand, 1) := by decide +kernel
theorem dX4_length_12 : decode cX4_length 12 = .ok (.ireturn, 1) := by decide +kernel
theorem dX4_elements_0 : decode cX4_elements 0 = .ok (.iload_n 0, 1) := by decide +kernel
theorem dX4_elements_1 : decode cX4_elements 1 = .ok (.invokestatic 15, 3) := by decide +kernel
theorem dX4_elements_4 : decode cX4_elements 4 = .ok (.iload_n 0, 1) := by decide +kernel
theorem dX4_elements_5 : decode cX4_elements 5 = .ok (.invokestatic 19, 3) := by decide +kernel
theorem dX4_elements_8 : decode cX4_elements 8 = .ok (.imul, 1) := by decide +kernel
theorem dX4_elements_9 : decode cX4_elements 9 = .ok (.ireturn, 1) := by decide +kernel
theorem dX5_init_0 : decode cX5_init 0 = .ok (.aload_n 0, 1) := by decide +kernel
theorem dX5_init_1 : decode cX5_init 1 = .ok (.invokespecial 3, 3) := by decide +kernel
theorem dX5_init_4 : decode cX5_init 4 = .ok (.aload_n 0, 1) := by decide +kernel
theorem dX5_init_5 : decode cX5_init 5 = .ok (.bipush 40, 2) := by decide +kernel
theorem dX5_init_7 : decode cX5_init 7 = .ok (.newarray .char, 2) := by decide +kernel
theorem dX5_init_9 : decode cX5_init 9 = .ok (.putfield 9, 3) := by decide +kernel
theorem dX5_init_12 : decode cX5_init 12 = .ok (.return_, 1) := by decide +kernel
theorem dX5_append_0 : decode cX5_append 0 = .ok (.lload_n 1, 1) := by decide +kernel
theorem dX5_append_1 : decode cX5_append 1 = .ok (.invokestatic 15, 3) := by decide +kernel
theorem dX5_append_4 : decode cX5_append 4 = .ok (.istore_n 3, 1) := by decide +kernel
theorem dX5_append_5 : decode cX5_append 5 = .ok (.iload_n 3, 1) := by decide +kernel
theorem dX5_append_6 : decode cX5_append 6 = .ok (.ifCond .lt 14, 3) := by decide +kernel
theorem dX5_append_9 : decode cX5_append 9 = .ok (.aload_n 0, 1) := by decide +kernel
theorem dX5_append_10 : decode cX5_append 10 = .ok (.getfield 19, 3) := by decide +kernel
theorem dX5_append_13 : decode cX5_append 13 = .ok (.iload_n 3, 1) := by decide +kernel
theorem dX5_append_14 : decode cX5_append 14 = .ok (.iadd, 1) := by decide +kernel
theorem dX5_append_15 : decode cX5_append 15 = .ok (.bipush 40, 2) := by decide +kernel
theorem dX5_append_17 : decode cX5_append 17 = .ok (.if_icmp .le 5, 3) := by decide +kernel
theorem dX5_append_20 : decode cX5_append 20 = .ok (.iconst (-1), 1) := by decide +kernel
theorem dX5_append_21 : decode cX5_append 21 = .ok (.ireturn, 1) := by decide +kernel
theorem dX5_append_22 : decode cX5_append 22 = .ok (.iconst 0, 1) := by decide +kernel
theorem dX5_append_23 : decode cX5_append 23 = .ok (.istore 4, 2) := by decide +kernel
theorem dX5_append_25 : decode cX5_append 25 = .ok (.iload 4, 2) := by decide +kernel
theorem dX5_append_27 : decode cX5_append 27 = .ok (.iload_n 3, 1) := by decide +kernel
theorem dX5_append_28 : decode cX5_append 28 = .ok (.if_icmp .ge 28, 3) := by decide +kernel
theorem dX5_append_31 : decode cX5_append 31 = .ok (.aload_n 0, 1) := by decide +kernel
theorem dX5_append_32 : decode cX5_append 32 = .ok (.getfield 9, 3) := by decide +kernel
theorem dX5_append_35 : decode cX5_append 35 = .ok (.aload_n 0, 1) := by decide +kernel
theorem dX5_append_36 : decode cX5_append 36 = .ok (.getfield 19, 3) := by decide +kernel
theorem dX5_append_39 : decode cX5_append 39 = .ok (.iload 4, 2) := by decide +kernel
theorem dX5_append_41 : decode cX5_append 41 = .ok (.iadd, 1) := by decide +kernel
theorem dX5_append_42 : decode cX5_append 42 = .ok (.lload_n 1, 1) := by decide +kernel
theorem dX5_append_43 : decode cX5_append 43 = .ok (.iload 4, 2) := by decide +kernel
theorem dX5_append_45 : decode cX5_append 45 = .ok (.invokestatic 23, 3) := by decide +kernel
theorem dX5_append_48 : decode cX5_append 48 = .ok (.i2c, 1) := by decide +kernel
theorem dX5_append_49 : decode cX5_append 49 = .ok (.castore, 1) := by decide +kernel
theorem dX5_append_50 : decode cX5_append 50 = .ok (.iinc 4 1, 3) := by decide +kernel
theorem dX5_append_53 : decode cX5_append 53 = .ok (.goto (-28), 3) := by decide +kernel
theorem dX5_append_56 : decode cX5_append 56 = .ok (.aload_n 0, 1) := by decide +kernel
theorem dX5_append_57 : decode cX5_append 57 = .ok (.dup, 1) := by decide +kernel
theorem dX5_append_58 : decode cX5_append 58 = .ok (.getfield 19, 3) := by decide +kernel
theorem dX5_append_61 : decode cX5_append 61 = .ok (.iload_n 3, 1) := by decide +kernel
theorem dX5_append_62 : decode cX5_append 62 = .ok (.iadd, 1) := by decide +kernel
theorem dX5_append_63 : decode cX5_append 63 = .ok (.putfield 19, 3) := by decide +kernel
theorem dX5_append_66 : decode cX5_append 66 = .ok (.iload_n 3, 1) := by decide +kernel
theorem dX5_append_67 : decode cX5_append 67 = .ok (.ireturn, 1) := by decide +kernel
theorem dX5_clear_0 : decode cX5_clear 0 = .ok (.aload_n 0, 1) := by decide +kernel
theorem dX5_clear_1 : decode cX5_clear 1 = .ok (.getfield 19, 3) := by decide +kernel
theorem dX5_clear_4 : decode cX5_clear 4 = .ok (.istore_n 1, 1) := by decide +kernel
theorem dX5_clear_5 : decode cX5_clear 5 = .ok (.aload_n 0, 1) := by decide +kernel
theorem dX5_clear_6 : decode cX5_clear 6 = .ok (.iconst 0, 1) := by decide +kernel
theorem dX5_clear_7 : decode cX5_clear 7 = .ok (.putfield 19, 3) := by decide +kernel
theorem dX5_clear_10 : decode cX5_clear 10 = .ok (.iload_n 1, 1) := by decide +kernel
theorem dX5_clear_11 : decode cX5_clear 11 = .ok (.ireturn, 1) := by decide +kernel
theorem dX5_startReading_0 : decode cX5_startReading 0 = .ok (.aload_n 0, 1) := by decide +kernel
theorem dX5_startReading_1 : decode cX5_startReading 1 = .ok (.iconst 0, 1) := by decide +kernel
theorem dX5_startReading_2 : decode cX5_startReading 2 = .ok (.putfield 27, 3) := by decide +kernel
theorem dX5_startReading_5 : decode cX5_startReading 5 = .ok (.return_, 1) := by decide +kernel
theorem dX5_next_0 : decode cX5_next 0 = .ok (.aload_n 0, 1) := by decide +kernel
theorem dX5_next_1 : decode cX5_next 1 = .ok (.getfield 27, 3) := by decide +kernel
theorem dX5_next_4 : decode cX5_next 4 = .ok (.aload_n 0, 1) := by decide +kernel
theorem dX5_next_5 : decode cX5_next 5 = .ok (.getfield 19, 3) := by decide +kernel
theorem dX5_next_8 : decode cX5_next 8 = .ok (.if_icmp .ge 15, 3) := by decide +kernel
theorem dX5_next_11 : decode cX5_next 11 = .ok (.aload_n 0, 1) := by decide +kernel
theorem dX5_next_12 : decode cX5_next 12 = .ok (.getfield 9, 3) := by decide +kernel
theorem dX5_next_15 : decode cX5_next 15 = .ok (.aload_n 0, 1) := by decide +kernel
theorem dX5_next_16 : decode cX5_next 16 = .ok (.getfield 27, 3) := by decide +kernel
theorem dX5_next_19 : decode cX5_next 19 = .ok (.caload, 1) := by decide +kernel
theorem dX5_next_20 : decode cX5_next 20 = .ok (.goto 4, 3) := by decide +kernel
theorem dX5_next_23 : decode cX5_next 23 = .ok (.iconst 0, 1) := by decide +kernel
theorem dX5_next_24 : decode cX5_next 24 = .ok (.ireturn, 1) := by decide +kernel
theorem dX5_pass_0 : decode cX5_pass 0 = .ok (.aload_n 0, 1) := by decide +kernel
theorem dX5_pass_1 : decode cX5_pass 1 = .ok (.getfield 27, 3) := by decide +kernel
theorem dX5_pass_4 : decode cX5_pass 4 = .ok (.aload_n 0, 1) := by decide +kernel
theorem dX5_pass_5 : decode cX5_pass 5 = .ok (.getfield 19, 3) := by decide +kernel
theorem dX5_pass_8 : decode cX5_pass 8 = .ok (.if_icmp .ge 13, 3) := by decide +kernel
theorem dX5_pass_11 : decode cX5_pass 11 = .ok (.aload_n 0, 1) := by decide +kernel
theorem dX5_pass_12 : decode cX5_pass 12 = .ok (.dup, 1) := by decide +kernel
theorem dX5_pass_13 : decode cX5_pass 13 = .ok (.getfield 27, 3) := by decide +kernel
theorem dX5_pass_16 : decode cX5_pass 16 = .ok (.iconst 1, 1) := by decide +kernel
theorem dX5_pass_17 : decode cX5_pass 17 = .ok (.iadd, 1) := by decide +kernel
theorem dX5_pass_18 : decode cX5_pass 18 = .ok (.putfield 27, 3) := by decide +kernel
theorem dX5_pass_21 : decode cX5_pass 21 = .ok (.return_, 1) := by decide +kernel
theorem dX5_passIfNext_0 : decode cX5_passIfNext 0 = .ok (.aload_n 0, 1) := by decide +kernel
theorem dX5_passIfNext_1 : decode cX5_passIfNext 1 = .ok (.invokevirtual 30, 3) := by decide +kernel
theorem dX5_passIfNext_4 : decode cX5_passIfNext 4 = .ok (.iload_n 1, 1) := by decide +kernel
theorem dX5_passIfNext_5 : decode cX5_passIfNext 5 = .ok (.if_icmp .eq 5, 3) := by decide +kernel
theorem dX5_passIfNext_8 : decode cX5_passIfNext 8 = .ok (.iconst 0, 1) := by decide +kernel
theorem dX5_passIfNext_9 : decode cX5_passIfNext 9 = .ok (.ireturn, 1) := by decide +kernel
theorem dX5_passIfNext_10 : decode cX5_passIfNext 10 = .ok (.aload_n 0, 1) := by decide +kernel
theorem dX5_passIfNext_11 : decode cX5_passIfNext 11 = .ok (.invokevirtual 34, 3) := by decide +kernel
theorem dX5_passIfNext_14 : decode cX5_passIfNext 14 = .ok (.iconst 1, 1) := by decide +kernel
theorem dX5_passIfNext_15 : decode cX5_passIfNext 15 = .ok (.ireturn, 1) := by decide +kernel
theorem dX5_signsIn_0 : decode cX5_signsIn 0 = .ok (.iconst 0, 1) := by decide +kernel
theorem dX5_signsIn_1 : decode cX5_signsIn 1 = .ok (.istore_n 2, 1) := by decide +kernel
theorem dX5_signsIn_2 : decode cX5_signsIn 2 = .ok (.iload_n 2, 1) := by decide +kernel
theorem dX5_signsIn_3 : decode cX5_signsIn 3 = .ok (.bipush 8, 2) := by decide +kernel
theorem dX5_signsIn_5 : decode cX5_signsIn 5 = .ok (.if_icmp .ge 29, 3) := by decide +kernel
theorem dX5_signsIn_8 : decode cX5_signsIn 8 = .ok (.lload_n 0, 1) := by decide +kernel
theorem dX5_signsIn_9 : decode cX5_signsIn 9 = .ok (.iload_n 2, 1) := by decide +kernel
theorem dX5_signsIn_10 : decode cX5_signsIn 10 = .ok (.invokestatic 23, 3) := by decide +kernel
theorem dX5_signsIn_13 : decode cX5_signsIn 13 = .ok (.istore_n 3, 1) := by decide +kernel
theorem dX5_signsIn_14 : decode cX5_signsIn 14 = .ok (.iload_n 3, 1) := by decide +kernel
theorem dX5_signsIn_15 : decode cX5_signsIn 15 = .ok (.ifCond .ne 5, 3) := by decide +kernel
theorem dX5_signsIn_18 : decode cX5_signsIn 18 = .ok (.iload_n 2, 1) := by decide +kernel
theorem dX5_signsIn_19 : decode cX5_signsIn 19 = .ok (.ireturn, 1) := by decide +kernel
theorem dX5_signsIn_20 : decode cX5_signsIn 20 = .ok (.iload_n 3, 1) := by decide +kernel
theorem dX5_signsIn_21 : decode cX5_signsIn 21 = .ok (.bipush 127, 2) := by decide +kernel
theorem dX5_signsIn_23 : decode cX5_signsIn 23 = .ok (.if_icmp .le 5, 3) := by decide +kernel
theorem dX5_signsIn_26 : decode cX5_signsIn 26 = .ok (.iconst (-1), 1) := by decide +kernel
theorem dX5_signsIn_27 : decode cX5_signsIn 27 = .ok (.ireturn, 1) := by decide +kernel
theorem dX5_signsIn_28 : decode cX5_signsIn 28 = .ok (.iinc 2 1, 3) := by decide +kernel
theorem dX5_signsIn_31 : decode cX5_signsIn 31 = .ok (.goto (-29), 3) := by decide +kernel
theorem dX5_signsIn_34 : decode cX5_signsIn 34 = .ok (.bipush 8, 2) := by decide +kernel
theorem dX5_signsIn_36 : decode cX5_signsIn 36 = .ok (.ireturn, 1) := by decide +kernel
theorem dX5_signOf_0 : decode cX5_signOf 0 = .ok (.lload_n 0, 1) := by decide +kernel
theorem dX5_signOf_1 : decode cX5_signOf 1 = .ok (.bipush 8, 2) := by decide +kernel
theorem dX5_signOf_3 : decode cX5_signOf 3 = .ok (.iload_n 2, 1) := by decide +kernel
theorem dX5_signOf_4 : decode cX5_signOf 4 = .ok (.imul, 1) := by decide +kernel
theorem dX5_signOf_5 : decode cX5_signOf 5 = .ok (.lushr, 1) := by decide +kernel
theorem dX5_signOf_6 : decode cX5_signOf 6 = .ok (.l2i, 1) := by decide +kernel
theorem dX5_signOf_7 : decode cX5_signOf 7 = .ok (.sipush 255, 3) := by decide +kernel
theorem dX5_signOf_10 : decode cX5_signOf 10 = .ok (.iand, 1) := by decide +kernel
theorem dX5_signOf_11 : decode cX5_signOf 11 = .ok (.ireturn, 1) := by decide +kernel
theorem dX6_init_0 : decode cX6_init 0 = .ok (.aload_n 0, 1) := by decide +kernel
theorem dX6_init_1 : decode cX6_init 1 = .ok (.invokespecial 3, 3) := by decide +kernel
theorem dX6_init_4 : decode cX6_init 4 = .ok (.aload_n 0, 1) := by decide +kernel
theorem dX6_init_5 : decode cX6_init 5 = .ok (.bipush 41, 2) := by decide +kernel
theorem dX6_init_7 : decode cX6_init 7 = .ok (.anewarray 9, 3) := by decide +kernel
theorem dX6_init_10 : decode cX6_init 10 = .ok (.putfield 11, 3) := by decide +kernel
theorem dX6_init_13 : decode cX6_init 13 = .ok (.iconst 0, 1) := by decide +kernel
theorem dX6_init_14 : decode cX6_init 14 = .ok (.istore_n 1, 1) := by decide +kernel
theorem dX6_init_15 : decode cX6_init 15 = .ok (.iload_n 1, 1) := by decide +kernel
theorem dX6_init_16 : decode cX6_init 16 = .ok (.bipush 41, 2) := by decide +kernel
theorem dX6_init_18 : decode cX6_init 18 = .ok (.if_icmp .ge 22, 3) := by decide +kernel
theorem dX6_init_21 : decode cX6_init 21 = .ok (.aload_n 0, 1) := by decide +kernel
theorem dX6_init_22 : decode cX6_init 22 = .ok (.getfield 11, 3) := by decide +kernel
theorem dX6_init_25 : decode cX6_init 25 = .ok (.iload_n 1, 1) := by decide +kernel
theorem dX6_init_26 : decode cX6_init 26 = .ok (.new 9, 3) := by decide +kernel
theorem dX6_init_29 : decode cX6_init 29 = .ok (.dup, 1) := by decide +kernel
theorem dX6_init_30 : decode cX6_init 30 = .ok (.invokespecial 17, 3) := by decide +kernel
theorem dX6_init_33 : decode cX6_init 33 = .ok (.aastore, 1) := by decide +kernel
theorem dX6_init_34 : decode cX6_init 34 = .ok (.iinc 1 1, 3) := by decide +kernel
theorem dX6_init_37 : decode cX6_init 37 = .ok (.goto (-22), 3) := by decide +kernel
theorem dX6_init_40 : decode cX6_init 40 = .ok (.return_, 1) := by decide +kernel
theorem dX6_clear_0 : decode cX6_clear 0 = .ok (.aload_n 0, 1) := by decide +kernel
theorem dX6_clear_1 : decode cX6_clear 1 = .ok (.iconst 0, 1) := by decide +kernel
theorem dX6_clear_2 : decode cX6_clear 2 = .ok (.putfield 18, 3) := by decide +kernel
theorem dX6_clear_5 : decode cX6_clear 5 = .ok (.return_, 1) := by decide +kernel
theorem dX6_add_0 : decode cX6_add 0 = .ok (.aload_n 0, 1) := by decide +kernel
theorem dX6_add_1 : decode cX6_add 1 = .ok (.getfield 18, 3) := by decide +kernel
theorem dX6_add_4 : decode cX6_add 4 = .ok (.bipush 41, 2) := by decide +kernel
theorem dX6_add_6 : decode cX6_add 6 = .ok (.if_icmp .lt 13, 3) := by decide +kernel
theorem dX6_add_9 : decode cX6_add 9 = .ok (.new 22, 3) := by decide +kernel
theorem dX6_add_12 : decode cX6_add 12 = .ok (.dup, 1) := by decide +kernel
theorem dX6_add_13 : decode cX6_add 13 = .ok (.ldc 24, 2) := by decide +kernel
theorem dX6_add_15 : decode cX6_add 15 = .ok (.invokespecial 26, 3) := by decide +kernel
theorem dX6_add_18 : decode cX6_add 18 = .ok (.athrow, 1) := by decide +kernel
theorem dX6_add_19 : decode cX6_add 19 = .ok (.aload_n 0, 1) := by decide +kernel
theorem dX6_add_20 : decode cX6_add 20 = .ok (.getfield 11, 3) := by decide +kernel
theorem dX6_add_23 : decode cX6_add 23 = .ok (.aload_n 0, 1) := by decide +kernel
theorem dX6_add_24 : decode cX6_add 24 = .ok (.getfield 18, 3) := by decide +kernel
theorem dX6_add_27 : decode cX6_add 27 = .ok (.aaload, 1) := by decide +kernel
theorem dX6_add_28 : decode cX6_add 28 = .ok (.astore_n 1, 1) := by decide +kernel
theorem dX6_add_29 : decode cX6_add 29 = .ok (.aload_n 0, 1) := by decide +kernel
theorem dX6_add_30 : decode cX6_add 30 = .ok (.dup, 1) := by decide +kernel
theorem dX6_add_31 : decode cX6_add 31 = .ok (.getfield 18, 3) := by decide +kernel
theorem dX6_add_34 : decode cX6_add 34 = .ok (.iconst 1, 1) := by decide +kernel
theorem dX6_add_35 : decode cX6_add 35 = .ok (.iadd, 1) := by decide +kernel
theorem dX6_add_36 : decode cX6_add 36 = .ok (.putfield 18, 3) := by decide +kernel
theorem dX6_add_39 : decode cX6_add 39 = .ok (.aload_n 1, 1) := by decide +kernel
theorem dX6_add_40 : decode cX6_add 40 = .ok (.invokevirtual 29, 3) := by decide +kernel
theorem dX6_add_43 : decode cX6_add 43 = .ok (.aload_n 1, 1) := by decide +kernel
theorem dX6_add_44 : decode cX6_add 44 = .ok (.areturn, 1) := by decide +kernel
theorem dX6_arraysMade_0 : decode cX6_arraysMade 0 = .ok (.aload_n 1, 1) := by decide +kernel
theorem dX6_arraysMade_1 : decode cX6_arraysMade 1 = .ok (.invokevirtual 32, 3) := by decide +kernel
theorem dX6_arraysMade_4 : decode cX6_arraysMade 4 = .ok (.ifCond .eq 7, 3) := by decide +kernel
theorem dX6_arraysMade_7 : decode cX6_arraysMade 7 = .ok (.iconst 0, 1) := by decide +kernel
theorem dX6_arraysMade_8 : decode cX6_arraysMade 8 = .ok (.goto 4, 3) := by decide +kernel
theorem dX6_arraysMade_11 : decode cX6_arraysMade 11 = .ok (.iconst 1, 1) := by decide +kernel
theorem dX6_arraysMade_12 : decode cX6_arraysMade 12 = .ok (.istore_n 2, 1) := by decide +kernel
theorem dX6_arraysMade_13 : decode cX6_arraysMade 13 = .ok (.iconst 0, 1) := by decide +kernel
theorem dX6_arraysMade_14 : decode cX6_arraysMade 14 = .ok (.istore_n 3, 1) := by decide +kernel
theorem dX6_arraysMade_15 : decode cX6_arraysMade 15 = .ok (.iload_n 3, 1) := by decide +kernel
theorem dX6_arraysMade_16 : decode cX6_arraysMade 16 = .ok (.aload_n 0, 1) := by decide +kernel
theorem dX6_arraysMade_17 : decode cX6_arraysMade 17 = .ok (.getfield 18, 3) := by decide +kernel
theorem dX6_arraysMade_20 : decode cX6_arraysMade 20 = .ok (.if_icmp .ge 24, 3) := by decide +kernel
theorem dX6_arraysMade_23 : decode cX6_arraysMade 23 = .ok (.aload_n 0, 1) := by decide +kernel
theorem dX6_arraysMade_24 : decode cX6_arraysMade 24 = .ok (.getfield 11, 3) := by decide +kernel
theorem dX6_arraysMade_27 : decode cX6_arraysMade 27 = .ok (.iload_n 3, 1) := by decide +kernel
theorem dX6_arraysMade_28 : decode cX6_arraysMade 28 = .ok (.aaload, 1) := by decide +kernel
theorem dX6_arraysMade_29 : decode cX6_arraysMade 29 = .ok (.invokevirtual 32, 3) := by decide +kernel
theorem dX6_arraysMade_32 : decode cX6_arraysMade 32 = .ok (.ifCond .eq 6, 3) := by decide +kernel
theorem dX6_arraysMade_35 : decode cX6_arraysMade 35 = .ok (.iinc 2 1, 3) := by decide +kernel
theorem dX6_arraysMade_38 : decode cX6_arraysMade 38 = .ok (.iinc 3 1, 3) := by decide +kernel
theorem dX6_arraysMade_41 : decode cX6_arraysMade 41 = .ok (.goto (-26), 3) := by decide +kernel
theorem dX6_arraysMade_44 : decode cX6_arraysMade 44 = .ok (.iload_n 2, 1) := by decide +kernel
theorem dX6_arraysMade_45 : decode cX6_arraysMade 45 = .ok (.ireturn, 1) := by decide +kernel
theorem dX7_workOutAll_0 : decode cX7_workOutAll 0 = .ok (.aload_n 0, 1) := by decide +kernel
theorem dX7_workOutAll_1 : decode cX7_workOutAll 1 = .ok (.getfield 9, 3) := by decide +kernel
theorem dX7_workOutAll_4 : decode cX7_workOutAll 4 = .ok (.iconst 1, 1) := by decide +kernel
theorem dX7_workOutAll_5 : decode cX7_workOutAll 5 = .ok (.isub, 1) := by decide +kernel
theorem dX7_workOutAll_6 : decode cX7_workOutAll 6 = .ok (.istore_n 2, 1) := by decide +kernel
theorem dX7_workOutAll_7 : decode cX7_workOutAll 7 = .ok (.iload_n 2, 1) := by decide +kernel
theorem dX7_workOutAll_8 : decode cX7_workOutAll 8 = .ok (.ifCond .lt 19, 3) := by decide +kernel
theorem dX7_workOutAll_11 : decode cX7_workOutAll 11 = .ok (.aload_n 0, 1) := by decide +kernel
theorem dX7_workOutAll_12 : decode cX7_workOutAll 12 = .ok (.getfield 15, 3) := by decide +kernel
theorem dX7_workOutAll_15 : decode cX7_workOutAll 15 = .ok (.iload_n 2, 1) := by decide +kernel
theorem dX7_workOutAll_16 : decode cX7_workOutAll 16 = .ok (.aaload, 1) := by decide +kernel
theorem dX7_workOutAll_17 : decode cX7_workOutAll 17 = .ok (.aload_n 1, 1) := by decide +kernel
theorem dX7_workOutAll_18 : decode cX7_workOutAll 18 = .ok (.invokestatic 19, 3) := by decide +kernel
theorem dX7_workOutAll_21 : decode cX7_workOutAll 21 = .ok (.iinc 2 (-1), 3) := by decide +kernel
theorem dX7_workOutAll_24 : decode cX7_workOutAll 24 = .ok (.goto (-17), 3) := by decide +kernel
theorem dX7_workOutAll_27 : decode cX7_workOutAll 27 = .ok (.return_, 1) := by decide +kernel
theorem dX7_workOut_0 : decode cX7_workOut 0 = .ok (.aload_n 0, 1) := by decide +kernel
theorem dX7_workOut_1 : decode cX7_workOut 1 = .ok (.getfield 25, 3) := by decide +kernel
theorem dX7_workOut_4 : decode cX7_workOut 4 = .ok (.tableswitch 227 1 10 #[56, 227, 72, 82, 99, 116, 137, 158, 186, 210], 56) := by decide +kernel
theorem dX7_workOut_60 : decode cX7_workOut 60 = .ok (.aload_n 0, 1) := by decide +kernel
theorem dX7_workOut_61 : decode cX7_workOut 61 = .ok (.getfield 30, 3) := by decide +kernel
theorem dX7_workOut_64 : decode cX7_workOut 64 = .ok (.aload_n 1, 1) := by decide +kernel
theorem dX7_workOut_65 : decode cX7_workOut 65 = .ok (.aload_n 0, 1) := by decide +kernel
theorem dX7_workOut_66 : decode cX7_workOut 66 = .ok (.getfield 34, 3) := by decide +kernel
theorem dX7_workOut_69 : decode cX7_workOut 69 = .ok (.aaload, 1) := by decide +kernel
theorem dX7_workOut_70 : decode cX7_workOut 70 = .ok (.invokevirtual 37, 3) := by decide +kernel
theorem dX7_workOut_73 : decode cX7_workOut 73 = .ok (.goto 158, 3) := by decide +kernel
theorem dX7_workOut_76 : decode cX7_workOut 76 = .ok (.aload_n 0, 1) := by decide +kernel
theorem dX7_workOut_77 : decode cX7_workOut 77 = .ok (.getfield 30, 3) := by decide +kernel
theorem dX7_workOut_80 : decode cX7_workOut 80 = .ok (.invokestatic 43, 3) := by decide +kernel
theorem dX7_workOut_83 : decode cX7_workOut 83 = .ok (.goto 148, 3) := by decide +kernel
theorem dX7_workOut_86 : decode cX7_workOut 86 = .ok (.aload_n 0, 1) := by decide +kernel
theorem dX7_workOut_87 : decode cX7_workOut 87 = .ok (.getfield 46, 3) := by decide +kernel
theorem dX7_workOut_90 : decode cX7_workOut 90 = .ok (.getfield 30, 3) := by decide +kernel
theorem dX7_workOut_93 : decode cX7_workOut 93 = .ok (.aload_n 0, 1) := by decide +kernel
theorem dX7_workOut_94 : decode cX7_workOut 94 = .ok (.getfield 30, 3) := by decide +kernel
theorem dX7_workOut_97 : decode cX7_workOut 97 = .ok (.invokestatic 50, 3) := by decide +kernel
theorem dX7_workOut_100 : decode cX7_workOut 100 = .ok (.goto 131, 3) := by decide +kernel
theorem dX7_workOut_103 : decode cX7_workOut 103 = .ok (.aload_n 0, 1) := by decide +kernel
theorem dX7_workOut_104 : decode cX7_workOut 104 = .ok (.getfield 46, 3) := by decide +kernel
theorem dX7_workOut_107 : decode cX7_workOut 107 = .ok (.getfield 30, 3) := by decide +kernel
theorem dX7_workOut_110 : decode cX7_workOut 110 = .ok (.aload_n 0, 1) := by decide +kernel
theorem dX7_workOut_111 : decode cX7_workOut 111 = .ok (.getfield 30, 3) := by decide +kernel
theorem dX7_workOut_114 : decode cX7_workOut 114 = .ok (.invokestatic 54, 3) := by decide +kernel
theorem dX7_workOut_117 : decode cX7_workOut 117 = .ok (.goto 114, 3) := by decide +kernel
theorem dX7_workOut_120 : decode cX7_workOut 120 = .ok (.aload_n 0, 1) := by decide +kernel
theorem dX7_workOut_121 : decode cX7_workOut 121 = .ok (.getfield 57, 3) := by decide +kernel
theorem dX7_workOut_124 : decode cX7_workOut 124 = .ok (.aload_n 0, 1) := by decide +kernel
theorem dX7_workOut_125 : decode cX7_workOut 125 = .ok (.getfield 46, 3) := by decide +kernel
theorem dX7_workOut_128 : decode cX7_workOut 128 = .ok (.getfield 30, 3) := by decide +kernel
theorem dX7_workOut_131 : decode cX7_workOut 131 = .ok (.aload_n 0, 1) := by decide +kernel
theorem dX7_workOut_132 : decode cX7_workOut 132 = .ok (.getfield 30, 3) := by decide +kernel
theorem dX7_workOut_135 : decode cX7_workOut 135 = .ok (.invokestatic 61, 3) := by decide +kernel
theorem dX7_workOut_138 : decode cX7_workOut 138 = .ok (.goto 93, 3) := by decide +kernel
theorem dX7_workOut_141 : decode cX7_workOut 141 = .ok (.aload_n 0, 1) := by decide +kernel
theorem dX7_workOut_142 : decode cX7_workOut 142 = .ok (.getfield 57, 3) := by decide +kernel
theorem dX7_workOut_145 : decode cX7_workOut 145 = .ok (.aload_n 0, 1) := by decide +kernel
theorem dX7_workOut_146 : decode cX7_workOut 146 = .ok (.getfield 46, 3) := by decide +kernel
theorem dX7_workOut_149 : decode cX7_workOut 149 = .ok (.getfield 30, 3) := by decide +kernel
theorem dX7_workOut_152 : decode cX7_workOut 152 = .ok (.aload_n 0, 1) := by decide +kernel
theorem dX7_workOut_153 : decode cX7_workOut 153 = .ok (.getfield 30, 3) := by decide +kernel
theorem dX7_workOut_156 : decode cX7_workOut 156 = .ok (.invokestatic 65, 3) := by decide +kernel
theorem dX7_workOut_159 : decode cX7_workOut 159 = .ok (.goto 72, 3) := by decide +kernel
theorem dX7_workOut_162 : decode cX7_workOut 162 = .ok (.aload_n 0, 1) := by decide +kernel
theorem dX7_workOut_163 : decode cX7_workOut 163 = .ok (.getfield 57, 3) := by decide +kernel
theorem dX7_workOut_166 : decode cX7_workOut 166 = .ok (.aload_n 0, 1) := by decide +kernel
theorem dX7_workOut_167 : decode cX7_workOut 167 = .ok (.getfield 68, 3) := by decide +kernel
theorem dX7_workOut_170 : decode cX7_workOut 170 = .ok (.getfield 30, 3) := by decide +kernel
theorem dX7_workOut_173 : decode cX7_workOut 173 = .ok (.aload_n 0, 1) := by decide +kernel
theorem dX7_workOut_174 : decode cX7_workOut 174 = .ok (.getfield 46, 3) := by decide +kernel
theorem dX7_workOut_177 : decode cX7_workOut 177 = .ok (.getfield 30, 3) := by decide +kernel
theorem dX7_workOut_180 : decode cX7_workOut 180 = .ok (.aload_n 0, 1) := by decide +kernel
theorem dX7_workOut_181 : decode cX7_workOut 181 = .ok (.getfield 30, 3) := by decide +kernel
theorem dX7_workOut_184 : decode cX7_workOut 184 = .ok (.invokestatic 71, 3) := by decide +kernel
theorem dX7_workOut_187 : decode cX7_workOut 187 = .ok (.goto 44, 3) := by decide +kernel
theorem dX7_workOut_190 : decode cX7_workOut 190 = .ok (.aload_n 0, 1) := by decide +kernel
theorem dX7_workOut_191 : decode cX7_workOut 191 = .ok (.getfield 68, 3) := by decide +kernel
theorem dX7_workOut_194 : decode cX7_workOut 194 = .ok (.getfield 30, 3) := by decide +kernel
theorem dX7_workOut_197 : decode cX7_workOut 197 = .ok (.aload_n 0, 1) := by decide +kernel
theorem dX7_workOut_198 : decode cX7_workOut 198 = .ok (.getfield 46, 3) := by decide +kernel
theorem dX7_workOut_201 : decode cX7_workOut 201 = .ok (.getfield 30, 3) := by decide +kernel
theorem dX7_workOut_204 : decode cX7_workOut 204 = .ok (.aload_n 0, 1) := by decide +kernel
theorem dX7_workOut_205 : decode cX7_workOut 205 = .ok (.getfield 30, 3) := by decide +kernel
theorem dX7_workOut_208 : decode cX7_workOut 208 = .ok (.invokestatic 75, 3) := by decide +kernel
theorem dX7_workOut_211 : decode cX7_workOut 211 = .ok (.goto 20, 3) := by decide +kernel
theorem dX7_workOut_214 : decode cX7_workOut 214 = .ok (.aload_n 0, 1) := by decide +kernel
theorem dX7_workOut_215 : decode cX7_workOut 215 = .ok (.getfield 46, 3) := by decide +kernel
theorem dX7_workOut_218 : decode cX7_workOut 218 = .ok (.getfield 30, 3) := by decide +kernel
theorem dX7_workOut_221 : decode cX7_workOut 221 = .ok (.aload_n 0, 1) := by decide +kernel
theorem dX7_workOut_222 : decode cX7_workOut 222 = .ok (.getfield 30, 3) := by decide +kernel
theorem dX7_workOut_225 : decode cX7_workOut 225 = .ok (.invokestatic 79, 3) := by decide +kernel
theorem dX7_workOut_228 : decode cX7_workOut 228 = .ok (.goto 3, 3) := by decide +kernel
theorem dX7_workOut_231 : decode cX7_workOut 231 = .ok (.return_, 1) := by decide +kernel
theorem dX7_countUp_0 : decode cX7_countUp 0 = .ok (.aload_n 0, 1) := by decide +kernel
theorem dX7_countUp_1 : decode cX7_countUp 1 = .ok (.invokevirtual 82, 3) := by decide +kernel
theorem dX7_countUp_4 : decode cX7_countUp 4 = .ok (.istore_n 1, 1) := by decide +kernel
theorem dX7_countUp_5 : decode cX7_countUp 5 = .ok (.iconst 0, 1) := by decide +kernel
theorem dX7_countUp_6 : decode cX7_countUp 6 = .ok (.istore_n 2, 1) := by decide +kernel
theorem dX7_countUp_7 : decode cX7_countUp 7 = .ok (.iload_n 2, 1) := by decide +kernel
theorem dX7_countUp_8 : decode cX7_countUp 8 = .ok (.iload_n 1, 1) := by decide +kernel
theorem dX7_countUp_9 : decode cX7_countUp 9 = .ok (.if_icmp .ge 17, 3) := by decide +kernel
theorem dX7_countUp_12 : decode cX7_countUp 12 = .ok (.aload_n 0, 1) := by decide +kernel
theorem dX7_countUp_13 : decode cX7_countUp 13 = .ok (.getfield 85, 3) := by decide +kernel
theorem dX7_countUp_16 : decode cX7_countUp 16 = .ok (.iload_n 2, 1) := by decide +kernel
theorem dX7_countUp_17 : decode cX7_countUp 17 = .ok (.iload_n 2, 1) := by decide +kernel
theorem dX7_countUp_18 : decode cX7_countUp 18 = .ok (.i2d, 1) := by decide +kernel
theorem dX7_countUp_19 : decode cX7_countUp 19 = .ok (.dastore, 1) := by decide +kernel
theorem dX7_countUp_20 : decode cX7_countUp 20 = .ok (.iinc 2 1, 3) := by decide +kernel
theorem dX7_countUp_23 : decode cX7_countUp 23 = .ok (.goto (-16), 3) := by decide +kernel
theorem dX7_countUp_26 : decode cX7_countUp 26 = .ok (.return_, 1) := by decide +kernel
theorem dX7_negate_0 : decode cX7_negate 0 = .ok (.aload_n 1, 1) := by decide +kernel
theorem dX7_negate_1 : decode cX7_negate 1 = .ok (.invokevirtual 82, 3) := by decide +kernel
theorem dX7_negate_4 : decode cX7_negate 4 = .ok (.istore_n 2, 1) := by decide +kernel
theorem dX7_negate_5 : decode cX7_negate 5 = .ok (.iconst 0, 1) := by decide +kernel
theorem dX7_negate_6 : decode cX7_negate 6 = .ok (.istore_n 3, 1) := by decide +kernel
theorem dX7_negate_7 : decode cX7_negate 7 = .ok (.iload_n 3, 1) := by decide +kernel
theorem dX7_negate_8 : decode cX7_negate 8 = .ok (.iload_n 2, 1) := by decide +kernel
theorem dX7_negate_9 : decode cX7_negate 9 = .ok (.if_icmp .ge 22, 3) := by decide +kernel
theorem dX7_negate_12 : decode cX7_negate 12 = .ok (.aload_n 1, 1) := by decide +kernel
theorem dX7_negate_13 : decode cX7_negate 13 = .ok (.getfield 85, 3) := by decide +kernel
theorem dX7_negate_16 : decode cX7_negate 16 = .ok (.iload_n 3, 1) := by decide +kernel
theorem dX7_negate_17 : decode cX7_negate 17 = .ok (.aload_n 0, 1) := by decide +kernel
theorem dX7_negate_18 : decode cX7_negate 18 = .ok (.getfield 85, 3) := by decide +kernel
theorem dX7_negate_21 : decode cX7_negate 21 = .ok (.iload_n 3, 1) := by decide +kernel
theorem dX7_negate_22 : decode cX7_negate 22 = .ok (.daload, 1) := by decide +kernel
theorem dX7_negate_23 : decode cX7_negate 23 = .ok (.dneg, 1) := by decide +kernel
theorem dX7_negate_24 : decode cX7_negate 24 = .ok (.dastore, 1) := by decide +kernel
theorem dX7_negate_25 : decode cX7_negate 25 = .ok (.iinc 3 1, 3) := by decide +kernel
theorem dX7_negate_28 : decode cX7_negate 28 = .ok (.goto (-21), 3) := by decide +kernel
theorem dX7_negate_31 : decode cX7_negate 31 = .ok (.return_, 1) := by decide +kernel
theorem dX7_turn_0 : decode cX7_turn 0 = .ok (.aload_n 0, 1) := by decide +kernel
theorem dX7_turn_1 : decode cX7_turn 1 = .ok (.getfield 89, 3) := by decide +kernel
theorem dX7_turn_4 : decode cX7_turn 4 = .ok (.invokestatic 92, 3) := by decide +kernel
theorem dX7_turn_7 : decode cX7_turn 7 = .ok (.ifCond .ne 9, 3) := by decide +kernel
theorem dX7_turn_10 : decode cX7_turn 10 = .ok (.aload_n 1, 1) := by decide +kernel
theorem dX7_turn_11 : decode cX7_turn 11 = .ok (.aload_n 0, 1) := by decide +kernel
theorem dX7_turn_12 : decode cX7_turn 12 = .ok (.invokevirtual 37, 3) := by decide +kernel
theorem dX7_turn_15 : decode cX7_turn 15 = .ok (.return_, 1) := by decide +kernel
theorem dX7_turn_16 : decode cX7_turn 16 = .ok (.aload_n 0, 1) := by decide +kernel
theorem dX7_turn_17 : decode cX7_turn 17 = .ok (.getfield 89, 3) := by decide +kernel
theorem dX7_turn_20 : decode cX7_turn 20 = .ok (.invokestatic 98, 3) := by decide +kernel
theorem dX7_turn_23 : decode cX7_turn 23 = .ok (.istore_n 2, 1) := by decide +kernel
theorem dX7_turn_24 : decode cX7_turn 24 = .ok (.aload_n 0, 1) := by decide +kernel
theorem dX7_turn_25 : decode cX7_turn 25 = .ok (.getfield 89, 3) := by decide +kernel
theorem dX7_turn_28 : decode cX7_turn 28 = .ok (.invokestatic 102, 3) := by decide +kernel
theorem dX7_turn_31 : decode cX7_turn 31 = .ok (.istore_n 3, 1) := by decide +kernel
theorem dX7_turn_32 : decode cX7_turn 32 = .ok (.iconst 0, 1) := by decide +kernel
theorem dX7_turn_33 : decode cX7_turn 33 = .ok (.istore 4, 2) := by decide +kernel
theorem dX7_turn_35 : decode cX7_turn 35 = .ok (.iload 4, 2) := by decide +kernel
theorem dX7_turn_37 : decode cX7_turn 37 = .ok (.iload_n 2, 1) := by decide +kernel
theorem dX7_turn_38 : decode cX7_turn 38 = .ok (.if_icmp .ge 48, 3) := by decide +kernel
theorem dX7_turn_41 : decode cX7_turn 41 = .ok (.iconst 0, 1) := by decide +kernel
theorem dX7_turn_42 : decode cX7_turn 42 = .ok (.istore 5, 2) := by decide +kernel
theorem dX7_turn_44 : decode cX7_turn 44 = .ok (.iload 5, 2) := by decide +kernel
theorem dX7_turn_46 : decode cX7_turn 46 = .ok (.iload_n 3, 1) := by decide +kernel
theorem dX7_turn_47 : decode cX7_turn 47 = .ok (.if_icmp .ge 33, 3) := by decide +kernel
theorem dX7_turn_50 : decode cX7_turn 50 = .ok (.aload_n 1, 1) := by decide +kernel
theorem dX7_turn_51 : decode cX7_turn 51 = .ok (.getfield 85, 3) := by decide +kernel
theorem dX7_turn_54 : decode cX7_turn 54 = .ok (.iload 5, 2) := by decide +kernel
theorem dX7_turn_56 : decode cX7_turn 56 = .ok (.iload_n 2, 1) := by decide +kernel
theorem dX7_turn_57 : decode cX7_turn 57 = .ok (.imul, 1) := by decide +kernel
theorem dX7_turn_58 : decode cX7_turn 58 = .ok (.iload 4, 2) := by decide +kernel
theorem dX7_turn_60 : decode cX7_turn 60 = .ok (.iadd, 1) := by decide +kernel
theorem dX7_turn_61 : decode cX7_turn 61 = .ok (.aload_n 0, 1) := by decide +kernel
theorem dX7_turn_62 : decode cX7_turn 62 = .ok (.getfield 85, 3) := by decide +kernel
theorem dX7_turn_65 : decode cX7_turn 65 = .ok (.iload 4, 2) := by decide +kernel
theorem dX7_turn_67 : decode cX7_turn 67 = .ok (.iload_n 3, 1) := by decide +kernel
theorem dX7_turn_68 : decode cX7_turn 68 = .ok (.imul, 1) := by decide +kernel
theorem dX7_turn_69 : decode cX7_turn 69 = .ok (.iload 5, 2) := by decide +kernel
theorem dX7_turn_71 : decode cX7_turn 71 = .ok (.iadd, 1) := by decide +kernel
theorem dX7_turn_72 : decode cX7_turn 72 = .ok (.daload, 1) := by decide +kernel
theorem dX7_turn_73 : decode cX7_turn 73 = .ok (.dastore, 1) := by decide +kernel
theorem dX7_turn_74 : decode cX7_turn 74 = .ok (.iinc 5 1, 3) := by decide +kernel
theorem dX7_turn_77 : decode cX7_turn 77 = .ok (.goto (-33), 3) := by decide +kernel
theorem dX7_turn_80 : decode cX7_turn 80 = .ok (.iinc 4 1, 3) := by decide +kernel
theorem dX7_turn_83 : decode cX7_turn 83 = .ok (.goto (-48), 3) := by decide +kernel
theorem dX7_turn_86 : decode cX7_turn 86 = .ok (.return_, 1) := by decide +kernel
theorem dX7_reduce_0 : decode cX7_reduce 0 = .ok (.aload_n 1, 1) := by decide +kernel
theorem dX7_reduce_1 : decode cX7_reduce 1 = .ok (.getfield 89, 3) := by decide +kernel
theorem dX7_reduce_4 : decode cX7_reduce 4 = .ok (.invokestatic 98, 3) := by decide +kernel
theorem dX7_reduce_7 : decode cX7_reduce 7 = .ok (.istore_n 3, 1) := by decide +kernel
theorem dX7_reduce_8 : decode cX7_reduce 8 = .ok (.aload_n 1, 1) := by decide +kernel
theorem dX7_reduce_9 : decode cX7_reduce 9 = .ok (.getfield 89, 3) := by decide +kernel
theorem dX7_reduce_12 : decode cX7_reduce 12 = .ok (.invokestatic 102, 3) := by decide +kernel
theorem dX7_reduce_15 : decode cX7_reduce 15 = .ok (.istore 4, 2) := by decide +kernel
theorem dX7_reduce_17 : decode cX7_reduce 17 = .ok (.iconst 0, 1) := by decide +kernel
theorem dX7_reduce_18 : decode cX7_reduce 18 = .ok (.istore 5, 2) := by decide +kernel
theorem dX7_reduce_20 : decode cX7_reduce 20 = .ok (.iload 5, 2) := by decide +kernel
theorem dX7_reduce_22 : decode cX7_reduce 22 = .ok (.iload_n 3, 1) := by decide +kernel
theorem dX7_reduce_23 : decode cX7_reduce 23 = .ok (.if_icmp .ge 67, 3) := by decide +kernel
theorem dX7_reduce_26 : decode cX7_reduce 26 = .ok (.aload_n 1, 1) := by decide +kernel
theorem dX7_reduce_27 : decode cX7_reduce 27 = .ok (.getfield 85, 3) := by decide +kernel
theorem dX7_reduce_30 : decode cX7_reduce 30 = .ok (.iload 5, 2) := by decide +kernel
theorem dX7_reduce_32 : decode cX7_reduce 32 = .ok (.iload 4, 2) := by decide +kernel
theorem dX7_reduce_34 : decode cX7_reduce 34 = .ok (.imul, 1) := by decide +kernel
theorem dX7_reduce_35 : decode cX7_reduce 35 = .ok (.daload, 1) := by decide +kernel
theorem dX7_reduce_36 : decode cX7_reduce 36 = .ok (.dstore 6, 2) := by decide +kernel
theorem dX7_reduce_38 : decode cX7_reduce 38 = .ok (.iconst 1, 1) := by decide +kernel
theorem dX7_reduce_39 : decode cX7_reduce 39 = .ok (.istore 8, 2) := by decide +kernel
theorem dX7_reduce_41 : decode cX7_reduce 41 = .ok (.iload 8, 2) := by decide +kernel
theorem dX7_reduce_43 : decode cX7_reduce 43 = .ok (.iload 4, 2) := by decide +kernel
theorem dX7_reduce_45 : decode cX7_reduce 45 = .ok (.if_icmp .ge 30, 3) := by decide +kernel
theorem dX7_reduce_48 : decode cX7_reduce 48 = .ok (.iload_n 0, 1) := by decide +kernel
theorem dX7_reduce_49 : decode cX7_reduce 49 = .ok (.dload 6, 2) := by decide +kernel
theorem dX7_reduce_51 : decode cX7_reduce 51 = .ok (.aload_n 1, 1) := by decide +kernel
theorem dX7_reduce_52 : decode cX7_reduce 52 = .ok (.getfield 85, 3) := by decide +kernel
theorem dX7_reduce_55 : decode cX7_reduce 55 = .ok (.iload 5, 2) := by decide +kernel
theorem dX7_reduce_57 : decode cX7_reduce 57 = .ok (.iload 4, 2) := by decide +kernel
theorem dX7_reduce_59 : decode cX7_reduce 59 = .ok (.imul, 1) := by decide +kernel
theorem dX7_reduce_60 : decode cX7_reduce 60 = .ok (.iload 8, 2) := by decide +kernel
theorem dX7_reduce_62 : decode cX7_reduce 62 = .ok (.iadd, 1) := by decide +kernel
theorem dX7_reduce_63 : decode cX7_reduce 63 = .ok (.daload, 1) := by decide +kernel
theorem dX7_reduce_64 : decode cX7_reduce 64 = .ok (.invokestatic 105, 3) := by decide +kernel
theorem dX7_reduce_67 : decode cX7_reduce 67 = .ok (.dstore 6, 2) := by decide +kernel
theorem dX7_reduce_69 : decode cX7_reduce 69 = .ok (.iinc 8 1, 3) := by decide +kernel
theorem dX7_reduce_72 : decode cX7_reduce 72 = .ok (.goto (-31), 3) := by decide +kernel
theorem dX7_reduce_75 : decode cX7_reduce 75 = .ok (.aload_n 2, 1) := by decide +kernel
theorem dX7_reduce_76 : decode cX7_reduce 76 = .ok (.getfield 85, 3) := by decide +kernel
theorem dX7_reduce_79 : decode cX7_reduce 79 = .ok (.iload 5, 2) := by decide +kernel
theorem dX7_reduce_81 : decode cX7_reduce 81 = .ok (.dload 6, 2) := by decide +kernel
theorem dX7_reduce_83 : decode cX7_reduce 83 = .ok (.dastore, 1) := by decide +kernel
theorem dX7_reduce_84 : decode cX7_reduce 84 = .ok (.iinc 5 1, 3) := by decide +kernel
theorem dX7_reduce_87 : decode cX7_reduce 87 = .ok (.goto (-67), 3) := by decide +kernel
theorem dX7_reduce_90 : decode cX7_reduce 90 = .ok (.return_, 1) := by decide +kernel
theorem dX7_runAlong_0 : decode cX7_runAlong 0 = .ok (.aload_n 1, 1) := by decide +kernel
theorem dX7_runAlong_1 : decode cX7_runAlong 1 = .ok (.getfield 89, 3) := by decide +kernel
theorem dX7_runAlong_4 : decode cX7_runAlong 4 = .ok (.invokestatic 98, 3) := by decide +kernel
theorem dX7_runAlong_7 : decode cX7_runAlong 7 = .ok (.istore_n 3, 1) := by decide +kernel
theorem dX7_runAlong_8 : decode cX7_runAlong 8 = .ok (.aload_n 1, 1) := by decide +kernel
theorem dX7_runAlong_9 : decode cX7_runAlong 9 = .ok (.getfield 89, 3) := by decide +kernel
theorem dX7_runAlong_12 : decode cX7_runAlong 12 = .ok (.invokestatic 102, 3) := by decide +kernel
theorem dX7_runAlong_15 : decode cX7_runAlong 15 = .ok (.istore 4, 2) := by decide +kernel
theorem dX7_runAlong_17 : decode cX7_runAlong 17 = .ok (.iconst 0, 1) := by decide +kernel
theorem dX7_runAlong_18 : decode cX7_runAlong 18 = .ok (.istore 5, 2) := by decide +kernel
theorem dX7_runAlong_20 : decode cX7_runAlong 20 = .ok (.iload 5, 2) := by decide +kernel
theorem dX7_runAlong_22 : decode cX7_runAlong 22 = .ok (.iload_n 3, 1) := by decide +kernel
theorem dX7_runAlong_23 : decode cX7_runAlong 23 = .ok (.if_icmp .ge 85, 3) := by decide +kernel
theorem dX7_runAlong_26 : decode cX7_runAlong 26 = .ok (.aload_n 1, 1) := by decide +kernel
theorem dX7_runAlong_27 : decode cX7_runAlong 27 = .ok (.getfield 85, 3) := by decide +kernel
theorem dX7_runAlong_30 : decode cX7_runAlong 30 = .ok (.iload 5, 2) := by decide +kernel
theorem dX7_runAlong_32 : decode cX7_runAlong 32 = .ok (.iload 4, 2) := by decide +kernel
theorem dX7_runAlong_34 : decode cX7_runAlong 34 = .ok (.imul, 1) := by decide +kernel
theorem dX7_runAlong_35 : decode cX7_runAlong 35 = .ok (.daload, 1) := by decide +kernel
theorem dX7_runAlong_36 : decode cX7_runAlong 36 = .ok (.dstore 6, 2) := by decide +kernel
theorem dX7_runAlong_38 : decode cX7_runAlong 38 = .ok (.aload_n 2, 1) := by decide +kernel
theorem dX7_runAlong_39 : decode cX7_runAlong 39 = .ok (.getfield 85, 3) := by decide +kernel
theorem dX7_runAlong_42 : decode cX7_runAlong 42 = .ok (.iload 5, 2) := by decide +kernel
theorem dX7_runAlong_44 : decode cX7_runAlong 44 = .ok (.iload 4, 2) := by decide +kernel
theorem dX7_runAlong_46 : decode cX7_runAlong 46 = .ok (.imul, 1) := by decide +kernel
theorem dX7_runAlong_47 : decode cX7_runAlong 47 = .ok (.dload 6, 2) := by decide +kernel
theorem dX7_runAlong_49 : decode cX7_runAlong 49 = .ok (.dastore, 1) := by decide +kernel
theorem dX7_runAlong_50 : decode cX7_runAlong 50 = .ok (.iconst 1, 1) := by decide +kernel
theorem dX7_runAlong_51 : decode cX7_runAlong 51 = .ok (.istore 8, 2) := by decide +kernel
theorem dX7_runAlong_53 : decode cX7_runAlong 53 = .ok (.iload 8, 2) := by decide +kernel
theorem dX7_runAlong_55 : decode cX7_runAlong 55 = .ok (.iload 4, 2) := by decide +kernel
theorem dX7_runAlong_57 : decode cX7_runAlong 57 = .ok (.if_icmp .ge 45, 3) := by decide +kernel
theorem dX7_runAlong_60 : decode cX7_runAlong 60 = .ok (.iload_n 0, 1) := by decide +kernel
theorem dX7_runAlong_61 : decode cX7_runAlong 61 = .ok (.dload 6, 2) := by decide +kernel
theorem dX7_runAlong_63 : decode cX7_runAlong 63 = .ok (.aload_n 1, 1) := by decide +kernel
theorem dX7_runAlong_64 : decode cX7_runAlong 64 = .ok (.getfield 85, 3) := by decide +kernel
theorem dX7_runAlong_67 : decode cX7_runAlong 67 = .ok (.iload 5, 2) := by decide +kernel
theorem dX7_runAlong_69 : decode cX7_runAlong 69 = .ok (.iload 4, 2) := by decide +kernel
theorem dX7_runAlong_71 : decode cX7_runAlong 71 = .ok (.imul, 1) := by decide +kernel
theorem dX7_runAlong_72 : decode cX7_runAlong 72 = .ok (.iload 8, 2) := by decide +kernel
theorem dX7_runAlong_74 : decode cX7_runAlong 74 = .ok (.iadd, 1) := by decide +kernel
theorem dX7_runAlong_75 : decode cX7_runAlong 75 = .ok (.daload, 1) := by decide +kernel
theorem dX7_runAlong_76 : decode cX7_runAlong 76 = .ok (.invokestatic 105, 3) := by decide +kernel
theorem dX7_runAlong_79 : decode cX7_runAlong 79 = .ok (.dstore 6, 2) := by decide +kernel
theorem dX7_runAlong_81 : decode cX7_runAlong 81 = .ok (.aload_n 2, 1) := by decide +kernel
theorem dX7_runAlong_82 : decode cX7_runAlong 82 = .ok (.getfield 85, 3) := by decide +kernel
theorem dX7_runAlong_85 : decode cX7_runAlong 85 = .ok (.iload 5, 2) := by decide +kernel
theorem dX7_runAlong_87 : decode cX7_runAlong 87 = .ok (.iload 4, 2) := by decide +kernel
theorem dX7_runAlong_89 : decode cX7_runAlong 89 = .ok (.imul, 1) := by decide +kernel
theorem dX7_runAlong_90 : decode cX7_runAlong 90 = .ok (.iload 8, 2) := by decide +kernel
theorem dX7_runAlong_92 : decode cX7_runAlong 92 = .ok (.iadd, 1) := by decide +kernel
theorem dX7_runAlong_93 : decode cX7_runAlong 93 = .ok (.dload 6, 2) := by decide +kernel
theorem dX7_runAlong_95 : decode cX7_runAlong 95 = .ok (.dastore, 1) := by decide +kernel
theorem dX7_runAlong_96 : decode cX7_runAlong 96 = .ok (.iinc 8 1, 3) := by decide +kernel
theorem dX7_runAlong_99 : decode cX7_runAlong 99 = .ok (.goto (-46), 3) := by decide +kernel
theorem dX7_runAlong_102 : decode cX7_runAlong 102 = .ok (.iinc 5 1, 3) := by decide +kernel
theorem dX7_runAlong_105 : decode cX7_runAlong 105 = .ok (.goto (-85), 3) := by decide +kernel
theorem dX7_runAlong_108 : decode cX7_runAlong 108 = .ok (.return_, 1) := by decide +kernel
theorem dX7_combineEach_0 : decode cX7_combineEach 0 = .ok (.aload_n 3, 1) := by decide +kernel
theorem dX7_combineEach_1 : decode cX7_combineEach 1 = .ok (.invokevirtual 82, 3) := by decide +kernel
theorem dX7_combineEach_4 : decode cX7_combineEach 4 = .ok (.istore 4, 2) := by decide +kernel
theorem dX7_combineEach_6 : decode cX7_combineEach 6 = .ok (.iconst 0, 1) := by decide +kernel
theorem dX7_combineEach_7 : decode cX7_combineEach 7 = .ok (.istore 5, 2) := by decide +kernel
theorem dX7_combineEach_9 : decode cX7_combineEach 9 = .ok (.iload 5, 2) := by decide +kernel
theorem dX7_combineEach_11 : decode cX7_combineEach 11 = .ok (.iload 4, 2) := by decide +kernel
theorem dX7_combineEach_13 : decode cX7_combineEach 13 = .ok (.if_icmp .ge 32, 3) := by decide +kernel
theorem dX7_combineEach_16 : decode cX7_combineEach 16 = .ok (.aload_n 3, 1) := by decide +kernel
theorem dX7_combineEach_17 : decode cX7_combineEach 17 = .ok (.getfield 85, 3) := by decide +kernel
theorem dX7_combineEach_20 : decode cX7_combineEach 20 = .ok (.iload 5, 2) := by decide +kernel
theorem dX7_combineEach_22 : decode cX7_combineEach 22 = .ok (.iload_n 0, 1) := by decide +kernel
theorem dX7_combineEach_23 : decode cX7_combineEach 23 = .ok (.aload_n 1, 1) := by decide +kernel
theorem dX7_combineEach_24 : decode cX7_combineEach 24 = .ok (.iload 5, 2) := by decide +kernel
theorem dX7_combineEach_26 : decode cX7_combineEach 26 = .ok (.invokestatic 109, 3) := by decide +kernel
theorem dX7_combineEach_29 : decode cX7_combineEach 29 = .ok (.aload_n 2, 1) := by decide +kernel
theorem dX7_combineEach_30 : decode cX7_combineEach 30 = .ok (.iload 5, 2) := by decide +kernel
theorem dX7_combineEach_32 : decode cX7_combineEach 32 = .ok (.invokestatic 109, 3) := by decide +kernel
theorem dX7_combineEach_35 : decode cX7_combineEach 35 = .ok (.invokestatic 105, 3) := by decide +kernel
theorem dX7_combineEach_38 : decode cX7_combineEach 38 = .ok (.dastore, 1) := by decide +kernel
theorem dX7_combineEach_39 : decode cX7_combineEach 39 = .ok (.iinc 5 1, 3) := by decide +kernel
theorem dX7_combineEach_42 : decode cX7_combineEach 42 = .ok (.goto (-33), 3) := by decide +kernel
theorem dX7_combineEach_45 : decode cX7_combineEach 45 = .ok (.return_, 1) := by decide +kernel
theorem dX7_elementFor_0 : decode cX7_elementFor 0 = .ok (.aload_n 0, 1) := by decide +kernel
theorem dX7_elementFor_1 : decode cX7_elementFor 1 = .ok (.getfield 85, 3) := by decide +kernel
theorem dX7_elementFor_4 : decode cX7_elementFor 4 = .ok (.aload_n 0, 1) := by decide +kernel
theorem dX7_elementFor_5 : decode cX7_elementFor 5 = .ok (.getfield 89, 3) := by decide +kernel
theorem dX7_elementFor_8 : decode cX7_elementFor 8 = .ok (.ifCond .ne 7, 3) := by decide +kernel
theorem dX7_elementFor_11 : decode cX7_elementFor 11 = .ok (.iconst 0, 1) := by decide +kernel
theorem dX7_elementFor_12 : decode cX7_elementFor 12 = .ok (.goto 4, 3) := by decide +kernel
theorem dX7_elementFor_15 : decode cX7_elementFor 15 = .ok (.iload_n 1, 1) := by decide +kernel
theorem dX7_elementFor_16 : decode cX7_elementFor 16 = .ok (.daload, 1) := by decide +kernel
theorem dX7_elementFor_17 : decode cX7_elementFor 17 = .ok (.dreturn, 1) := by decide +kernel
theorem dX7_join_0 : decode cX7_join 0 = .ok (.aload_n 0, 1) := by decide +kernel
theorem dX7_join_1 : decode cX7_join 1 = .ok (.invokevirtual 82, 3) := by decide +kernel
theorem dX7_join_4 : decode cX7_join 4 = .ok (.istore_n 3, 1) := by decide +kernel
theorem dX7_join_5 : decode cX7_join 5 = .ok (.aload_n 2, 1) := by decide +kernel
theorem dX7_join_6 : decode cX7_join 6 = .ok (.invokevirtual 82, 3) := by decide +kernel
theorem dX7_join_9 : decode cX7_join 9 = .ok (.istore 4, 2) := by decide +kernel
theorem dX7_join_11 : decode cX7_join 11 = .ok (.iconst 0, 1) := by decide +kernel
theorem dX7_join_12 : decode cX7_join 12 = .ok (.istore 5, 2) := by decide +kernel
theorem dX7_join_14 : decode cX7_join 14 = .ok (.iload 5, 2) := by decide +kernel
theorem dX7_join_16 : decode cX7_join 16 = .ok (.iload 4, 2) := by decide +kernel
theorem dX7_join_18 : decode cX7_join 18 = .ok (.if_icmp .ge 41, 3) := by decide +kernel
theorem dX7_join_21 : decode cX7_join 21 = .ok (.aload_n 2, 1) := by decide +kernel
theorem dX7_join_22 : decode cX7_join 22 = .ok (.getfield 85, 3) := by decide +kernel
theorem dX7_join_25 : decode cX7_join 25 = .ok (.iload 5, 2) := by decide +kernel
theorem dX7_join_27 : decode cX7_join 27 = .ok (.iload 5, 2) := by decide +kernel
theorem dX7_join_29 : decode cX7_join 29 = .ok (.iload_n 3, 1) := by decide +kernel
theorem dX7_join_30 : decode cX7_join 30 = .ok (.if_icmp .ge 13, 3) := by decide +kernel
theorem dX7_join_33 : decode cX7_join 33 = .ok (.aload_n 0, 1) := by decide +kernel
theorem dX7_join_34 : decode cX7_join 34 = .ok (.getfield 85, 3) := by decide +kernel
theorem dX7_join_37 : decode cX7_join 37 = .ok (.iload 5, 2) := by decide +kernel
theorem dX7_join_39 : decode cX7_join 39 = .ok (.daload, 1) := by decide +kernel
theorem dX7_join_40 : decode cX7_join 40 = .ok (.goto 12, 3) := by decide +kernel
theorem dX7_join_43 : decode cX7_join 43 = .ok (.aload_n 1, 1) := by decide +kernel
theorem dX7_join_44 : decode cX7_join 44 = .ok (.getfield 85, 3) := by decide +kernel
theorem dX7_join_47 : decode cX7_join 47 = .ok (.iload 5, 2) := by decide +kernel
theorem dX7_join_49 : decode cX7_join 49 = .ok (.iload_n 3, 1) := by decide +kernel
theorem dX7_join_50 : decode cX7_join 50 = .ok (.isub, 1) := by decide +kernel
theorem dX7_join_51 : decode cX7_join 51 = .ok (.daload, 1) := by decide +kernel
theorem dX7_join_52 : decode cX7_join 52 = .ok (.dastore, 1) := by decide +kernel
theorem dX7_join_53 : decode cX7_join 53 = .ok (.iinc 5 1, 3) := by decide +kernel
theorem dX7_join_56 : decode cX7_join 56 = .ok (.goto (-42), 3) := by decide +kernel
theorem dX7_join_59 : decode cX7_join 59 = .ok (.return_, 1) := by decide +kernel
theorem dX7_fillAnew_0 : decode cX7_fillAnew 0 = .ok (.aload_n 1, 1) := by decide +kernel
theorem dX7_fillAnew_1 : decode cX7_fillAnew 1 = .ok (.invokevirtual 82, 3) := by decide +kernel
theorem dX7_fillAnew_4 : decode cX7_fillAnew 4 = .ok (.istore_n 2, 1) := by decide +kernel
theorem dX7_fillAnew_5 : decode cX7_fillAnew 5 = .ok (.aload_n 0, 1) := by decide +kernel
theorem dX7_fillAnew_6 : decode cX7_fillAnew 6 = .ok (.invokevirtual 82, 3) := by decide +kernel
theorem dX7_fillAnew_9 : decode cX7_fillAnew 9 = .ok (.iconst 1, 1) := by decide +kernel
theorem dX7_fillAnew_10 : decode cX7_fillAnew 10 = .ok (.isub, 1) := by decide +kernel
theorem dX7_fillAnew_11 : decode cX7_fillAnew 11 = .ok (.istore_n 3, 1) := by decide +kernel
theorem dX7_fillAnew_12 : decode cX7_fillAnew 12 = .ok (.iconst 0, 1) := by decide +kernel
theorem dX7_fillAnew_13 : decode cX7_fillAnew 13 = .ok (.istore 4, 2) := by decide +kernel
theorem dX7_fillAnew_15 : decode cX7_fillAnew 15 = .ok (.iconst 0, 1) := by decide +kernel
theorem dX7_fillAnew_16 : decode cX7_fillAnew 16 = .ok (.istore 5, 2) := by decide +kernel
theorem dX7_fillAnew_18 : decode cX7_fillAnew 18 = .ok (.iload 5, 2) := by decide +kernel
theorem dX7_fillAnew_20 : decode cX7_fillAnew 20 = .ok (.iload_n 2, 1) := by decide +kernel
theorem dX7_fillAnew_21 : decode cX7_fillAnew 21 = .ok (.if_icmp .ge 39, 3) := by decide +kernel
theorem dX7_fillAnew_24 : decode cX7_fillAnew 24 = .ok (.aload_n 1, 1) := by decide +kernel
theorem dX7_fillAnew_25 : decode cX7_fillAnew 25 = .ok (.getfield 85, 3) := by decide +kernel
theorem dX7_fillAnew_28 : decode cX7_fillAnew 28 = .ok (.iload 5, 2) := by decide +kernel
theorem dX7_fillAnew_30 : decode cX7_fillAnew 30 = .ok (.aload_n 0, 1) := by decide +kernel
theorem dX7_fillAnew_31 : decode cX7_fillAnew 31 = .ok (.getfield 85, 3) := by decide +kernel
theorem dX7_fillAnew_34 : decode cX7_fillAnew 34 = .ok (.iload 4, 2) := by decide +kernel
theorem dX7_fillAnew_36 : decode cX7_fillAnew 36 = .ok (.daload, 1) := by decide +kernel
theorem dX7_fillAnew_37 : decode cX7_fillAnew 37 = .ok (.dastore, 1) := by decide +kernel
theorem dX7_fillAnew_38 : decode cX7_fillAnew 38 = .ok (.iload 4, 2) := by decide +kernel
theorem dX7_fillAnew_40 : decode cX7_fillAnew 40 = .ok (.iload_n 3, 1) := by decide +kernel
theorem dX7_fillAnew_41 : decode cX7_fillAnew 41 = .ok (.if_icmp .ge 10, 3) := by decide +kernel
theorem dX7_fillAnew_44 : decode cX7_fillAnew 44 = .ok (.iload 4, 2) := by decide +kernel
theorem dX7_fillAnew_46 : decode cX7_fillAnew 46 = .ok (.iconst 1, 1) := by decide +kernel
theorem dX7_fillAnew_47 : decode cX7_fillAnew 47 = .ok (.iadd, 1) := by decide +kernel
theorem dX7_fillAnew_48 : decode cX7_fillAnew 48 = .ok (.goto 4, 3) := by decide +kernel
theorem dX7_fillAnew_51 : decode cX7_fillAnew 51 = .ok (.iconst 0, 1) := by decide +kernel
theorem dX7_fillAnew_52 : decode cX7_fillAnew 52 = .ok (.istore 4, 2) := by decide +kernel
theorem dX7_fillAnew_54 : decode cX7_fillAnew 54 = .ok (.iinc 5 1, 3) := by decide +kernel
theorem dX7_fillAnew_57 : decode cX7_fillAnew 57 = .ok (.goto (-39), 3) := by decide +kernel
theorem dX7_fillAnew_60 : decode cX7_fillAnew 60 = .ok (.return_, 1) := by decide +kernel
theorem dX7_combined_0 : decode cX7_combined 0 = .ok (.iload_n 0, 1) := by decide +kernel
theorem dX7_combined_1 : decode cX7_combined 1 = .ok (.dload_n 1, 1) := by decide +kernel
theorem dX7_combined_2 : decode cX7_combined 2 = .ok (.dload_n 3, 1) := by decide +kernel
theorem dX7_combined_3 : decode cX7_combined 3 = .ok (.invokestatic 113, 3) := by decide +kernel
theorem dX7_combined_6 : decode cX7_combined 6 = .ok (.dstore 5, 2) := by decide +kernel
theorem dX7_combined_8 : decode cX7_combined 8 = .ok (.dload 5, 2) := by decide +kernel
theorem dX7_combined_10 : decode cX7_combined 10 = .ok (.invokestatic 116, 3) := by decide +kernel
theorem dX7_combined_13 : decode cX7_combined 13 = .ok (.ifCond .ne 13, 3) := by decide +kernel
theorem dX7_combined_16 : decode cX7_combined 16 = .ok (.new 120, 3) := by decide +kernel
theorem dX7_combined_19 : decode cX7_combined 19 = .ok (.dup, 1) := by decide +kernel
theorem dX7_combined_20 : decode cX7_combined 20 = .ok (.ldc 122, 2) := by decide +kernel
theorem dX7_combined_22 : decode cX7_combined 22 = .ok (.invokespecial 124, 3) := by decide +kernel
theorem dX7_combined_25 : decode cX7_combined 25 = .ok (.athrow, 1) := by decide +kernel
theorem dX7_combined_26 : decode cX7_combined 26 = .ok (.dload 5, 2) := by decide +kernel
theorem dX7_combined_28 : decode cX7_combined 28 = .ok (.dreturn, 1) := by decide +kernel
theorem dX7_combinedFreely_0 : decode cX7_combinedFreely 0 = .ok (.iload_n 0, 1) := by decide +kernel
theorem dX7_combinedFreely_1 : decode cX7_combinedFreely 1 = .ok (.tableswitch 175 38 62 #[163, 175, 175, 175, 123, 115, 175, 119, 175, 175, 175, 175, 175, 175, 175, 175, 175, 175, 175, 175, 175, 175, 127, 151, 139], 115) := by decide +kernel
theorem dX7_combinedFreely_116 : decode cX7_combinedFreely 116 = .ok (.dload_n 1, 1) := by decide +kernel
theorem dX7_combinedFreely_117 : decode cX7_combinedFreely 117 = .ok (.dload_n 3, 1) := by decide +kernel
theorem dX7_combinedFreely_118 : decode cX7_combinedFreely 118 = .ok (.dadd, 1) := by decide +kernel
theorem dX7_combinedFreely_119 : decode cX7_combinedFreely 119 = .ok (.dreturn, 1) := by decide +kernel
theorem dX7_combinedFreely_120 : decode cX7_combinedFreely 120 = .ok (.dload_n 1, 1) := by decide +kernel
theorem dX7_combinedFreely_121 : decode cX7_combinedFreely 121 = .ok (.dload_n 3, 1) := by decide +kernel
theorem dX7_combinedFreely_122 : decode cX7_combinedFreely 122 = .ok (.dsub, 1) := by decide +kernel
theorem dX7_combinedFreely_123 : decode cX7_combinedFreely 123 = .ok (.dreturn, 1) := by decide +kernel
theorem dX7_combinedFreely_124 : decode cX7_combinedFreely 124 = .ok (.dload_n 1, 1) := by decide +kernel
theorem dX7_combinedFreely_125 : decode cX7_combinedFreely 125 = .ok (.dload_n 3, 1) := by decide +kernel
theorem dX7_combinedFreely_126 : decode cX7_combinedFreely 126 = .ok (.dmul, 1) := by decide +kernel
theorem dX7_combinedFreely_127 : decode cX7_combinedFreely 127 = .ok (.dreturn, 1) := by decide +kernel
theorem dX7_combinedFreely_128 : decode cX7_combinedFreely 128 = .ok (.dload_n 1, 1) := by decide +kernel
theorem dX7_combinedFreely_129 : decode cX7_combinedFreely 129 = .ok (.dload_n 3, 1) := by decide +kernel
theorem dX7_combinedFreely_130 : decode cX7_combinedFreely 130 = .ok (.dcmp .g, 1) := by decide +kernel
theorem dX7_combinedFreely_131 : decode cX7_combinedFreely 131 = .ok (.ifCond .ge 7, 3) := by decide +kernel
theorem dX7_combinedFreely_134 : decode cX7_combinedFreely 134 = .ok (.dconst 1, 1) := by decide +kernel
theorem dX7_combinedFreely_135 : decode cX7_combinedFreely 135 = .ok (.goto 4, 3) := by decide +kernel
theorem dX7_combinedFreely_138 : decode cX7_combinedFreely 138 = .ok (.dconst 0, 1) := by decide +kernel
theorem dX7_combinedFreely_139 : decode cX7_combinedFreely 139 = .ok (.dreturn, 1) := by decide +kernel
theorem dX7_combinedFreely_140 : decode cX7_combinedFreely 140 = .ok (.dload_n 1, 1) := by decide +kernel
theorem dX7_combinedFreely_141 : decode cX7_combinedFreely 141 = .ok (.dload_n 3, 1) := by decide +kernel
theorem dX7_combinedFreely_142 : decode cX7_combinedFreely 142 = .ok (.dcmp .l, 1) := by decide +kernel
theorem dX7_combinedFreely_143 : decode cX7_combinedFreely 143 = .ok (.ifCond .le 7, 3) := by decide +kernel
theorem dX7_combinedFreely_146 : decode cX7_combinedFreely 146 = .ok (.dconst 1, 1) := by decide +kernel
theorem dX7_combinedFreely_147 : decode cX7_combinedFreely 147 = .ok (.goto 4, 3) := by decide +kernel
theorem dX7_combinedFreely_150 : decode cX7_combinedFreely 150 = .ok (.dconst 0, 1) := by decide +kernel
theorem dX7_combinedFreely_151 : decode cX7_combinedFreely 151 = .ok (.dreturn, 1) := by decide +kernel
theorem dX7_combinedFreely_152 : decode cX7_combinedFreely 152 = .ok (.dload_n 1, 1) := by decide +kernel
theorem dX7_combinedFreely_153 : decode cX7_combinedFreely 153 = .ok (.dload_n 3, 1) := by decide +kernel
theorem dX7_combinedFreely_154 : decode cX7_combinedFreely 154 = .ok (.dcmp .l, 1) := by decide +kernel
theorem dX7_combinedFreely_155 : decode cX7_combinedFreely 155 = .ok (.ifCond .ne 7, 3) := by decide +kernel
theorem dX7_combinedFreely_158 : decode cX7_combinedFreely 158 = .ok (.dconst 1, 1) := by decide +kernel
theorem dX7_combinedFreely_159 : decode cX7_combinedFreely 159 = .ok (.goto 4, 3) := by decide +kernel
theorem dX7_combinedFreely_162 : decode cX7_combinedFreely 162 = .ok (.dconst 0, 1) := by decide +kernel
theorem dX7_combinedFreely_163 : decode cX7_combinedFreely 163 = .ok (.dreturn, 1) := by decide +kernel
theorem dX7_combinedFreely_164 : decode cX7_combinedFreely 164 = .ok (.dload_n 1, 1) := by decide +kernel
theorem dX7_combinedFreely_165 : decode cX7_combinedFreely 165 = .ok (.dload_n 3, 1) := by decide +kernel
theorem dX7_combinedFreely_166 : decode cX7_combinedFreely 166 = .ok (.dcmp .g, 1) := by decide +kernel
theorem dX7_combinedFreely_167 : decode cX7_combinedFreely 167 = .ok (.ifCond .ge 7, 3) := by decide +kernel
theorem dX7_combinedFreely_170 : decode cX7_combinedFreely 170 = .ok (.dload_n 1, 1) := by decide +kernel
theorem dX7_combinedFreely_171 : decode cX7_combinedFreely 171 = .ok (.goto 4, 3) := by decide +kernel
theorem dX7_combinedFreely_174 : decode cX7_combinedFreely 174 = .ok (.dload_n 3, 1) := by decide +kernel
theorem dX7_combinedFreely_175 : decode cX7_combinedFreely 175 = .ok (.dreturn, 1) := by decide +kernel
theorem dX7_combinedFreely_176 : decode cX7_combinedFreely 176 = .ok (.dload_n 1, 1) := by decide +kernel
theorem dX7_combinedFreely_177 : decode cX7_combinedFreely 177 = .ok (.dload_n 3, 1) := by decide +kernel
theorem dX7_combinedFreely_178 : decode cX7_combinedFreely 178 = .ok (.dcmp .l, 1) := by decide +kernel
theorem dX7_combinedFreely_179 : decode cX7_combinedFreely 179 = .ok (.ifCond .le 7, 3) := by decide +kernel
theorem dX7_combinedFreely_182 : decode cX7_combinedFreely 182 = .ok (.dload_n 1, 1) := by decide +kernel
theorem dX7_combinedFreely_183 : decode cX7_combinedFreely 183 = .ok (.goto 4, 3) := by decide +kernel
theorem dX7_combinedFreely_186 : decode cX7_combinedFreely 186 = .ok (.dload_n 3, 1) := by decide +kernel
theorem dX7_combinedFreely_187 : decode cX7_combinedFreely 187 = .ok (.dreturn, 1) := by decide +kernel
theorem dX8_init_0 : decode cX8_init 0 = .ok (.aload_n 0, 1) := by decide +kernel
theorem dX8_init_1 : decode cX8_init 1 = .ok (.invokespecial 3, 3) := by decide +kernel
theorem dX8_init_4 : decode cX8_init 4 = .ok (.aload_n 0, 1) := by decide +kernel
theorem dX8_init_5 : decode cX8_init 5 = .ok (.bipush 8, 2) := by decide +kernel
theorem dX8_init_7 : decode cX8_init 7 = .ok (.anewarray 9, 3) := by decide +kernel
theorem dX8_init_10 : decode cX8_init 10 = .ok (.putfield 11, 3) := by decide +kernel
theorem dX8_init_13 : decode cX8_init 13 = .ok (.iconst 0, 1) := by decide +kernel
theorem dX8_init_14 : decode cX8_init 14 = .ok (.istore_n 1, 1) := by decide +kernel
theorem dX8_init_15 : decode cX8_init 15 = .ok (.iload_n 1, 1) := by decide +kernel
theorem dX8_init_16 : decode cX8_init 16 = .ok (.bipush 8, 2) := by decide +kernel
theorem dX8_init_18 : decode cX8_init 18 = .ok (.if_icmp .ge 22, 3) := by decide +kernel
theorem dX8_init_21 : decode cX8_init 21 = .ok (.aload_n 0, 1) := by decide +kernel
theorem dX8_init_22 : decode cX8_init 22 = .ok (.getfield 11, 3) := by decide +kernel
theorem dX8_init_25 : decode cX8_init 25 = .ok (.iload_n 1, 1) := by decide +kernel
theorem dX8_init_26 : decode cX8_init 26 = .ok (.new 9, 3) := by decide +kernel
theorem dX8_init_29 : decode cX8_init 29 = .ok (.dup, 1) := by decide +kernel
theorem dX8_init_30 : decode cX8_init 30 = .ok (.invokespecial 15, 3) := by decide +kernel
theorem dX8_init_33 : decode cX8_init 33 = .ok (.aastore, 1) := by decide +kernel
theorem dX8_init_34 : decode cX8_init 34 = .ok (.iinc 1 1, 3) := by decide +kernel
theorem dX8_init_37 : decode cX8_init 37 = .ok (.goto (-22), 3) := by decide +kernel
theorem dX8_init_40 : decode cX8_init 40 = .ok (.aload_n 0, 1) := by decide +kernel
theorem dX8_init_41 : decode cX8_init 41 = .ok (.new 16, 3) := by decide +kernel
theorem dX8_init_44 : decode cX8_init 44 = .ok (.dup, 1) := by decide +kernel
theorem dX8_init_45 : decode cX8_init 45 = .ok (.invokespecial 18, 3) := by decide +kernel
theorem dX8_init_48 : decode cX8_init 48 = .ok (.putfield 19, 3) := by decide +kernel
theorem dX8_init_51 : decode cX8_init 51 = .ok (.aload_n 0, 1) := by decide +kernel
theorem dX8_init_52 : decode cX8_init 52 = .ok (.new 23, 3) := by decide +kernel
theorem dX8_init_55 : decode cX8_init 55 = .ok (.dup, 1) := by decide +kernel
theorem dX8_init_56 : decode cX8_init 56 = .ok (.invokespecial 25, 3) := by decide +kernel
theorem dX8_init_59 : decode cX8_init 59 = .ok (.putfield 26, 3) := by decide +kernel
theorem dX8_init_62 : decode cX8_init 62 = .ok (.return_, 1) := by decide +kernel
theorem dX8_write_0 : decode cX8_write 0 = .ok (.aload_n 0, 1) := by decide +kernel
theorem dX8_write_1 : decode cX8_write 1 = .ok (.getfield 19, 3) := by decide +kernel
theorem dX8_write_4 : decode cX8_write 4 = .ok (.lload_n 1, 1) := by decide +kernel
theorem dX8_write_5 : decode cX8_write 5 = .ok (.invokevirtual 30, 3) := by decide +kernel
theorem dX8_write_8 : decode cX8_write 8 = .ok (.ireturn, 1) := by decide +kernel
theorem dX8_erase_0 : decode cX8_erase 0 = .ok (.aload_n 0, 1) := by decide +kernel
theorem dX8_erase_1 : decode cX8_erase 1 = .ok (.getfield 19, 3) := by decide +kernel
theorem dX8_erase_4 : decode cX8_erase 4 = .ok (.invokevirtual 34, 3) := by decide +kernel
theorem dX8_erase_7 : decode cX8_erase 7 = .ok (.ireturn, 1) := by decide +kernel
theorem dX8_put_0 : decode cX8_put 0 = .ok (.iload_n 1, 1) := by decide +kernel
theorem dX8_put_1 : decode cX8_put 1 = .ok (.invokestatic 38, 3) := by decide +kernel
theorem dX8_put_4 : decode cX8_put 4 = .ok (.ifCond .eq 10, 3) := by decide +kernel
theorem dX8_put_7 : decode cX8_put 7 = .ok (.dload_n 2, 1) := by decide +kernel
theorem dX8_put_8 : decode cX8_put 8 = .ok (.invokestatic 42, 3) := by decide +kernel
theorem dX8_put_11 : decode cX8_put 11 = .ok (.ifCond .ne 5, 3) := by decide +kernel
theorem dX8_put_14 : decode cX8_put 14 = .ok (.iconst 0, 1) := by decide +kernel
theorem dX8_put_15 : decode cX8_put 15 = .ok (.ireturn, 1) := by decide +kernel
theorem dX8_put_16 : decode cX8_put 16 = .ok (.aload_n 0, 1) := by decide +kernel
theorem dX8_put_17 : decode cX8_put 17 = .ok (.getfield 11, 3) := by decide +kernel
theorem dX8_put_20 : decode cX8_put 20 = .ok (.iload_n 1, 1) := by decide +kernel
theorem dX8_put_21 : decode cX8_put 21 = .ok (.aaload, 1) := by decide +kernel
theorem dX8_put_22 : decode cX8_put 22 = .ok (.iconst 0, 1) := by decide +kernel
theorem dX8_put_23 : decode cX8_put 23 = .ok (.putfield 46, 3) := by decide +kernel
theorem dX8_put_26 : decode cX8_put 26 = .ok (.aload_n 0, 1) := by decide +kernel
theorem dX8_put_27 : decode cX8_put 27 = .ok (.getfield 11, 3) := by decide +kernel
theorem dX8_put_30 : decode cX8_put 30 = .ok (.iload_n 1, 1) := by decide +kernel
theorem dX8_put_31 : decode cX8_put 31 = .ok (.aaload, 1) := by decide +kernel
theorem dX8_put_32 : decode cX8_put 32 = .ok (.getfield 50, 3) := by decide +kernel
theorem dX8_put_35 : decode cX8_put 35 = .ok (.iconst 0, 1) := by decide +kernel
theorem dX8_put_36 : decode cX8_put 36 = .ok (.dload_n 2, 1) := by decide +kernel
theorem dX8_put_37 : decode cX8_put 37 = .ok (.dastore, 1) := by decide +kernel
theorem dX8_put_38 : decode cX8_put 38 = .ok (.iconst 1, 1) := by decide +kernel
theorem dX8_put_39 : decode cX8_put 39 = .ok (.ireturn, 1) := by decide +kernel
theorem dX8_shape_0 : decode cX8_shape 0 = .ok (.iload_n 1, 1) := by decide +kernel
theorem dX8_shape_1 : decode cX8_shape 1 = .ok (.invokestatic 38, 3) := by decide +kernel
theorem dX8_shape_4 : decode cX8_shape 4 = .ok (.ifCond .eq 10, 3) := by decide +kernel
theorem dX8_shape_7 : decode cX8_shape 7 = .ok (.iload_n 2, 1) := by decide +kernel
theorem dX8_shape_8 : decode cX8_shape 8 = .ok (.invokestatic 54, 3) := by decide +kernel
theorem dX8_shape_11 : decode cX8_shape 11 = .ok (.ifCond .ne 5, 3) := by decide +kernel
theorem dX8_shape_14 : decode cX8_shape 14 = .ok (.iconst 0, 1) := by decide +kernel
theorem dX8_shape_15 : decode cX8_shape 15 = .ok (.ireturn, 1) := by decide +kernel
theorem dX8_shape_16 : decode cX8_shape 16 = .ok (.aload_n 0, 1) := by decide +kernel
theorem dX8_shape_17 : decode cX8_shape 17 = .ok (.getfield 11, 3) := by decide +kernel
theorem dX8_shape_20 : decode cX8_shape 20 = .ok (.iload_n 1, 1) := by decide +kernel
theorem dX8_shape_21 : decode cX8_shape 21 = .ok (.aaload, 1) := by decide +kernel
theorem dX8_shape_22 : decode cX8_shape 22 = .ok (.iload_n 2, 1) := by decide +kernel
theorem dX8_shape_23 : decode cX8_shape 23 = .ok (.invokevirtual 59, 3) := by decide +kernel
theorem dX8_shape_26 : decode cX8_shape 26 = .ok (.iconst 1, 1) := by decide +kernel
theorem dX8_shape_27 : decode cX8_shape 27 = .ok (.ireturn, 1) := by decide +kernel
theorem dX8_set_0 : decode cX8_set 0 = .ok (.iload_n 1, 1) := by decide +kernel
theorem dX8_set_1 : decode cX8_set 1 = .ok (.invokestatic 38, 3) := by decide +kernel
theorem dX8_set_4 : decode cX8_set 4 = .ok (.ifCond .eq 23, 3) := by decide +kernel
theorem dX8_set_7 : decode cX8_set 7 = .ok (.aload_n 0, 1) := by decide +kernel
theorem dX8_set_8 : decode cX8_set 8 = .ok (.getfield 11, 3) := by decide +kernel
theorem dX8_set_11 : decode cX8_set 11 = .ok (.iload_n 1, 1) := by decide +kernel
theorem dX8_set_12 : decode cX8_set 12 = .ok (.aaload, 1) := by decide +kernel
theorem dX8_set_13 : decode cX8_set 13 = .ok (.iload_n 2, 1) := by decide +kernel
theorem dX8_set_14 : decode cX8_set 14 = .ok (.invokevirtual 63, 3) := by decide +kernel
theorem dX8_set_17 : decode cX8_set 17 = .ok (.ifCond .eq 10, 3) := by decide +kernel
theorem dX8_set_20 : decode cX8_set 20 = .ok (.dload_n 3, 1) := by decide +kernel
theorem dX8_set_21 : decode cX8_set 21 = .ok (.invokestatic 42, 3) := by decide +kernel
theorem dX8_set_24 : decode cX8_set 24 = .ok (.ifCond .ne 5, 3) := by decide +kernel
theorem dX8_set_27 : decode cX8_set 27 = .ok (.iconst 0, 1) := by decide +kernel
theorem dX8_set_28 : decode cX8_set 28 = .ok (.ireturn, 1) := by decide +kernel
theorem dX8_set_29 : decode cX8_set 29 = .ok (.aload_n 0, 1) := by decide +kernel
theorem dX8_set_30 : decode cX8_set 30 = .ok (.getfield 11, 3) := by decide +kernel
theorem dX8_set_33 : decode cX8_set 33 = .ok (.iload_n 1, 1) := by decide +kernel
theorem dX8_set_34 : decode cX8_set 34 = .ok (.aaload, 1) := by decide +kernel
theorem dX8_set_35 : decode cX8_set 35 = .ok (.getfield 50, 3) := by decide +kernel
theorem dX8_set_38 : decode cX8_set 38 = .ok (.iload_n 2, 1) := by decide +kernel
theorem dX8_set_39 : decode cX8_set 39 = .ok (.dload_n 3, 1) := by decide +kernel
theorem dX8_set_40 : decode cX8_set 40 = .ok (.dastore, 1) := by decide +kernel
theorem dX8_set_41 : decode cX8_set 41 = .ok (.iconst 1, 1) := by decide +kernel
theorem dX8_set_42 : decode cX8_set 42 = .ok (.ireturn, 1) := by decide +kernel
theorem dX8_shapeOf_0 : decode cX8_shapeOf 0 = .ok (.iload_n 1, 1) := by decide +kernel
theorem dX8_shapeOf_1 : decode cX8_shapeOf 1 = .ok (.invokestatic 38, 3) := by decide +kernel
theorem dX8_shapeOf_4 : decode cX8_shapeOf 4 = .ok (.ifCond .eq 15, 3) := by decide +kernel
theorem dX8_shapeOf_7 : decode cX8_shapeOf 7 = .ok (.aload_n 0, 1) := by decide +kernel
theorem dX8_shapeOf_8 : decode cX8_shapeOf 8 = .ok (.getfield 11, 3) := by decide +kernel
theorem dX8_shapeOf_11 : decode cX8_shapeOf 11 = .ok (.iload_n 1, 1) := by decide +kernel
theorem dX8_shapeOf_12 : decode cX8_shapeOf 12 = .ok (.aaload, 1) := by decide +kernel
theorem dX8_shapeOf_13 : decode cX8_shapeOf 13 = .ok (.getfield 46, 3) := by decide +kernel
theorem dX8_shapeOf_16 : decode cX8_shapeOf 16 = .ok (.goto 4, 3) := by decide +kernel
theorem dX8_shapeOf_19 : decode cX8_shapeOf 19 = .ok (.iconst (-1), 1) := by decide +kernel
theorem dX8_shapeOf_20 : decode cX8_shapeOf 20 = .ok (.ireturn, 1) := by decide +kernel
theorem dX8_size_0 : decode cX8_size 0 = .ok (.iload_n 1, 1) := by decide +kernel
theorem dX8_size_1 : decode cX8_size 1 = .ok (.invokestatic 38, 3) := by decide +kernel
theorem dX8_size_4 : decode cX8_size 4 = .ok (.ifCond .eq 15, 3) := by decide +kernel
theorem dX8_size_7 : decode cX8_size 7 = .ok (.aload_n 0, 1) := by decide +kernel
theorem dX8_size_8 : decode cX8_size 8 = .ok (.getfield 11, 3) := by decide +kernel
theorem dX8_size_11 : decode cX8_size 11 = .ok (.iload_n 1, 1) := by decide +kernel
theorem dX8_size_12 : decode cX8_size 12 = .ok (.aaload, 1) := by decide +kernel
theorem dX8_size_13 : decode cX8_size 13 = .ok (.invokevirtual 66, 3) := by decide +kernel
theorem dX8_size_16 : decode cX8_size 16 = .ok (.goto 4, 3) := by decide +kernel
theorem dX8_size_19 : decode cX8_size 19 = .ok (.iconst (-1), 1) := by decide +kernel
theorem dX8_size_20 : decode cX8_size 20 = .ok (.ireturn, 1) := by decide +kernel
theorem dX8_at_0 : decode cX8_at 0 = .ok (.iload_n 1, 1) := by decide +kernel
theorem dX8_at_1 : decode cX8_at 1 = .ok (.invokestatic 38, 3) := by decide +kernel
theorem dX8_at_4 : decode cX8_at 4 = .ok (.ifCond .eq 30, 3) := by decide +kernel
theorem dX8_at_7 : decode cX8_at 7 = .ok (.aload_n 0, 1) := by decide +kernel
theorem dX8_at_8 : decode cX8_at 8 = .ok (.getfield 11, 3) := by decide +kernel
theorem dX8_at_11 : decode cX8_at 11 = .ok (.iload_n 1, 1) := by decide +kernel
theorem dX8_at_12 : decode cX8_at 12 = .ok (.aaload, 1) := by decide +kernel
theorem dX8_at_13 : decode cX8_at 13 = .ok (.iload_n 2, 1) := by decide +kernel
theorem dX8_at_14 : decode cX8_at 14 = .ok (.invokevirtual 63, 3) := by decide +kernel
theorem dX8_at_17 : decode cX8_at 17 = .ok (.ifCond .eq 17, 3) := by decide +kernel
theorem dX8_at_20 : decode cX8_at 20 = .ok (.aload_n 0, 1) := by decide +kernel
theorem dX8_at_21 : decode cX8_at 21 = .ok (.getfield 11, 3) := by decide +kernel
theorem dX8_at_24 : decode cX8_at 24 = .ok (.iload_n 1, 1) := by decide +kernel
theorem dX8_at_25 : decode cX8_at 25 = .ok (.aaload, 1) := by decide +kernel
theorem dX8_at_26 : decode cX8_at 26 = .ok (.getfield 50, 3) := by decide +kernel
theorem dX8_at_29 : decode cX8_at 29 = .ok (.iload_n 2, 1) := by decide +kernel
theorem dX8_at_30 : decode cX8_at 30 = .ok (.daload, 1) := by decide +kernel
theorem dX8_at_31 : decode cX8_at 31 = .ok (.goto 4, 3) := by decide +kernel
theorem dX8_at_34 : decode cX8_at 34 = .ok (.dconst 0, 1) := by decide +kernel
theorem dX8_at_35 : decode cX8_at 35 = .ok (.dreturn, 1) := by decide +kernel
theorem dX8_run_0 : decode cX8_run 0 = .ok (.iload_n 1, 1) := by decide +kernel
theorem dX8_run_1 : decode cX8_run 1 = .ok (.invokestatic 38, 3) := by decide +kernel
theorem dX8_run_4 : decode cX8_run 4 = .ok (.ifCond .ne 13, 3) := by decide +kernel
theorem dX8_run_7 : decode cX8_run 7 = .ok (.new 69, 3) := by decide +kernel
theorem dX8_run_10 : decode cX8_run 10 = .ok (.dup, 1) := by decide +kernel
theorem dX8_run_11 : decode cX8_run 11 = .ok (.ldc 71, 2) := by decide +kernel
theorem dX8_run_13 : decode cX8_run 13 = .ok (.invokespecial 73, 3) := by decide +kernel
theorem dX8_run_16 : decode cX8_run 16 = .ok (.athrow, 1) := by decide +kernel
theorem dX8_run_17 : decode cX8_run 17 = .ok (.aload_n 0, 1) := by decide +kernel
theorem dX8_run_18 : decode cX8_run 18 = .ok (.getfield 19, 3) := by decide +kernel
theorem dX8_run_21 : decode cX8_run 21 = .ok (.aload_n 0, 1) := by decide +kernel
theorem dX8_run_22 : decode cX8_run 22 = .ok (.getfield 26, 3) := by decide +kernel
theorem dX8_run_25 : decode cX8_run 25 = .ok (.invokestatic 76, 3) := by decide +kernel
theorem dX8_run_28 : decode cX8_run 28 = .ok (.astore_n 2, 1) := by decide +kernel
theorem dX8_run_29 : decode cX8_run 29 = .ok (.aload_n 0, 1) := by decide +kernel
theorem dX8_run_30 : decode cX8_run 30 = .ok (.getfield 26, 3) := by decide +kernel
theorem dX8_run_33 : decode cX8_run 33 = .ok (.aload_n 0, 1) := by decide +kernel
theorem dX8_run_34 : decode cX8_run 34 = .ok (.getfield 11, 3) := by decide +kernel
theorem dX8_run_37 : decode cX8_run 37 = .ok (.invokestatic 82, 3) := by decide +kernel
theorem dX8_run_40 : decode cX8_run 40 = .ok (.aload_n 0, 1) := by decide +kernel
theorem dX8_run_41 : decode cX8_run 41 = .ok (.getfield 26, 3) := by decide +kernel
theorem dX8_run_44 : decode cX8_run 44 = .ok (.aload_n 0, 1) := by decide +kernel
theorem dX8_run_45 : decode cX8_run 45 = .ok (.getfield 11, 3) := by decide +kernel
theorem dX8_run_48 : decode cX8_run 48 = .ok (.invokestatic 88, 3) := by decide +kernel
theorem dX8_run_51 : decode cX8_run 51 = .ok (.aload_n 0, 1) := by decide +kernel
theorem dX8_run_52 : decode cX8_run 52 = .ok (.getfield 11, 3) := by decide +kernel
theorem dX8_run_55 : decode cX8_run 55 = .ok (.iload_n 1, 1) := by decide +kernel
theorem dX8_run_56 : decode cX8_run 56 = .ok (.aaload, 1) := by decide +kernel
theorem dX8_run_57 : decode cX8_run 57 = .ok (.aload_n 2, 1) := by decide +kernel
theorem dX8_run_58 : decode cX8_run 58 = .ok (.getfield 93, 3) := by decide +kernel
theorem dX8_run_61 : decode cX8_run 61 = .ok (.invokevirtual 99, 3) := by decide +kernel
theorem dX8_run_64 : decode cX8_run 64 = .ok (.aload_n 0, 1) := by decide +kernel
theorem dX8_run_65 : decode cX8_run 65 = .ok (.aload_n 0, 1) := by decide +kernel
theorem dX8_run_66 : decode cX8_run 66 = .ok (.getfield 26, 3) := by decide +kernel
theorem dX8_run_69 : decode cX8_run 69 = .ok (.aload_n 2, 1) := by decide +kernel
theorem dX8_run_70 : decode cX8_run 70 = .ok (.invokevirtual 103, 3) := by decide +kernel
theorem dX8_run_73 : decode cX8_run 73 = .ok (.putfield 107, 3) := by decide +kernel
theorem dX8_run_76 : decode cX8_run 76 = .ok (.aload_n 0, 1) := by decide +kernel
theorem dX8_run_77 : decode cX8_run 77 = .ok (.dup, 1) := by decide +kernel
theorem dX8_run_78 : decode cX8_run 78 = .ok (.getfield 110, 3) := by decide +kernel
theorem dX8_run_81 : decode cX8_run 81 = .ok (.iconst 1, 1) := by decide +kernel
theorem dX8_run_82 : decode cX8_run 82 = .ok (.iadd, 1) := by decide +kernel
theorem dX8_run_83 : decode cX8_run 83 = .ok (.putfield 110, 3) := by decide +kernel
theorem dX8_run_86 : decode cX8_run 86 = .ok (.aload_n 0, 1) := by decide +kernel
theorem dX8_run_87 : decode cX8_run 87 = .ok (.getfield 11, 3) := by decide +kernel
theorem dX8_run_90 : decode cX8_run 90 = .ok (.iload_n 1, 1) := by decide +kernel
theorem dX8_run_91 : decode cX8_run 91 = .ok (.aaload, 1) := by decide +kernel
theorem dX8_run_92 : decode cX8_run 92 = .ok (.invokevirtual 66, 3) := by decide +kernel
theorem dX8_run_95 : decode cX8_run 95 = .ok (.ireturn, 1) := by decide +kernel
theorem dX8_look_0 : decode cX8_look 0 = .ok (.aload_n 0, 1) := by decide +kernel
theorem dX8_look_1 : decode cX8_look 1 = .ok (.getfield 19, 3) := by decide +kernel
theorem dX8_look_4 : decode cX8_look 4 = .ok (.aload_n 0, 1) := by decide +kernel
theorem dX8_look_5 : decode cX8_look 5 = .ok (.getfield 26, 3) := by decide +kernel
theorem dX8_look_8 : decode cX8_look 8 = .ok (.invokestatic 76, 3) := by decide +kernel
theorem dX8_look_11 : decode cX8_look 11 = .ok (.astore_n 1, 1) := by decide +kernel
theorem dX8_look_12 : decode cX8_look 12 = .ok (.aload_n 0, 1) := by decide +kernel
theorem dX8_look_13 : decode cX8_look 13 = .ok (.getfield 26, 3) := by decide +kernel
theorem dX8_look_16 : decode cX8_look 16 = .ok (.aload_n 0, 1) := by decide +kernel
theorem dX8_look_17 : decode cX8_look 17 = .ok (.getfield 11, 3) := by decide +kernel
theorem dX8_look_20 : decode cX8_look 20 = .ok (.invokestatic 82, 3) := by decide +kernel
theorem dX8_look_23 : decode cX8_look 23 = .ok (.aload_n 1, 1) := by decide +kernel
theorem dX8_look_24 : decode cX8_look 24 = .ok (.getfield 93, 3) := by decide +kernel
theorem dX8_look_27 : decode cX8_look 27 = .ok (.getfield 46, 3) := by decide +kernel
theorem dX8_look_30 : decode cX8_look 30 = .ok (.ireturn, 1) := by decide +kernel
theorem dX8_made_0 : decode cX8_made 0 = .ok (.aload_n 0, 1) := by decide +kernel
theorem dX8_made_1 : decode cX8_made 1 = .ok (.getfield 107, 3) := by decide +kernel
theorem dX8_made_4 : decode cX8_made 4 = .ok (.ireturn, 1) := by decide +kernel
theorem dX8_runs_0 : decode cX8_runs 0 = .ok (.aload_n 0, 1) := by decide +kernel
theorem dX8_runs_1 : decode cX8_runs 1 = .ok (.getfield 110, 3) := by decide +kernel
theorem dX8_runs_4 : decode cX8_runs 4 = .ok (.ireturn, 1) := by decide +kernel
theorem dX8_isVariable_0 : decode cX8_isVariable 0 = .ok (.iload_n 0, 1) := by decide +kernel
theorem dX8_isVariable_1 : decode cX8_isVariable 1 = .ok (.ifCond .lt 13, 3) := by decide +kernel
theorem dX8_isVariable_4 : decode cX8_isVariable 4 = .ok (.iload_n 0, 1) := by decide +kernel
theorem dX8_isVariable_5 : decode cX8_isVariable 5 = .ok (.bipush 8, 2) := by decide +kernel
theorem dX8_isVariable_7 : decode cX8_isVariable 7 = .ok (.if_icmp .ge 7, 3) := by decide +kernel
theorem dX8_isVariable_10 : decode cX8_isVariable 10 = .ok (.iconst 1, 1) := by decide +kernel
theorem dX8_isVariable_11 : decode cX8_isVariable 11 = .ok (.goto 4, 3) := by decide +kernel
theorem dX8_isVariable_14 : decode cX8_isVariable 14 = .ok (.iconst 0, 1) := by decide +kernel
theorem dX8_isVariable_15 : decode cX8_isVariable 15 = .ok (.ireturn, 1) := by decide +kernel
theorem dX8_isInRange_0 : decode cX8_isInRange 0 = .ok (.dload_n 0, 1) := by decide +kernel
theorem dX8_isInRange_1 : decode cX8_isInRange 1 = .ok (.ldc2_w 113, 3) := by decide +kernel
theorem dX8_isInRange_4 : decode cX8_isInRange 4 = .ok (.dcmp .l, 1) := by decide +kernel
theorem dX8_isInRange_5 : decode cX8_isInRange 5 = .ok (.ifCond .lt 15, 3) := by decide +kernel
theorem dX8_isInRange_8 : decode cX8_isInRange 8 = .ok (.dload_n 0, 1) := by decide +kernel
theorem dX8_isInRange_9 : decode cX8_isInRange 9 = .ok (.ldc2_w 115, 3) := by decide +kernel
theorem dX8_isInRange_12 : decode cX8_isInRange 12 = .ok (.dcmp .g, 1) := by decide +kernel
theorem dX8_isInRange_13 : decode cX8_isInRange 13 = .ok (.ifCond .gt 7, 3) := by decide +kernel
theorem dX8_isInRange_16 : decode cX8_isInRange 16 = .ok (.iconst 1, 1) := by decide +kernel
theorem dX8_isInRange_17 : decode cX8_isInRange 17 = .ok (.goto 4, 3) := by decide +kernel
theorem dX8_isInRange_20 : decode cX8_isInRange 20 = .ok (.iconst 0, 1) := by decide +kernel
theorem dX8_isInRange_21 : decode cX8_isInRange 21 = .ok (.ireturn, 1) := by decide +kernel
theorem dJx00060_init_a7421_0 : decode cJx00060_init_a7421 0 = .ok (.aload_n 0, 1) := by decide +kernel
theorem dJx00060_init_a7421_1 : decode cJx00060_init_a7421 1 = .ok (.aload_n 1, 1) := by decide +kernel
theorem dJx00060_init_a7421_2 : decode cJx00060_init_a7421 2 = .ok (.invokespecial 7, 3) := by decide +kernel
theorem dJx00060_init_a7421_5 : decode cJx00060_init_a7421 5 = .ok (.return_, 1) := by decide +kernel
end
section
section AR0
variable {p : Program} {l : Launch} {e : Env} {R : Room} {s : State} {m : MethodId} {args : Array Value} {below : List Frame} {meth : Method} {c : Code} {H : Heap} {locs : List Loc} {cells slots : Nat} {Q Q9 : State → Prop}
theorem ar_mono {g : JFrame} (h : ∀ t, Q t → Q9 t) (k : W p l e R s m args below meth c H locs cells slots Q g) : W p l e R s m args below meth c H locs cells slots Q9 g := fun T hT X => by
  obtain ⟨t, a, b⟩ := k T hT X
  exact ⟨t, a, h t b⟩
end AR0
/-- the words of a method: its own code, and all good words of the tables -/
abbrev ar_ws (y : MethodName) (cc : ByteArray) (n : Nat) (r : Option FieldType) : List Cond := .code y cc n r :: lw_all
theorem ar_good {y : MethodName} {cc : ByteArray} {n : Nat} {r : Option FieldType} (hc : Cond.code y cc n r ∈ lw_all) : GoodIn lw_all (ar_ws y cc n r) := fun w h => (List.mem_cons.mp h).elim (fun e => by rw [e]; exact ⟨hc, lw_allGood hc⟩) (fun h => ⟨h, lw_allGood h⟩)
/-- the classes of arrays -/
abbrev ar_T (ct : Nat → ClassId) : List (ClassId × FieldType) := [(ct 0, .char), (ct 1, .double), (ct 2, .int), (ct 3, .long), (ct 4, .object "ArrayText$Node"), (ct 5, .object "ArrayText$NumberArray")]
/-- words that are no good words: nest mates, casts, texts -/
def ar_nests : List (String × Nat × MethodName) := [("ArrayText", 15, ⟨"ArrayText$NumberArray", "<init>", "()V"⟩), ("ArrayText", 18, ⟨"ArrayText$Text", "<init>", "()V"⟩), ("ArrayText$Tree", 17, ⟨"ArrayText$Node", "<init>", "()V"⟩), ("ArrayText$Node", 11, ⟨"ArrayText$NumberArray", "<init>", "()V"⟩), ("ArrayText$Parser", 67, ⟨"ArrayText", "isVariable", "(I)Z"⟩), ("ArrayText$Worker", 116, ⟨"ArrayText", "isInRange", "(D)Z"⟩)]
def ar_casts : List (String × String) := [("java/lang/ArithmeticException", "java/lang/ArithmeticException"), ("java/lang/IndexOutOfBoundsException", "java/lang/IndexOutOfBoundsException"), ("java/lang/IllegalArgumentException", "java/lang/IllegalArgumentException"), ("java/lang/UnsupportedOperationException", "java/lang/UnsupportedOperationException"), ("java/lang/IllegalStateException", "java/lang/IllegalStateException")]
def ar_texts : List (String × Nat × String) := [("ArrayText", 71, "no such variable"), ("ArrayText$Parser", 36, "deeper than a text can be"), ("ArrayText$Tree", 24, "more parts than a text can hold"), ("ArrayText$Parser", 119, "no sign to reduce or run by"), ("ArrayText$Parser", 65, "no closing parenthesis"), ("ArrayText$Parser", 105, "no part or number"), ("ArrayText$Parser", 31, "more than an expression"), ("ArrayText$ShapeFinder", 81, "no elements or too many behind i"), ("ArrayText$ShapeFinder", 101, "shapes that do not fit"), ("ArrayText$ShapeFinder", 104, "a table joined"), ("ArrayText$ShapeFinder", 109, "too many elements joined"), ("ArrayText$ShapeFinder", 111, "no constant of one number or two before #"), ("ArrayText$ShapeFinder", 116, "no elements or too many by #"), ("ArrayText$ShapeFinder", 118, "fewer elements by # than there are"), ("ArrayText$Worker", 122, "a result out of range")]
def ar_decls : List MethodName := [⟨"java/lang/RuntimeException", "<init>", "(Ljava/lang/String;)V"⟩, ⟨"java/lang/Exception", "<init>", "(Ljava/lang/String;)V"⟩, ⟨"java/lang/Throwable", "<init>", "(Ljava/lang/String;)V"⟩]
def ar_V (U : State) : Prop := (∀ x ∈ ar_nests, va_Nw (.methodLinkNest x.1 x.2.1 x.2.2 "ArrayText") U) ∧ (∀ x ∈ ar_casts, va_Nw (.castable x.1 x.2) U) ∧ (∀ x ∈ ar_texts, ∃ sa : Nat, vk_R x.1 x.2.1 x.2.2 sa U) ∧ (∀ x ∈ ar_decls, va_Nw (.declares x) U)
theorem ar_V.warm {s U : State} (hW : s.WarmedH U.vm) (h : ar_V s) : ar_V U :=
  ⟨fun x hx => va_Nw.warmM hW (h.1 x hx), fun x hx => va_Nw.warmC hW (h.2.1 x hx), fun x hx => by obtain ⟨sa, q⟩ := h.2.2.1 x hx; exact ⟨sa, vk_R.warm hW q⟩, fun x hx => va_Nw.warmD hW (h.2.2.2 x hx)⟩
theorem ar_V.same {u U : State} (hv : u.vm = U.vm) (h : ar_V u) : ar_V U :=
  ⟨fun x hx => va_Nw.same rfl hv (h.1 x hx), fun x hx => va_Nw.same rfl hv (h.2.1 x hx), fun x hx => by obtain ⟨sa, q⟩ := h.2.2.1 x hx; exact ⟨sa, vk_R.same hv.symm q⟩, fun x hx => va_Nw.same rfl hv (h.2.2.2 x hx)⟩
def ar_H (A : Nat → Prop) (U : State) (H : Heap) : Prop := vx_Zq Bundle.tN "UNASSIGNED_STACK" Bundle.steD A U H ∧ vx_Zq Bundle.tN "SUPPRESSED_SENTINEL" Bundle.listD A U H
theorem ar_H.moved {A : Nat → Prop} {u U : State} {H : Heap} (hvm : u.vm.Alike U.vm) (h : ar_H A u H) : ar_H A U H := ⟨h.1.moved hvm, h.2.moved hvm⟩
theorem ar_H.kept {A : Nat → Prop} {U : State} {H H1 : Heap} (h : ar_H A U H) (hq : ∀ a : Nat, a < H.size → ¬ A a → H1[a]? = H[a]?) : ar_H A U H1 := ⟨h.1.kept hq, h.2.kept hq⟩
theorem ar_H.narrow {A B : Nat → Prop} {U : State} {H : Heap} (h : ar_H A U H) (hAB : ∀ q, B q → A q) : ar_H B U H := ⟨h.1.narrow hAB, h.2.narrow hAB⟩
/-- the world behind a method -/
def ar_B (D : va_G) (ct : Nat → ClassId) (ws : va_W) (A : Nat → Prop) (t : State) : Prop := va_P D vwCl ws t.heap ∧ va_K D vwCl (ar_T ct) t ∧ va_D A ws
/-- a method's end: it returned and made nothing, or it threw and made the one object -/
def ar_Q (D : va_G) (ct : Nat → ClassId) {S : Type} (wl : S → va_W) (A : Nat → Prop) (Post : Option Value → S → Prop) (PX : String → S → Prop) : Array Value → State → Outcome → State → Prop := fun _ st o t =>
  (∃ (v : Option Value) (u : S), o = .returned v ∧ Post v u ∧ ar_B D ct (wl u) A t ∧ va_F A st t ∧ ∃ L, FrameEnd st o t L 0 0 ∧ ∀ q ∈ L, A q.base) ∨
  (∃ (q : Addr) (E : String) (ce : Cell) (u : S), o = .threw q ∧ PX E u ∧ ar_B D ct (wl u) A t ∧ va_F A st t ∧ t.heap[q]? = some ce ∧ ce.vm = .none ∧ st.vm.findClass E = some ce.cls ∧ st.WarmedH t.vm ∧ ∃ L, st.sameButNew ({ t with vm := st.vm } : State) L 1 6 ∧ ∀ z ∈ L, A z.base)
/-- a method's start -/
def ar_P (D : va_G) (ct : Nat → ClassId) (ws : va_W) (sz : Nat) : State → Prop := fun U => U.heap.size = sz ∧ va_P D vwCl ws U.heap ∧ va_K D vwCl (ar_T ct) U ∧ va_D (fun _ => True) ws ∧ ar_V U ∧ ar_H (va_A ws sz) U U.heap
def ar_rm (f k : Nat) : Room := { frames := f, cells := 1, slots := 6, locals := k }
/-- THE CONTRACT of a method: from the world wl u0, with the arguments As -/
def ar_M (l : Launch) (y : MethodName) (cc : ByteArray) (n : Nat) (r : Option FieldType) (f k : Nat) (D : va_G) (ct : Nat → ClassId) {S : Type} (wl : S → va_W) (As : List Value) (u0 : S) (Post : Option Value → S → Prop) (PX : String → S → Prop) : Prop :=
  ∀ sz : Nat, MetFree l y (headSpec (ar_ws y cc n r) (ar_rm f k)) (va_Pc As (ar_P D ct (wl u0) sz)) (fun _ _ _ _ _ => True) (ar_Q D ct wl (va_A (wl u0) sz) Post PX)
def ar_E (below : List Frame) (Qc : Array Value → State → Outcome → State → Prop) (a : Array Value) (s : State) : State → Prop := fun t => ∃ o, t.status = .running ∧ Ended t below o ∧ Qc a s o t
/-- what stands fast in a walk -/
def ar_C (p : Program) (l : Launch) (s : State) (m : MethodId) (meth : Method) (c : Code) (cc : ByteArray) (n : Nat) (own : String) (args : Array Value) (D : va_G) (ct : Nat → ClassId) (A : Nat → Prop) : Prop :=
  p.tables.exec = Jvm.exec ∧ c.code = cc ∧ c.maxLocals = n ∧ s.vm.findClass own = some m.cls ∧ (∀ w ∈ lw_all, w.before args s = true) ∧ va_K D vwCl (ar_T ct) s ∧ ar_V s ∧ ar_H A s s.heap ∧ (∀ q : Nat, s.heap.size ≤ q → A q) ∧ meth.locks = false ∧ (∀ x ∈ c.exceptionTable.toList, False) ∧ l.stackTraces = false
/-- the world in a walk -/
def ar_W (D : va_G) (A : Nat → Prop) (H0 H : Heap) (locs : List Loc) (ws : va_W) : Prop := va_P D vwCl ws H ∧ va_D A ws ∧ va_S A H0 H locs
theorem ar_free {D : va_G} {A : Nat → Prop} {H0 H : Heap} {locs : List Loc} {ws : va_W} (h : ar_W D A H0 H locs ws) (hA : ∀ q : Nat, H0.size ≤ q → A q) : ∀ q, va_A ws H.size q → A q := by
  intro q hq
  rcases hq with ⟨k, e, hq⟩ | hq
  · exact h.2.1.2 k (q, e) hq
  · exact hA q (Nat.le_trans h.2.2.1 hq)
/-- THE WALK OF A BODY gives the contract -/
theorem ar_ofW {l : Launch} {y : MethodName} {cc : ByteArray} {n : Nat} {r : Option FieldType} {f k : Nat} {D : va_G} {ct : Nat → ClassId} {S : Type} {wl : S → va_W} {As : List Value} {u0 : S} {Post : Option Value → S → Prop} {PX : String → S → Prop}
    (hl : l.stackTraces = false) (hy : plainName y.cls = true) (hn : (lg_sl As).length ≤ n)
    (body : ∀ (p : Program) (e : Env) (s : State) (m : MethodId) (below : List Frame) (meth : Method) (c : Code) (A : Nat → Prop) (ls : Array Slot), ar_C p l s m meth c cc n y.cls As.toArray D ct A → meth.sig.returnType = r → meth.name = y.name → ar_W D A s.heap s.heap [] (wl u0) → lv_has ls n (lv_args 0 As) →
      W p l e (ar_rm f k) s m As.toArray below meth c s.heap [] 0 0 (ar_E below (ar_Q D ct wl A Post PX) As.toArray s) (F0 m 0 ls [])) : ar_M l y cc n r f k D ct wl As u0 Post PX := by
  intro sz
  refine MetFree.of_bodyS (code := cc) (maxLocals := n) (ret := r) hy ?_ ?_
  · intro args s m h hn
    obtain ⟨meth, c, h1, h2, h3, h4, h5, h6, -, -⟩ := Cond.code_spec hn (atoms_spec (ws := ar_ws y cc n r) h _ List.mem_cons_self)
    exact ⟨meth, c, h1, h2, h3, h4, h5, h6⟩
  · intro p e s m args below meth c s₁ B hml hP _
    obtain ⟨rfl, hsz, hP, hK, hD, hV, hH⟩ := hP
    subst hsz
    have hh0 : s₁.heap = s.heap := by rw [B.state]; rfl
    have hts := atoms_spec (ws := ar_ws y cc n r) B.pre
    have ht : ∀ x ∈ c.exceptionTable.toList, False := by
      obtain ⟨meth9, c9, h1, h2, -, -, -, -, h7, -⟩ := Cond.code_spec B.named (hts _ List.mem_cons_self)
      cases Option.some.inj (h1.symm.trans B.method)
      cases Option.some.inj (h2.symm.trans (Stand.of_body B).code)
      intro x hx
      rw [Array.isEmpty_iff.mp h7] at hx
      cases hx
    have hl0 := lv_entry As (n := n) hn
    have K := body p e s m below meth c (va_A (wl u0) s.heap.size) _ ⟨B.exec, B.bytes, hml, findClass_of_methodNamed B.named, fun w h => hts w (List.mem_cons_of_mem _ h), hK, hV, hH, fun q h => Or.inr h, B.notSynchronized, ht, hl⟩ B.returns (name_of_methodNamed B.named B.method).1 ⟨hP, hD.self, va_S.rf⟩ hl0
    rw [← lg_entry_eq] at K
    obtain ⟨t, a1, o, b1, b2, b3⟩ := K s₁ hh0 (Stand.of_body B)
    exact ⟨t, o, a1, b1, b2, b3⟩
section AR1
variable {p : Program} {l : Launch} {e : Env} {s : State} {m : MethodId} {args : Array Value} {below : List Frame} {meth : Method} {c : Code} {H : Heap} {locs : List Loc} {cc : ByteArray} {n : Nat} {own : String} {D : va_G} {ct : Nat → ClassId} {A : Nat → Prop} {R : Room}
variable {S : Type} {wl : S → va_W} {Post : Option Value → S → Prop} {PX : String → S → Prop} {pc : Nat} {ls : Array Slot}
theorem ar_end {v : Option Value} {u : S} {g : JFrame} (C : ar_C p l s m meth c cc n own args D ct A) (hW : ar_W D A s.heap H locs (wl u)) (hp : Post v u)
    (k : ∀ (Qc : Array Value → State → Outcome → State → Prop), (∀ t : State, t.heap = H → s.WarmedH t.vm → Qc args s (.returned v) t) → W p l e R s m args below meth c H locs 0 0 (MQ below Qc args s 0 0 A) g) :
    W p l e R s m args below meth c H locs 0 0 (ar_E below (ar_Q D ct wl A Post PX) args s) g := by
  refine ar_mono ?_ (k (fun _ st o t => ∃ (v : Option Value) (u : S), o = .returned v ∧ Post v u ∧ ar_B D ct (wl u) A t ∧ va_F A st t) (fun t ht hW9 => ⟨v, u, rfl, hp, ⟨by rw [ht]; exact hW.1, va_K.moved hW9.alike C.2.2.2.2.2.1, hW.2.1⟩, hW.2.2.F ht⟩))
  rintro t ⟨o, h1, h2, ⟨v9, u9, h3, h4, h5, h6⟩, L, h7, h8⟩
  exact ⟨o, h1, h2, Or.inl ⟨v9, u9, h3, h4, h5, h6, L, h7, h8⟩⟩
theorem ar_iret {v : Int32} {u : S} (C : ar_C p l s m meth c cc n own args D ct A) (hr : meth.sig.returnType = some .int) (hW : ar_W D A s.heap H locs (wl u)) (hdg : decode cc pc = .ok (.ireturn, 1)) (hp : Post (some (.int v)) u) :
    W p l e R s m args below meth c H locs 0 0 (ar_E below (ar_Q D ct wl A Post PX) args s) (F0 m pc ls [.int v]) :=
  ar_end C hW hp fun Qc hq => W.iret C.1 C.2.1 hr hq hW.2.2.2.2 hdg (hlocks := C.2.2.2.2.2.2.2.2.2.1)
theorem ar_zret {v : Int32} {u : S} {ty : FieldType} (C : ar_C p l s m meth c cc n own args D ct A) (hr : meth.sig.returnType = some ty) (hn9 : narrow ty (.int v) = .int v) (hW : ar_W D A s.heap H locs (wl u)) (hdg : decode cc pc = .ok (.ireturn, 1)) (hp : Post (some (.int v)) u) :
    W p l e R s m args below meth c H locs 0 0 (ar_E below (ar_Q D ct wl A Post PX) args s) (F0 m pc ls [.int v]) :=
  ar_end C hW hp fun Qc hq => W.zret C.1 C.2.1 hr hn9 hq hW.2.2.2.2 hdg (hlocks := C.2.2.2.2.2.2.2.2.2.1)
theorem ar_vret {u : S} (C : ar_C p l s m meth c cc n own args D ct A) (hr : meth.sig.returnType = none) (hW : ar_W D A s.heap H locs (wl u)) (hdg : decode cc pc = .ok (.return_, 1)) (hp : Post none u) :
    W p l e R s m args below meth c H locs 0 0 (ar_E below (ar_Q D ct wl A Post PX) args s) (F0 m pc ls []) :=
  ar_end C hW hp fun Qc hq => W.vret C.1 C.2.1 hr hq hW.2.2.2.2 hdg (hlocks := C.2.2.2.2.2.2.2.2.2.1)
theorem ar_dret {v : UInt64} {u : S} (C : ar_C p l s m meth c cc n own args D ct A) (hr : meth.sig.returnType = some .double) (hW : ar_W D A s.heap H locs (wl u)) (hdg : decode cc pc = .ok (.dreturn, 1)) (hp : Post (some (.double v)) u) :
    W p l e R s m args below meth c H locs 0 0 (ar_E below (ar_Q D ct wl A Post PX) args s) (F0 m pc ls [.double v]) :=
  ar_end C hW hp fun Qc hq => W.dret C.1 C.2.1 hr hq hW.2.2.2.2 hdg (hlocks := C.2.2.2.2.2.2.2.2.2.1)
theorem ar_aret {a : Nat} {nm : String} {u : S} (C : ar_C p l s m meth c cc n own args D ct A) (hr : meth.sig.returnType = some (.object nm)) (hW : ar_W D A s.heap H locs (wl u)) (hdg : decode cc pc = .ok (.areturn, 1)) (hp : Post (some (.ref a)) u) :
    W p l e R s m args below meth c H locs 0 0 (ar_E below (ar_Q D ct wl A Post PX) args s) (F0 m pc ls [.ref a]) :=
  ar_end C hW hp fun Qc hq => W.aret C.1 C.2.1 hr (Or.inl ⟨nm, rfl⟩) (Or.inr ⟨a, rfl⟩) hq hW.2.2.2.2 hdg (hlocks := C.2.2.2.2.2.2.2.2.2.1)
end AR1
end
section
/-! throws and calls -/
abbrev ar_up : List String := ["java/lang/RuntimeException", "java/lang/Exception"]
theorem ar_in {L : List Cond} (h : ∀ w ∈ L.filter goodWord, w ∈ lw_tbl) : ∀ w ∈ L.filter goodWord, w ∈ lw_all := fun w hw => List.mem_filter.mpr ⟨h w hw, (List.mem_filter.mp hw).2⟩
/-- what a throw of 'cls' in 'own' asks of the tables -/
def ar_X (own : String) (ik is ic : Nat) (cls text : String) : Prop := Cond.classLink own ik cls ∈ lw_all ∧ Cond.initialized cls ∈ lw_all ∧ (∀ w ∈ (vx_atS own ic cls ar_up).filter goodWord, w ∈ lw_tbl) ∧ (∀ w ∈ (vx_atS own ic cls ar_up).filter (fun w => !goodWord w), w ∈ Cond.castable cls cls :: ar_decls.map Cond.declares) ∧ (∀ w ∈ Cond.classLink own ik cls :: Cond.initialized cls :: vx_atS own ic cls ar_up, vx_ot w = true) ∧ (own, is, text) ∈ ar_texts ∧ (cls, cls) ∈ ar_casts ∧ Bundle.fit cls = true
set_option maxRecDepth 20000 in
theorem ar_X_add : ar_X "ArrayText$Tree" 22 24 26 "java/lang/IllegalArgumentException" "more parts than a text can hold" := ⟨by decide +kernel, by decide +kernel, by decide +kernel, by decide +kernel, by decide +kernel, by decide +kernel, by decide +kernel, by decide +kernel⟩
section AR2
variable {p : Program} {l : Launch} {e : Env} {s : State} {m : MethodId} {args : Array Value} {below : List Frame} {meth : Method} {c : Code} {H : Heap} {locs : List Loc} {cc : ByteArray} {n : Nat} {own : String} {D : va_G} {ct : Nat → ClassId} {A : Nat → Prop}
variable {S : Type} {wl : S → va_W} {Post : Option Value → S → Prop} {PX : String → S → Prop} {pc : Nat} {ls : Array Slot}
theorem ar_throw {cls text : String} {ik is ic f k : Nat} {rest : List Value} {u : S} (C : ar_C p l s m meth c cc n own args D ct A) (hW : ar_W D A s.heap H locs (wl u)) (hX : ar_X own ik is ic cls text) (hsize : ls.size = n)
    (d0 : decode cc pc = .ok (.new ik, 3)) (d3 : decode cc (pc + 3) = .ok (.dup, 1)) (d4 : decode cc (pc + 4) = .ok (.ldc is, 2)) (d6 : decode cc (pc + 6) = .ok (.invokespecial ic, 3)) (d9 : decode cc (pc + 9) = .ok (.athrow, 1))
    (hf : 6 ≤ f) (hk9 : (rest.map fun v => v.category).sum + 82 ≤ k) (hp : PX cls u) :
    W p l e (ar_rm f k) s m args below meth c H locs 0 0 (ar_E below (ar_Q D ct wl A Post PX) args s) (F0 m pc ls rest) := by
  obtain ⟨hx, hb, hml, hown, hts, hK, hV, hH, hA, hlocks, htab, hl⟩ := C
  obtain ⟨x1, x2, x3, x4, x5, x6, x7, x8⟩ := hX
  obtain ⟨sa, hsa⟩ := hV.2.2.1 _ x6
  have hat : ∀ w ∈ vx_atS own ic cls ar_up, w.before args s = true := vx_hat (fun w hw => hts w (ar_in x3 w hw)) x4 (vx_c (va_Nw.use rfl (hV.2.1 _ x7)) (fun w hw => by
    obtain ⟨z, hz, rfl⟩ := List.mem_map.mp hw
    exact va_Nw.use rfl (hV.2.2.2 _ hz)))
  refine ar_mono ?_ (vx_throwS (Qc := fun _ _ _ _ => False) (XC := fun E st t => E = cls ∧ s.vm.Alike t.vm ∧ H.size ≤ t.heap.size ∧ ∀ q : Nat, q < H.size → t.heap[q]? = H[q]?) (free := A) (mc := 1) (ms := 6) (A := A) (names := ar_up) hx hb hl hown x8 (by decide) (hts _ x1) (hts _ x2) hsa hat x5 hH.1 hH.2 hW.2.2 (by rw [hml]; exact hsize) d0 d3 d4 d6 d9 (fun x hx => (htab x hx).elim) (by show 2 + 3 < f; omega) (by show (rest.map fun v => v.category).sum + (13 * (2 + 1) + 43) ≤ k; omega) (Nat.le_refl _) (Nat.le_refl _) hlocks (fun t h1 h2 h3 => ⟨rfl, h1, h2, h3⟩) hW.2.2.2.2 (Nat.le_refl _) (Nat.le_refl _))
  rintro t ⟨o, h1, h2, ⟨h3, -⟩ | ⟨q, h3, E, ce, L, ⟨rfl, g1, g2, g3⟩, h5, h6, h7, h8, h9, h10⟩⟩
  · exact h3.elim
  · refine ⟨o, h1, h2, Or.inr ⟨q, E, ce, u, h3, hp, ⟨hW.1.kept (fun k q hq => g3 _ (hW.1 k q hq).lt), va_K.moved g1 hK, hW.2.1⟩, ⟨Nat.le_trans hW.2.2.1 g2, fun q h11 h12 => ?_⟩, h5, h6, h7, h8, L, h9, h10⟩⟩
    rw [g3 q (Nat.lt_of_lt_of_le h11 hW.2.2.1)]
    exact hW.2.2.2.1 q h11 h12
end AR2
section AR3
variable {l : Launch} {p : Program} {e : Env} {below : List Frame} {s : State} {args : Array Value} {m : MethodId} {meth : Method} {c : Code} {R : Room} {T : State} {H : Heap} {locs : List Loc}
variable {y : MethodName} {bytes : ByteArray} {maxL : Nat} {ret : Option FieldType} {f k : Nat} {D : va_G} {ct : Nat → ClassId} {S : Type} {wl : S → va_W} {As : List Value} {u0 : S} {Post : Option Value → S → Prop} {PX : String → S → Prop}
/-- behind a call: returned, or thrown -/
def ar_Bk (p : Program) (l : Launch) (e : Env) (R : Room) (s : State) (m : MethodId) (args : Array Value) (below : List Frame) (meth : Method) (c : Code) (H : Heap) (locs : List Loc) (D : va_G) (ct : Nat → ClassId) {S : Type} (wl : S → va_W) (A1 : Nat → Prop) (Post : Option Value → S → Prop) (PX : String → S → Prop) (s0 : State) (g : JFrame) : Prop :=
  (∃ (v : Option Value) (u : S) (t T' : State) (L : List Loc), Stand p l e R s m args below meth c T' (locs ++ L) 0 0 ∧ (∀ q ∈ L, A1 q.base) ∧ T'.heap = t.heap ∧ Post v u ∧ ar_B D ct (wl u) A1 t ∧ s.vm.Alike t.vm ∧ H.size ≤ t.heap.size ∧ (∀ q : Nat, q < H.size → ¬ A1 q → t.heap[q]? = H[q]?) ∧
    Steps p.tables e below s0 (T'.setTop { g with pc := g.pc + 3, stack := v.toList ++ g.stack })) ∨
  (∃ (q : Addr) (E : String) (ce : Cell) (u : S) (t T' : State) (L : List Loc), Stand p l e R s m args below meth c T' (locs ++ L) 1 6 ∧ (∀ q ∈ L, A1 q.base) ∧ T'.heap = t.heap ∧ PX E u ∧ ar_B D ct (wl u) A1 t ∧ s.vm.Alike t.vm ∧ H.size ≤ t.heap.size ∧ (∀ q : Nat, q < H.size → ¬ A1 q → t.heap[q]? = H[q]?) ∧ t.heap[q]? = some ce ∧ ce.vm = .none ∧ s.vm.findClass E = some ce.cls ∧
    Steps p.tables e below s0 ((T'.setTop g).pushFrame (.throwing q)))
theorem ar_back {U : State} {sz : Nat} (hM : MetFree l y (headSpec (ar_ws y bytes maxL ret) (ar_rm f k)) (va_Pc As (ar_P D ct (wl u0) sz)) (fun _ _ _ _ _ => True) (ar_Q D ct wl (va_A (wl u0) sz) Post PX))
    (hframes : f + 1 ≤ R.frames) (hlocals : 8 + (maxL + 11) + k ≤ R.locals) (hc1 : 1 ≤ R.cells) (hs1 : 6 ≤ R.slots)
    (hts : ∀ w ∈ lw_all, w.before args s = true) (hcode : Cond.code y bytes maxL ret ∈ lw_all) (hinit : Cond.initialized y.cls ∈ lw_all)
    (X : Stand p l e R s m args below meth c U locs 0 0) (hP : ar_P D ct (wl u0) sz U) {g : JFrame} {ig : Instr} {mk : MethodId} (hg : g.method = m) (hsize : g.locals.size = c.maxLocals) (hdg : decode c.code g.pc = .ok (ig, 3)) (hW9 : 2 * g.monitorRoom + (g.stack.map fun v => v.category).sum ≤ 8) (hn : U.methodNamed? y = some mk) :
    ar_Bk p l e R s m args below meth c U.heap locs D ct wl (va_A (wl u0) sz) Post PX (doInvoke e (U.setTop g) [] mk As.toArray).1 g := by
  have hws : ∀ w ∈ lw_all, ∀ a' : Array Value, w.before a' U = true := fun w hw a' => word_at X.warmed (lw_allGood hw) (hts w hw)
  have h1 : (headSpec (ar_ws y bytes maxL ret) (ar_rm f k)).pre.before As.toArray U = true := atoms_intro fun w hw => (List.mem_cons.mp hw).elim (fun e => by rw [e]; exact hws _ hcode _) (fun h => hws w h _)
  have h2 : (Cond.code y bytes maxL ret).before As.toArray U = true := hws _ hcode _
  have h3 : (Cond.initialized y.cls).before As.toArray U = true := hws _ hinit _
  have hPc : va_Pc As (ar_P D ct (wl u0) sz) As.toArray (U.calling g mk As.toArray) := by
    obtain ⟨q1, q2, q3, q4, q5, q6⟩ := hP
    exact ⟨rfl, q1, q2, va_K.moved (u := U) (U := U.calling g mk As.toArray) (Vm.Alike.refl U.vm) q3, q4, ar_V.same (u := U) rfl q5, ar_H.moved (u := U) (Vm.Alike.refl U.vm) q6⟩
  obtain ⟨methY, cY, hmY, hcY, -, hlY, -, -, -, -⟩ := Cond.code_spec hn h2
  obtain ⟨kY, hkY, -⟩ := className_of_methodNamed hn
  have hinitY : kY.init = .initialized := Cond.initialized_spec (findClass_of_methodNamed hn) hkY h3
  have h : At U g.method c below := by rw [hg]; exact X.here
  have happ : (headSpec (ar_ws y bytes maxL ret) (ar_rm f k)).appliesLoose y e.platform (U.calling g mk As.toArray) = true :=
    Spec.appliesLoose_calling (g := g) h hdg hn hkY hinitY
      (X.room_calling (g := g) (R' := (headSpec (ar_ws y bytes maxL ret) (ar_rm f k)).room) hsize hmY hcY hframes (by rw [hlY]; show _ + k ≤ _; omega) (by show 0 + 1 ≤ R.cells; omega) (by show 0 + 6 ≤ R.slots; omega)) h1
  obtain ⟨mid, hmid⟩ := h.above
  have hfr : (U.setTop g).frames = (.java g :: mid) ++ below := by rw [State.frames_setTop' g h.top, hmid]; rfl
  obtain ⟨o, s₂, hsteps, -, hend, hq⟩ := Steps.callFree hM p X.admits X.cas X.clock (acts := []) hfr happ hPc trivial
  have hq' : ar_Q D ct wl (va_A (wl u0) sz) Post PX As.toArray (U.calling g mk As.toArray) o s₂ := hq
  rw [State.frames_setTop' g h.top] at hend
  obtain ⟨g₀, hg0⟩ := Option.isSome_iff_exists.mp h.top
  obtain ⟨r, hr⟩ := State.topJava?_eq_some.mp hg0
  have hr' : (({ U with heap := s₂.heap, slotsUsed := s₂.slotsUsed } : State).setVm s₂.vm).frames = .java g₀ :: r := hr
  rcases hq' with ⟨v, u, rfl, hpo, hB, hF, L, hfe, hL⟩ | ⟨q, E, ce, u, rfl, hpo, hB, hF, hce, hcv, hcl, hW₂, L, hsm, hL⟩
  · obtain ⟨-, hW₂, e2, q2, q3, q4, q5, q6⟩ := id hfe
    have e3 : s₂ = ({ (U.calling g mk As.toArray).setFrames s₂.frames with heap := s₂.heap, slotsUsed := s₂.slotsUsed } : State).setVm s₂.vm := by
      have : s₂ = ({ s₂ with vm := (U.calling g mk As.toArray).vm } : State).setVm s₂.vm := rfl
      rw [e2] at this
      exact this
    obtain ⟨c₂, i₂, len₂, hc₂, hd₂, hf₂⟩ := hend
    have hW' : U.WarmedH s₂.vm := hW₂
    have hcc : c₂ = c := by
      have h1 : s₂.code? g.method = U.code? g.method := by
        rw [State.code?_eq, State.code?_eq, hW'.alike.method?]
      exact Option.some.inj (hc₂.symm.trans (h1.trans h.code))
    subst hcc
    have hlen : len₂ = 3 := by rw [hdg] at hd₂; cases hd₂; rfl
    subst hlen
    have hs₂ : s₂ = (({ U with heap := s₂.heap, slotsUsed := s₂.slotsUsed } : State).setVm s₂.vm).setTop { g with pc := g.pc + 3, stack := v.toList ++ g.stack } := by
      refine e3.trans ?_
      rw [hf₂, State.calling_eq h.top, State.setFrames_setFrames, State.setTop_of_frames _ hr', hr]
      rfl
    have hsame : U.sameButNew ({ U with heap := s₂.heap, slotsUsed := s₂.slotsUsed } : State) L 0 0 := by
      refine ⟨?_, q2, q3, q4, q5, q6⟩
      obtain ⟨t, ht, -⟩ := State.frames_cons hr
      show ({ U with heap := s₂.heap, slotsUsed := s₂.slotsUsed } : State) = { U.setFrames U.frames with heap := s₂.heap, slotsUsed := s₂.slotsUsed }
      rw [State.setFrames_self ht]
    subst hg
    refine Or.inl ⟨v, u, s₂, (({ U with heap := s₂.heap, slotsUsed := s₂.slotsUsed } : State).setVm s₂.vm), L,
      ⟨X.admits, X.cas, X.clock, X.frames, X.room, X.hears, X.method, X.code, (X.here.setHeapUsed s₂.heap s₂.slotsUsed).setVm hW'.alike, X.tail, State.WarmedH.trans X.warmed hW', X.limits, X.bytes, X.same.trans (hsame.setVm s.vm)⟩,
      hL, rfl, hpo, hB, (State.WarmedH.trans X.warmed hW').alike, hF.1, hF.2, ?_⟩
    show Steps p.tables e below _ ((({ U with heap := s₂.heap, slotsUsed := s₂.slotsUsed } : State).setVm s₂.vm).setTop { g with pc := g.pc + 3, stack := v.toList ++ g.stack })
    rw [← hs₂]
    exact hsteps
  · obtain ⟨e2, q2, q3, q4, q5, q6⟩ := id hsm
    have e3 : s₂ = ({ (U.calling g mk As.toArray).setFrames s₂.frames with heap := s₂.heap, slotsUsed := s₂.slotsUsed } : State).setVm s₂.vm := by
      have : s₂ = ({ s₂ with vm := (U.calling g mk As.toArray).vm } : State).setVm s₂.vm := rfl
      rw [e2] at this
      exact this
    have hf₂ : s₂.frames = .throwing q :: .java g :: U.frames.tail := hend
    have hW' : U.WarmedH s₂.vm := hW₂
    have hs₂ : s₂ = ((({ U with heap := s₂.heap, slotsUsed := s₂.slotsUsed } : State).setVm s₂.vm).setTop g).pushFrame (.throwing q) := by
      refine e3.trans ?_
      rw [hf₂, State.calling_eq h.top, State.setFrames_setFrames, State.pushFrame, State.frames_setTop _ hr', State.setTop_of_frames _ hr', State.setFrames_setFrames, hr]
      rfl
    have hsame : U.sameButNew ({ U with heap := s₂.heap, slotsUsed := s₂.slotsUsed } : State) L 1 6 := by
      refine ⟨?_, q2, q3, q4, q5, q6⟩
      obtain ⟨t, ht, -⟩ := State.frames_cons hr
      show ({ U with heap := s₂.heap, slotsUsed := s₂.slotsUsed } : State) = { U.setFrames U.frames with heap := s₂.heap, slotsUsed := s₂.slotsUsed }
      rw [State.setFrames_self ht]
    subst hg
    have hclU : U.vm.findClass E = some ce.cls := hcl
    refine Or.inr ⟨q, E, ce, u, s₂, (({ U with heap := s₂.heap, slotsUsed := s₂.slotsUsed } : State).setVm s₂.vm), L,
      ⟨X.admits, X.cas, X.clock, X.frames, X.room, X.hears, X.method, X.code, (X.here.setHeapUsed s₂.heap s₂.slotsUsed).setVm hW'.alike, X.tail, State.WarmedH.trans X.warmed hW', X.limits, X.bytes, X.same.trans (hsame.setVm s.vm)⟩,
      hL, rfl, hpo, hB, (State.WarmedH.trans X.warmed hW').alike, hF.1, hF.2, hce, hcv, ?_, ?_⟩
    · rw [X.warmed.alike.findClass] at hclU
      exact hclU
    · show Steps p.tables e below _ (((({ U with heap := s₂.heap, slotsUsed := s₂.slotsUsed } : State).setVm s₂.vm).setTop g).pushFrame (.throwing q))
      rw [← hs₂]
      exact hsteps
end AR3
end
section
section AR4
variable {p : Program} {l : Launch} {e : Env} {s : State} {m : MethodId} {args : Array Value} {below : List Frame} {meth : Method} {c : Code} {H : Heap} {locs : List Loc} {cc : ByteArray} {n : Nat} {own : String} {D : va_G} {ct : Nat → ClassId} {A : Nat → Prop}
variable {S : Type} {wl : S → va_W} {Post : Option Value → S → Prop} {PX : String → S → Prop} {pc f k : Nat} {ls : Array Slot} {rest st0 : List Value} {Q : State → Prop}
/-- thrown over this frame: it goes on to the caller -/
theorem ar_out {E : String} {ce : Cell} {q : Addr} {u : S} {R : Room} (C : ar_C p l s m meth c cc n own args D ct A) (hW : ar_W D A s.heap H locs (wl u)) (h1 : H[q]? = some ce) (h2 : ce.vm = .none) (h3 : s.vm.findClass E = some ce.cls) (hp : PX E u) :
    vx_W p l e R s m args below meth c H locs 1 6 (ar_E below (ar_Q D ct wl A Post PX) args s) (F0 m pc ls rest) q := by
  obtain ⟨hx, hb, hml, hown, hts, hK, hV, hH, hA, hlocks, htab, hl⟩ := C
  intro T hT X
  obtain ⟨t, a1, o, b1, b2, b3⟩ := vx_out (Qc := fun _ _ _ _ => False) (XC := fun E9 st t => E9 = E ∧ s.vm.Alike t.vm ∧ t.heap = H) (free := A) (mc := 1) (ms := 6) (pc := pc) (ls := ls) (rest := rest) (fun x hx => (htab x hx).elim) hlocks h1 h2 h3 (fun t h1 h2 => ⟨rfl, h2, h1⟩) hW.2.2.2.2 (Nat.le_refl _) (Nat.le_refl _) T hT X
  refine ⟨t, a1, o, b1, b2, ?_⟩
  rcases b3 with ⟨b3, -⟩ | ⟨q9, h4, E9, ce9, L, ⟨rfl, g1, g2⟩, h5, h6, h7, h8, h9, h10⟩
  · exact b3.elim
  · exact Or.inr ⟨q9, E9, ce9, u, h4, hp, ⟨by rw [g2]; exact hW.1, va_K.moved g1 hK, hW.2.1⟩, hW.2.2.F g2, h5, h6, h7, h8, L, h9, h10⟩
theorem ar_pre {u0 : S} {U : State} (C : ar_C p l s m meth c cc n own args D ct A) (hW : ar_W D A s.heap H locs (wl u0)) (hU : U.heap = H) (hvm : s.WarmedH U.vm) : ar_P D ct (wl u0) H.size U := by
  obtain ⟨hx, hb, hml, hown, hts, hK, hV, hH, hA, hlocks, htab, hl⟩ := C
  refine ⟨by rw [hU], by rw [hU]; exact hW.1, va_K.moved hvm.alike hK, hW.2.1.weaken (fun _ _ _ _ => trivial), hV.warm hvm, ?_⟩
  rw [hU]
  exact ((hH.kept hW.2.2.2.1).moved hvm.alike).narrow (ar_free hW hA)
/-- a call done: what comes behind it -/
theorem ar_fin {u0 : S} {y : MethodName} {Post9 : Option Value → S → Prop} {PX9 : String → S → Prop} {T : State} (C : ar_C p l s m meth c cc n own args D ct A) (hW : ar_W D A s.heap H locs (wl u0))
    (hB : ar_Bk p l e (ar_rm f k) s m args below meth c H locs D ct wl (va_A (wl u0) H.size) Post9 PX9 T (F0 m pc ls rest)) {T0 : State} (hst : ∀ t, Steps p.tables e below T t → Steps p.tables e below T0 t)
    (kx : ∀ (E : String) (ce : Cell) (q : Addr) (u : S) (H1 : Heap) (locs1 : List Loc), PX9 E u → ar_W D A s.heap H1 locs1 (wl u) → H1[q]? = some ce → ce.vm = .none → s.vm.findClass E = some ce.cls → vx_W p l e (ar_rm f k) s m args below meth c H1 locs1 1 6 Q (F0 m pc ls rest) q)
    (kk : ∀ (v : Option Value) (u : S) (H1 : Heap) (locs1 : List Loc), Post9 v u → ar_W D A s.heap H1 locs1 (wl u) → W p l e (ar_rm f k) s m args below meth c H1 locs1 0 0 Q (F0 m (pc + 3) ls (v.toList ++ rest))) : ∃ t, Steps p.tables e below T0 t ∧ Q t := by
  have hfr := ar_free hW C.2.2.2.2.2.2.2.2.1
  have hWn : ∀ (u : S) (t : State) (L : List Loc), ar_B D ct (wl u) (va_A (wl u0) H.size) t → H.size ≤ t.heap.size → (∀ q : Nat, q < H.size → ¬ va_A (wl u0) H.size q → t.heap[q]? = H[q]?) → (∀ q ∈ L, va_A (wl u0) H.size q.base) → ar_W D A s.heap t.heap (locs ++ L) (wl u) := by
    intro u t L b1 b2 b3 b4
    refine ⟨b1.1, b1.2.2.weaken (fun k q _ h => hfr _ h), Nat.le_trans hW.2.2.1 b2, fun q h1 h2 => ?_, fun q hq => ?_⟩
    · rw [b3 q (Nat.lt_of_lt_of_le h1 hW.2.2.1) (fun z => h2 (hfr q z))]
      exact hW.2.2.2.1 q h1 h2
    · rcases List.mem_append.mp hq with h | h
      · exact hW.2.2.2.2 q h
      · exact hfr _ (b4 q h)
  rcases hB with ⟨v, u, t, T', L, X', hL, e1, hp, hB9, hal, hz, hkp, st⟩ | ⟨q, E, ce, u, t, T', L, X', hL, e1, hp, hB9, hal, hz, hkp, hce, hcv, hcl, st⟩
  · obtain ⟨t2, a1, b1⟩ := kk v u t.heap (locs ++ L) hp (hWn u t L hB9 hz hkp hL) T' e1 X'
    exact ⟨t2, hst _ (st.trans a1), b1⟩
  · obtain ⟨t2, a1, b1⟩ := kx E ce q u t.heap (locs ++ L) hp (hWn u t L hB9 hz hkp hL) hce hcv hcl T' e1 X'
    exact ⟨t2, hst _ (st.trans a1), b1⟩
/-- a static call -/
theorem ar_callS {u0 : S} {y : MethodName} {bytes : ByteArray} {maxL f9 k9 index : Nat} {ret : Option FieldType} {As : List Value} {Post9 : Option Value → S → Prop} {PX9 : String → S → Prop} (C : ar_C p l s m meth c cc n own args D ct A) (hW : ar_W D A s.heap H locs (wl u0)) (hM : ar_M l y bytes maxL ret f9 k9 D ct wl As u0 Post9 PX9)
    (q1 : Cond.methodLink own index y ∈ lw_all) (q2 : Cond.static y ∈ lw_all) (q3 : Cond.initialized y.cls ∈ lw_all) (q4 : Cond.code y bytes maxL ret ∈ lw_all)
    (hd : y.cls ≠ "java/lang/invoke/MethodHandle" ∧ y.cls ≠ "java/lang/invoke/VarHandle" ∧ (parseMethodDescriptor y.desc).map (fun d => d.parameters.length) = some As.length) (hR : f9 + 1 ≤ f ∧ 8 + (maxL + 11) + k9 ≤ k) (hls : ls.size = n) (hrest : (rest.map fun v => v.category).sum ≤ 8) (hst : st0 = As.reverse ++ rest) (hdg : decode cc pc = .ok (.invokestatic index, 3))
    (kx : ∀ (E : String) (ce : Cell) (q : Addr) (u : S) (H1 : Heap) (locs1 : List Loc), PX9 E u → ar_W D A s.heap H1 locs1 (wl u) → H1[q]? = some ce → ce.vm = .none → s.vm.findClass E = some ce.cls → vx_W p l e (ar_rm f k) s m args below meth c H1 locs1 1 6 Q (F0 m pc ls rest) q)
    (kk : ∀ (v : Option Value) (u : S) (H1 : Heap) (locs1 : List Loc), Post9 v u → ar_W D A s.heap H1 locs1 (wl u) → W p l e (ar_rm f k) s m args below meth c H1 locs1 0 0 Q (F0 m (pc + 3) ls (v.toList ++ rest))) : W p l e (ar_rm f k) s m args below meth c H locs 0 0 Q (F0 m pc ls st0) := by
  obtain ⟨hx, hb, hml, hown, hts, hK, hV, hH, hA, hlocks, htab, hl⟩ := id C
  intro T hT X
  have hcode := hts _ q4
  obtain ⟨mk, hnamed⟩ := Cond.code_named hcode
  obtain ⟨methM, cM, hmethM, -, -, -, -, -, -, hsigM⟩ := Cond.code_spec hnamed hcode
  have hstatic : methM.isStatic = true := Cond.static_spec hnamed hmethM (hts _ q2)
  obtain ⟨kP, hkP, -⟩ := className_of_methodNamed hnamed
  have hinitP : kP.init = .initialized := Cond.initialized_spec (findClass_of_methodNamed hnamed) hkP (hts _ q3)
  have hlen : As.length = methM.sig.parameters.length := by
    have h2 := hd.2.2
    rw [hsigM] at h2
    exact (Option.some.inj h2).symm
  obtain ⟨vm₁, X₁, hstep₁⟩ := X.invokestatic hx hown (hts _ q1) hnamed hmethM hstatic hkP hinitP ⟨hd.1, hd.2.1⟩ (g := F0 m pc ls st0) rfl (argsL := As) (rest := rest) hlen hst (by rw [hb]; exact hdg)
  have hB := ar_back (R := ar_rm f k) (hM H.size) hR.1 hR.2 (Nat.le_refl _) (Nat.le_refl _) hts q4 q3 X₁ (ar_pre C hW (U := T.setVm vm₁) hT X₁.warmed) (g := F0 m pc ls rest) (ig := .invokestatic index) (mk := mk) rfl (hls.trans hml.symm) (by rw [hb]; exact hdg) (by show 2 * 0 + (rest.map fun v => v.category).sum ≤ 8; omega) (X₁.named hnamed)
  rw [show (T.setVm vm₁).heap = H from hT] at hB
  exact ar_fin (y := y) C hW hB (fun t h => hstep₁ _ fun acts => by rw [doInvoke_state]; exact h) kx kk
/-- a static call of a nest mate's private method -/
theorem ar_callN {u0 : S} {y : MethodName} {bytes : ByteArray} {maxL f9 k9 index : Nat} {ret : Option FieldType} {As : List Value} {Post9 : Option Value → S → Prop} {PX9 : String → S → Prop} (C : ar_C p l s m meth c cc n own args D ct A) (hW : ar_W D A s.heap H locs (wl u0)) (hM : ar_M l y bytes maxL ret f9 k9 D ct wl As u0 Post9 PX9)
    (q1 : (own, index, y) ∈ ar_nests) (q2 : Cond.static y ∈ lw_all) (q3 : Cond.initialized y.cls ∈ lw_all) (q4 : Cond.code y bytes maxL ret ∈ lw_all)
    (hd : y.cls ≠ "java/lang/invoke/MethodHandle" ∧ y.cls ≠ "java/lang/invoke/VarHandle" ∧ (parseMethodDescriptor y.desc).map (fun d => d.parameters.length) = some As.length) (hR : f9 + 1 ≤ f ∧ 8 + (maxL + 11) + k9 ≤ k) (hls : ls.size = n) (hrest : (rest.map fun v => v.category).sum ≤ 8) (hst : st0 = As.reverse ++ rest) (hdg : decode cc pc = .ok (.invokestatic index, 3))
    (kx : ∀ (E : String) (ce : Cell) (q : Addr) (u : S) (H1 : Heap) (locs1 : List Loc), PX9 E u → ar_W D A s.heap H1 locs1 (wl u) → H1[q]? = some ce → ce.vm = .none → s.vm.findClass E = some ce.cls → vx_W p l e (ar_rm f k) s m args below meth c H1 locs1 1 6 Q (F0 m pc ls rest) q)
    (kk : ∀ (v : Option Value) (u : S) (H1 : Heap) (locs1 : List Loc), Post9 v u → ar_W D A s.heap H1 locs1 (wl u) → W p l e (ar_rm f k) s m args below meth c H1 locs1 0 0 Q (F0 m (pc + 3) ls (v.toList ++ rest))) : W p l e (ar_rm f k) s m args below meth c H locs 0 0 Q (F0 m pc ls st0) := by
  obtain ⟨hx, hb, hml, hown, hts, hK, hV, hH, hA, hlocks, htab, hl⟩ := id C
  intro T hT X
  have hcode := hts _ q4
  obtain ⟨mk, hnamed⟩ := Cond.code_named hcode
  obtain ⟨methM, cM, hmethM, -, -, -, -, -, -, hsigM⟩ := Cond.code_spec hnamed hcode
  have hstatic : methM.isStatic = true := Cond.static_spec hnamed hmethM (hts _ q2)
  obtain ⟨kP, hkP, -⟩ := className_of_methodNamed hnamed
  have hinitP : kP.init = .initialized := Cond.initialized_spec (findClass_of_methodNamed hnamed) hkP (hts _ q3)
  have hlen : As.length = methM.sig.parameters.length := by
    have h2 := hd.2.2
    rw [hsigM] at h2
    exact (Option.some.inj h2).symm
  obtain ⟨vm₁, X₁, hstep₁⟩ := X.invokestaticNest hx hown (va_Nw.use rfl (hV.1 _ q1)) hnamed hmethM hstatic hkP hinitP ⟨hd.1, hd.2.1⟩ (g := F0 m pc ls st0) rfl (argsL := As) (rest := rest) hlen hst (by rw [hb]; exact hdg)
  have hB := ar_back (R := ar_rm f k) (hM H.size) hR.1 hR.2 (Nat.le_refl _) (Nat.le_refl _) hts q4 q3 X₁ (ar_pre C hW (U := T.setVm vm₁) hT X₁.warmed) (g := F0 m pc ls rest) (ig := .invokestatic index) (mk := mk) rfl (hls.trans hml.symm) (by rw [hb]; exact hdg) (by show 2 * 0 + (rest.map fun v => v.category).sum ≤ 8; omega) (X₁.named hnamed)
  rw [show (T.setVm vm₁).heap = H from hT] at hB
  exact ar_fin (y := y) C hW hB (fun t h => hstep₁ _ fun acts => by rw [doInvoke_state]; exact h) kx kk
/-- a call on an object of the method's own class -/
theorem ar_callV {u0 : S} {y : MethodName} {bytes : ByteArray} {maxL f9 k9 index b q0 ci N9 : Nat} {T9 : u_T} {fs : List Value} {ret : Option FieldType} {As : List Value} {Post9 : Option Value → S → Prop} {PX9 : String → S → Prop} (C : ar_C p l s m meth c cc n own args D ct A) (hW : ar_W D A s.heap H locs (wl u0)) (hM : ar_M l y bytes maxL ret f9 k9 D ct wl (.ref b :: As) u0 Post9 PX9)
    (he : (wl u0)[q0]? = some (b, .inr (ci, fs))) (hc9 : vwCl[ci]? = some (y.cls, T9, N9))
    (q1 : Cond.methodLink own index y ∈ lw_all) (q2 : Cond.instanceMethod y ∈ lw_all) (q5 : Cond.selects y.cls y y ∈ lw_all) (q3 : Cond.initialized y.cls ∈ lw_all) (q4 : Cond.code y bytes maxL ret ∈ lw_all)
    (hd : y.cls ≠ "java/lang/invoke/MethodHandle" ∧ y.cls ≠ "java/lang/invoke/VarHandle" ∧ (parseMethodDescriptor y.desc).map (fun d => d.parameters.length) = some As.length) (hR : f9 + 1 ≤ f ∧ 8 + (maxL + 11) + k9 ≤ k) (hls : ls.size = n) (hrest : (rest.map fun v => v.category).sum ≤ 8) (hst : st0 = As.reverse ++ .ref b :: rest) (hdg : decode cc pc = .ok (.invokevirtual index, 3))
    (kx : ∀ (E : String) (ce : Cell) (q : Addr) (u : S) (H1 : Heap) (locs1 : List Loc), PX9 E u → ar_W D A s.heap H1 locs1 (wl u) → H1[q]? = some ce → ce.vm = .none → s.vm.findClass E = some ce.cls → vx_W p l e (ar_rm f k) s m args below meth c H1 locs1 1 6 Q (F0 m pc ls rest) q)
    (kk : ∀ (v : Option Value) (u : S) (H1 : Heap) (locs1 : List Loc), Post9 v u → ar_W D A s.heap H1 locs1 (wl u) → W p l e (ar_rm f k) s m args below meth c H1 locs1 0 0 Q (F0 m (pc + 3) ls (v.toList ++ rest))) : W p l e (ar_rm f k) s m args below meth c H locs 0 0 Q (F0 m pc ls st0) := by
  obtain ⟨hx, hb, hml, hown, hts, hK, hV, hH, hA, hlocks, htab, hl⟩ := id C
  intro T hT X
  obtain ⟨cellB, hcB, hobj, hcls⟩ := va_recv hK hW.1 hc9 he
  have hcode := hts _ q4
  obtain ⟨mk, methM, hnamed, hmethM, hstM, habM⟩ := Cond.instanceMethod_spec (hts _ q2)
  obtain ⟨methM', cM, hmethM', -, -, -, -, -, -, hsigM⟩ := Cond.code_spec hnamed hcode
  cases hmethM.symm.trans hmethM'
  obtain ⟨c2, r2, m2, z1, z2, z3, z4, kP, hkP, hkPi⟩ := Cond.selects_spec (hts _ q5)
  cases hcls.symm.trans z1
  cases (State.methodFound?_of_named hnamed ⟨hd.1, hd.2.1⟩).symm.trans z2
  cases hnamed.symm.trans z3
  have hselP : selectMethod e.platform s.vm cellB.cls mk = .method mk := by rw [Launch.admits_selectMethod X.admits]; exact z4
  have hlen : As.length = methM.sig.parameters.length := by
    have h2 := hd.2.2
    rw [hsigM] at h2
    exact (Option.some.inj h2).symm
  obtain ⟨vm₁, X₁, hstep₁⟩ := X.invokevirtual hx hown (hts _ q1) hnamed hmethM hstM hkP hkPi ⟨hd.1, hd.2.1⟩ (a := b) (cell := cellB) (by rw [hT]; exact hcB)
    (fun z h => by rw [h] at hobj; cases hobj) hselP hmethM habM hkP hkPi (g := F0 m pc ls st0) rfl (argsL := As) (rest := rest) hlen hst (by rw [hb]; exact hdg)
  have hB := ar_back (R := ar_rm f k) (hM H.size) hR.1 hR.2 (Nat.le_refl _) (Nat.le_refl _) hts q4 q3 X₁ (ar_pre C hW (U := T.setVm vm₁) hT X₁.warmed) (g := F0 m pc ls rest) (ig := .invokevirtual index) (mk := mk) rfl (hls.trans hml.symm) (by rw [hb]; exact hdg) (by show 2 * 0 + (rest.map fun v => v.category).sum ≤ 8; omega) (X₁.named hnamed)
  rw [show (T.setVm vm₁).heap = H from hT] at hB
  exact ar_fin (y := y) C hW hB (fun t h => hstep₁ _ fun acts => by rw [doInvoke_state]; exact h) kx kk
end AR4
end
section
section AW0
variable {p : Program} {l : Launch} {e : Env} {s : State} {m : MethodId} {args : Array Value} {below : List Frame} {meth : Method} {c : Code} {H : Heap} {locs : List Loc} {cc : ByteArray} {n : Nat} {own : String} {D : va_G} {ct : Nat → ClassId} {A : Nat → Prop} {R : Room} {cells slots : Nat}
variable {pc : Nat} {ls : Array Slot} {rest : List Value} {Q : State → Prop} {ws : va_W} {a q0 : Nat}
theorem ar_get {Cn : String} {T : u_T} {N ci index k : Nat} {fs : List Value} {v : Value} (C : ar_C p l s m meth c cc n own args D ct A) (hW : ar_W D A s.heap H locs ws) (hin : ∀ w ∈ u_ws Cn T N, w ∈ lw_all) (he : ws[q0]? = some (a, .inr (ci, fs))) (hc : vwCl[ci]? = some (Cn, T, N)) (hk : k < N) (hl : Cond.fieldLink own index (T k).1 (T k).2.1 (T k).2.2.1 ∈ lw_all) (hv : fs[k]? = some v) (hdg : decode cc pc = .ok (.getfield index, 3))
    (kk : W p l e R s m args below meth c H locs cells slots Q (F0 m (pc + 3) ls (v :: rest))) : W p l e R s m args below meth c H locs cells slots Q (F0 m pc ls (.ref a :: rest)) :=
  va_get C.1 C.2.1 C.2.2.2.2.1 hin C.2.2.2.1 C.2.2.2.2.2.1 hW.1 q0 he hc k hk (C.2.2.2.2.1 _ hl) (fun _ h => h) hv hdg kk
theorem ar_put {Cn : String} {T : u_T} {N ci index k : Nat} {fs : List Value} {v : Value} {ty0 : Nat → FieldType} {ty : FieldType} (C : ar_C p l s m meth c cc n own args D ct A) (hW : ar_W D A s.heap H locs ws) (hin : ∀ w ∈ u_ws Cn T N, w ∈ lw_all) (hty : ∀ k, k < N → parseFieldDescriptor (T k).2.2.1 = some (ty0 k)) (hnm : ∀ a, a < N → ∀ b, b < N → a ≠ b → (T a).2.1 ≠ (T b).2.1) (he : ws[q0]? = some (a, .inr (ci, fs))) (hc : vwCl[ci]? = some (Cn, T, N)) (hk : k < N) (hl : Cond.fieldLink own index (T k).1 (T k).2.1 (T k).2.2.1 ∈ lw_all) (hfin : (T k).2.2.2 = false) (hd : parseFieldDescriptor (T k).2.2.1 = some ty) (hn : narrow ty v = v) (hfit : fits ty v = true) (hlen : k < fs.length) (hdg : decode cc pc = .ok (.putfield index, 3))
    (kk : ∀ (H1 : Heap) (locs1 : List Loc), ar_W D A s.heap H1 locs1 (ws.set q0 (a, .inr (ci, fs.set k v))) → W p l e R s m args below meth c H1 locs1 cells slots Q (F0 m (pc + 3) ls rest)) : W p l e R s m args below meth c H locs cells slots Q (F0 m pc ls (v :: .ref a :: rest)) :=
  va_put C.1 C.2.1 C.2.2.2.2.1 hin ty0 hty hnm C.2.2.2.1 C.2.2.2.2.2.1 hW.1 hW.2.1 hW.2.2 q0 he hc k hk (C.2.2.2.2.1 _ hl) (fun _ h => h) hfin hd hn hfit hlen hdg (fun H1 locs1 h1 h2 h3 => kk H1 locs1 ⟨h1, h2, h3⟩)
theorem ar_cl {j N : Nat} (h : j < N) (hN : N < 2 ^ 31) : vp_in (nI j) N ∧ (nI j).toNatClampNeg = j := ⟨vp_in_nI h hN, nI_clamp (by omega)⟩
theorem ar_iald {N j : Nat} {f : Nat → Int32} (C : ar_C p l s m meth c cc n own args D ct A) (hW : ar_W D A s.heap H locs ws) (he : ws[q0]? = some (a, .inl (ct 2, N, .inl f))) (hj : j < N) (hN : N < 2 ^ 31) (hdg : decode cc pc = .ok (.iaload, 1))
    (kk : W p l e R s m args below meth c H locs cells slots Q (F0 m (pc + 1) ls (.int (f j) :: rest))) : W p l e R s m args below meth c H locs cells slots Q (F0 m pc ls (.int (nI j) :: .ref a :: rest)) :=
  va_iald C.1 C.2.1 C.2.2.2.2.2.1 hW.1 q0 2 he rfl (ar_cl hj hN).1 hdg (by rw [(ar_cl hj hN).2]; exact kk)
theorem ar_cald {N j : Nat} {f : Nat → Int32} (C : ar_C p l s m meth c cc n own args D ct A) (hW : ar_W D A s.heap H locs ws) (he : ws[q0]? = some (a, .inl (ct 0, N, .inl f))) (hj : j < N) (hN : N < 2 ^ 31) (hdg : decode cc pc = .ok (.caload, 1))
    (kk : W p l e R s m args below meth c H locs cells slots Q (F0 m (pc + 1) ls (.int (f j) :: rest))) : W p l e R s m args below meth c H locs cells slots Q (F0 m pc ls (.int (nI j) :: .ref a :: rest)) :=
  va_cald C.1 C.2.1 C.2.2.2.2.2.1 hW.1 q0 0 he rfl (ar_cl hj hN).1 hdg (by rw [(ar_cl hj hN).2]; exact kk)
theorem ar_dald {N j : Nat} {f : Nat → UInt64} (C : ar_C p l s m meth c cc n own args D ct A) (hW : ar_W D A s.heap H locs ws) (he : ws[q0]? = some (a, .inl (ct 1, N, .inr (.inr (.inr (.inl f)))))) (hj : j < N) (hN : N < 2 ^ 31) (hdg : decode cc pc = .ok (.daload, 1))
    (kk : W p l e R s m args below meth c H locs cells slots Q (F0 m (pc + 1) ls (.double (f j) :: rest))) : W p l e R s m args below meth c H locs cells slots Q (F0 m pc ls (.int (nI j) :: .ref a :: rest)) :=
  va_dald C.1 C.2.1 C.2.2.2.2.2.1 hW.1 q0 1 he rfl (ar_cl hj hN).1 hdg (by rw [(ar_cl hj hN).2]; exact kk)
theorem ar_aald {N j t0 : Nat} {ty : String} {f : Nat → Option Nat} {cA : ClassId} (C : ar_C p l s m meth c cc n own args D ct A) (hW : ar_W D A s.heap H locs ws) (he : ws[q0]? = some (a, .inl (cA, N, .inr (.inr (.inr (.inr f)))))) (ht : (ar_T ct)[t0]? = some (cA, .object ty)) (hj : j < N) (hN : N < 2 ^ 31) (hdg : decode cc pc = .ok (.aaload, 1))
    (kk : W p l e R s m args below meth c H locs cells slots Q (F0 m (pc + 1) ls (va_rf (f j) :: rest))) : W p l e R s m args below meth c H locs cells slots Q (F0 m pc ls (.int (nI j) :: .ref a :: rest)) :=
  va_aldq C.1 C.2.1 C.2.2.2.2.2.1 hW.1 q0 t0 he ht (ar_cl hj hN).1 hdg (by rw [(ar_cl hj hN).2]; exact kk)
theorem ar_iast {N j : Nat} {f : Nat → Int32} {x : Int32} (C : ar_C p l s m meth c cc n own args D ct A) (hW : ar_W D A s.heap H locs ws) (he : ws[q0]? = some (a, .inl (ct 2, N, .inl f))) (hj : j < N) (hN : N < 2 ^ 31) (hdg : decode cc pc = .ok (.iastore, 1))
    (kk : ∀ (H1 : Heap) (locs1 : List Loc), ar_W D A s.heap H1 locs1 (ws.set q0 (a, .inl (ct 2, N, .inl (va_up f j x)))) → W p l e R s m args below meth c H1 locs1 cells slots Q (F0 m (pc + 1) ls rest)) : W p l e R s m args below meth c H locs cells slots Q (F0 m pc ls (.int x :: .int (nI j) :: .ref a :: rest)) :=
  va_iast C.1 C.2.1 C.2.2.2.2.2.1 hW.1 hW.2.1 hW.2.2 q0 2 he rfl (ar_cl hj hN).1 hdg (fun H1 locs1 h1 h2 h3 => kk H1 locs1 ⟨by rw [(ar_cl hj hN).2] at h1; exact h1, by rw [(ar_cl hj hN).2] at h2; exact h2, h3⟩)
theorem ar_cast {N j : Nat} {f : Nat → Int32} {x : Int32} (hx : vp_nar .char x = x) (C : ar_C p l s m meth c cc n own args D ct A) (hW : ar_W D A s.heap H locs ws) (he : ws[q0]? = some (a, .inl (ct 0, N, .inl f))) (hj : j < N) (hN : N < 2 ^ 31) (hdg : decode cc pc = .ok (.castore, 1))
    (kk : ∀ (H1 : Heap) (locs1 : List Loc), ar_W D A s.heap H1 locs1 (ws.set q0 (a, .inl (ct 0, N, .inl (va_up f j x)))) → W p l e R s m args below meth c H1 locs1 cells slots Q (F0 m (pc + 1) ls rest)) : W p l e R s m args below meth c H locs cells slots Q (F0 m pc ls (.int x :: .int (nI j) :: .ref a :: rest)) :=
  va_cast C.1 C.2.1 C.2.2.2.2.2.1 hW.1 hW.2.1 hW.2.2 q0 0 he rfl (ar_cl hj hN).1 hdg (fun H1 locs1 h1 h2 h3 => kk H1 locs1 ⟨by rw [(ar_cl hj hN).2, hx] at h1; exact h1, by rw [(ar_cl hj hN).2, hx] at h2; exact h2, h3⟩)
theorem ar_dast {N j : Nat} {f : Nat → UInt64} {x : UInt64} (C : ar_C p l s m meth c cc n own args D ct A) (hW : ar_W D A s.heap H locs ws) (he : ws[q0]? = some (a, .inl (ct 1, N, .inr (.inr (.inr (.inl f)))))) (hj : j < N) (hN : N < 2 ^ 31) (hdg : decode cc pc = .ok (.dastore, 1))
    (kk : ∀ (H1 : Heap) (locs1 : List Loc), ar_W D A s.heap H1 locs1 (ws.set q0 (a, .inl (ct 1, N, .inr (.inr (.inr (.inl (va_up f j x))))))) → W p l e R s m args below meth c H1 locs1 cells slots Q (F0 m (pc + 1) ls rest)) : W p l e R s m args below meth c H locs cells slots Q (F0 m pc ls (.double x :: .int (nI j) :: .ref a :: rest)) :=
  va_dast C.1 C.2.1 C.2.2.2.2.2.1 hW.1 hW.2.1 hW.2.2 q0 1 he rfl (ar_cl hj hN).1 hdg (fun H1 locs1 h1 h2 h3 => kk H1 locs1 ⟨by rw [(ar_cl hj hN).2] at h1; exact h1, by rw [(ar_cl hj hN).2] at h2; exact h2, h3⟩)
end AW0
theorem ar_in0 : ∀ w ∈ u_ws RX0 TX0 6, w ∈ lw_all := by decide +kernel
theorem ar_in1 : ∀ w ∈ u_ws RX1 TX1 2, w ∈ lw_all := by decide +kernel
theorem ar_in5 : ∀ w ∈ u_ws RX5 TX5 3, w ∈ lw_all := by decide +kernel
theorem ar_in6 : ∀ w ∈ u_ws RX6 TX6 2, w ∈ lw_all := by decide +kernel
theorem ar_in8 : ∀ w ∈ u_ws RX8 TX8 5, w ∈ lw_all := by decide +kernel
theorem ar_in9 : ∀ w ∈ u_ws RX9 TX9 27, w ∈ lw_all := by decide +kernel
theorem ar_bz {v : Int32} (h : v = 0 ∨ v = 1) : narrow .boolean (.int v) = .int v ∧ fits .boolean (.int v) = true := by rcases h with rfl | rfl <;> decide
abbrev MS : Type := (Nat → Int32) × (Nat → Nat → Int32) × (Nat → Nat → UInt64)
def mL (ad : Nat → Nat) (ct : Nat → ClassId) (u : MS) : va_W := [(ad 0, .inr (7, [.ref (ad 1), .int (u.1 1), .ref (ad 2), .ref (ad 3), .ref (ad 4), .ref (ad 5), .ref (ad 6), .ref (ad 7), .int (u.1 8), .int (u.1 9), .ref (ad 8), .ref (ad 9), .ref (ad 10), .ref (ad 11), .ref (ad 12), .int (u.1 15), .int (u.1 16), .int (u.1 17), .int (u.1 18), .int (u.1 19), .int (u.1 20), .int (u.1 21), .int (u.1 22), .int (u.1 23), .int (u.1 24), .int (u.1 25), .int (u.1 26)])), (ad 1, .inl (ct 2, 40, .inl (u.2.1 1))), (ad 2, .inl (ct 2, 8, .inl (u.2.1 2))), (ad 3, .inl (ct 1, 192, .inr (.inr (.inr (.inl (u.2.2 3)))))), (ad 4, .inl (ct 2, 40, .inl (u.2.1 4))), (ad 5, .inl (ct 2, 40, .inl (u.2.1 5))), (ad 6, .inl (ct 2, 40, .inl (u.2.1 6))), (ad 7, .inl (ct 2, 40, .inl (u.2.1 7))), (ad 8, .inl (ct 1, 24, .inr (.inr (.inr (.inl (u.2.2 8)))))), (ad 9, .inl (ct 1, 24, .inr (.inr (.inr (.inl (u.2.2 9)))))), (ad 10, .inl (ct 1, 528, .inr (.inr (.inr (.inl (u.2.2 10)))))), (ad 11, .inl (ct 2, 22, .inl (u.2.1 11))), (ad 12, .inl (ct 2, 22, .inl (u.2.1 12)))]
section AWM
variable {p : Program} {l : Launch} {e : Env} {s : State} {m : MethodId} {args : Array Value} {below : List Frame} {meth : Method} {c : Code} {H : Heap} {locs : List Loc} {cc : ByteArray} {n : Nat} {own : String} {D : va_G} {ct : Nat → ClassId} {A : Nat → Prop} {R : Room} {cells slots : Nat}
variable {pc : Nat} {ls : Array Slot} {rest : List Value} {Q : State → Prop} {ad : Nat → Nat}
variable {g : Nat → Int32} {a : Nat → Nat → Int32} {d : Nat → Nat → UInt64}
theorem mg_text {index : Nat} (C : ar_C p l s m meth c cc n own args D ct A) (hW : ar_W D A s.heap H locs (mL ad ct (g, a, d))) (hl : Cond.fieldLink own index "ArrayTextModel" "text" "[I" ∈ lw_all) (hdg : decode cc pc = .ok (.getfield index, 3)) (kk : W p l e R s m args below meth c H locs cells slots Q (F0 m (pc + 3) ls (.ref (ad 1) :: rest))) : W p l e R s m args below meth c H locs cells slots Q (F0 m pc ls (.ref (ad 0) :: rest)) := ar_get (q0 := 0) (k := 0) C hW ar_in9 rfl rfl (by decide) hl rfl hdg kk
theorem mg_length {index : Nat} (C : ar_C p l s m meth c cc n own args D ct A) (hW : ar_W D A s.heap H locs (mL ad ct (g, a, d))) (hl : Cond.fieldLink own index "ArrayTextModel" "length" "I" ∈ lw_all) (hdg : decode cc pc = .ok (.getfield index, 3)) (kk : W p l e R s m args below meth c H locs cells slots Q (F0 m (pc + 3) ls (.int (g 1) :: rest))) : W p l e R s m args below meth c H locs cells slots Q (F0 m pc ls (.ref (ad 0) :: rest)) := ar_get (q0 := 0) (k := 1) C hW ar_in9 rfl rfl (by decide) hl rfl hdg kk
theorem mp_length {index : Nat} {v : Int32} (C : ar_C p l s m meth c cc n own args D ct A) (hW : ar_W D A s.heap H locs (mL ad ct (g, a, d))) (hl : Cond.fieldLink own index "ArrayTextModel" "length" "I" ∈ lw_all) (hdg : decode cc pc = .ok (.putfield index, 3)) (kk : ∀ (H1 : Heap) (locs1 : List Loc), ar_W D A s.heap H1 locs1 (mL ad ct (va_up g 1 v, a, d)) → W p l e R s m args below meth c H1 locs1 cells slots Q (F0 m (pc + 3) ls rest)) : W p l e R s m args below meth c H locs cells slots Q (F0 m pc ls (.int v :: .ref (ad 0) :: rest)) := ar_put (q0 := 0) (k := 1) (ty0 := tyX9) (ty := .int) C hW ar_in9 tyX9_ok nmX9 rfl rfl (by decide) hl rfl (by decide +kernel) rfl rfl (Nat.le_of_ble_eq_true rfl) hdg kk
theorem mg_shapes {index : Nat} (C : ar_C p l s m meth c cc n own args D ct A) (hW : ar_W D A s.heap H locs (mL ad ct (g, a, d))) (hl : Cond.fieldLink own index "ArrayTextModel" "shapes" "[I" ∈ lw_all) (hdg : decode cc pc = .ok (.getfield index, 3)) (kk : W p l e R s m args below meth c H locs cells slots Q (F0 m (pc + 3) ls (.ref (ad 2) :: rest))) : W p l e R s m args below meth c H locs cells slots Q (F0 m pc ls (.ref (ad 0) :: rest)) := ar_get (q0 := 0) (k := 2) C hW ar_in9 rfl rfl (by decide) hl rfl hdg kk
theorem mg_cells {index : Nat} (C : ar_C p l s m meth c cc n own args D ct A) (hW : ar_W D A s.heap H locs (mL ad ct (g, a, d))) (hl : Cond.fieldLink own index "ArrayTextModel" "cells" "[D" ∈ lw_all) (hdg : decode cc pc = .ok (.getfield index, 3)) (kk : W p l e R s m args below meth c H locs cells slots Q (F0 m (pc + 3) ls (.ref (ad 3) :: rest))) : W p l e R s m args below meth c H locs cells slots Q (F0 m pc ls (.ref (ad 0) :: rest)) := ar_get (q0 := 0) (k := 3) C hW ar_in9 rfl rfl (by decide) hl rfl hdg kk
theorem mg_symbol {index : Nat} (C : ar_C p l s m meth c cc n own args D ct A) (hW : ar_W D A s.heap H locs (mL ad ct (g, a, d))) (hl : Cond.fieldLink own index "ArrayTextModel" "symbol" "[I" ∈ lw_all) (hdg : decode cc pc = .ok (.getfield index, 3)) (kk : W p l e R s m args below meth c H locs cells slots Q (F0 m (pc + 3) ls (.ref (ad 4) :: rest))) : W p l e R s m args below meth c H locs cells slots Q (F0 m pc ls (.ref (ad 0) :: rest)) := ar_get (q0 := 0) (k := 4) C hW ar_in9 rfl rfl (by decide) hl rfl hdg kk
theorem mg_about {index : Nat} (C : ar_C p l s m meth c cc n own args D ct A) (hW : ar_W D A s.heap H locs (mL ad ct (g, a, d))) (hl : Cond.fieldLink own index "ArrayTextModel" "about" "[I" ∈ lw_all) (hdg : decode cc pc = .ok (.getfield index, 3)) (kk : W p l e R s m args below meth c H locs cells slots Q (F0 m (pc + 3) ls (.ref (ad 5) :: rest))) : W p l e R s m args below meth c H locs cells slots Q (F0 m pc ls (.ref (ad 0) :: rest)) := ar_get (q0 := 0) (k := 5) C hW ar_in9 rfl rfl (by decide) hl rfl hdg kk
theorem mg_many {index : Nat} (C : ar_C p l s m meth c cc n own args D ct A) (hW : ar_W D A s.heap H locs (mL ad ct (g, a, d))) (hl : Cond.fieldLink own index "ArrayTextModel" "many" "[I" ∈ lw_all) (hdg : decode cc pc = .ok (.getfield index, 3)) (kk : W p l e R s m args below meth c H locs cells slots Q (F0 m (pc + 3) ls (.ref (ad 6) :: rest))) : W p l e R s m args below meth c H locs cells slots Q (F0 m pc ls (.ref (ad 0) :: rest)) := ar_get (q0 := 0) (k := 6) C hW ar_in9 rfl rfl (by decide) hl rfl hdg kk
theorem mg_numbers {index : Nat} (C : ar_C p l s m meth c cc n own args D ct A) (hW : ar_W D A s.heap H locs (mL ad ct (g, a, d))) (hl : Cond.fieldLink own index "ArrayTextModel" "numbers" "[I" ∈ lw_all) (hdg : decode cc pc = .ok (.getfield index, 3)) (kk : W p l e R s m args below meth c H locs cells slots Q (F0 m (pc + 3) ls (.ref (ad 7) :: rest))) : W p l e R s m args below meth c H locs cells slots Q (F0 m pc ls (.ref (ad 0) :: rest)) := ar_get (q0 := 0) (k := 7) C hW ar_in9 rfl rfl (by decide) hl rfl hdg kk
theorem mg_symbols {index : Nat} (C : ar_C p l s m meth c cc n own args D ct A) (hW : ar_W D A s.heap H locs (mL ad ct (g, a, d))) (hl : Cond.fieldLink own index "ArrayTextModel" "symbols" "I" ∈ lw_all) (hdg : decode cc pc = .ok (.getfield index, 3)) (kk : W p l e R s m args below meth c H locs cells slots Q (F0 m (pc + 3) ls (.int (g 8) :: rest))) : W p l e R s m args below meth c H locs cells slots Q (F0 m pc ls (.ref (ad 0) :: rest)) := ar_get (q0 := 0) (k := 8) C hW ar_in9 rfl rfl (by decide) hl rfl hdg kk
theorem mp_symbols {index : Nat} {v : Int32} (C : ar_C p l s m meth c cc n own args D ct A) (hW : ar_W D A s.heap H locs (mL ad ct (g, a, d))) (hl : Cond.fieldLink own index "ArrayTextModel" "symbols" "I" ∈ lw_all) (hdg : decode cc pc = .ok (.putfield index, 3)) (kk : ∀ (H1 : Heap) (locs1 : List Loc), ar_W D A s.heap H1 locs1 (mL ad ct (va_up g 8 v, a, d)) → W p l e R s m args below meth c H1 locs1 cells slots Q (F0 m (pc + 3) ls rest)) : W p l e R s m args below meth c H locs cells slots Q (F0 m pc ls (.int v :: .ref (ad 0) :: rest)) := ar_put (q0 := 0) (k := 8) (ty0 := tyX9) (ty := .int) C hW ar_in9 tyX9_ok nmX9 rfl rfl (by decide) hl rfl (by decide +kernel) rfl rfl (Nat.le_of_ble_eq_true rfl) hdg kk
theorem mg_numberCount {index : Nat} (C : ar_C p l s m meth c cc n own args D ct A) (hW : ar_W D A s.heap H locs (mL ad ct (g, a, d))) (hl : Cond.fieldLink own index "ArrayTextModel" "numberCount" "I" ∈ lw_all) (hdg : decode cc pc = .ok (.getfield index, 3)) (kk : W p l e R s m args below meth c H locs cells slots Q (F0 m (pc + 3) ls (.int (g 9) :: rest))) : W p l e R s m args below meth c H locs cells slots Q (F0 m pc ls (.ref (ad 0) :: rest)) := ar_get (q0 := 0) (k := 9) C hW ar_in9 rfl rfl (by decide) hl rfl hdg kk
theorem mp_numberCount {index : Nat} {v : Int32} (C : ar_C p l s m meth c cc n own args D ct A) (hW : ar_W D A s.heap H locs (mL ad ct (g, a, d))) (hl : Cond.fieldLink own index "ArrayTextModel" "numberCount" "I" ∈ lw_all) (hdg : decode cc pc = .ok (.putfield index, 3)) (kk : ∀ (H1 : Heap) (locs1 : List Loc), ar_W D A s.heap H1 locs1 (mL ad ct (va_up g 9 v, a, d)) → W p l e R s m args below meth c H1 locs1 cells slots Q (F0 m (pc + 3) ls rest)) : W p l e R s m args below meth c H locs cells slots Q (F0 m pc ls (.int v :: .ref (ad 0) :: rest)) := ar_put (q0 := 0) (k := 9) (ty0 := tyX9) (ty := .int) C hW ar_in9 tyX9_ok nmX9 rfl rfl (by decide) hl rfl (by decide +kernel) rfl rfl (Nat.le_of_ble_eq_true rfl) hdg kk
theorem mg_now {index : Nat} (C : ar_C p l s m meth c cc n own args D ct A) (hW : ar_W D A s.heap H locs (mL ad ct (g, a, d))) (hl : Cond.fieldLink own index "ArrayTextModel" "now" "[D" ∈ lw_all) (hdg : decode cc pc = .ok (.getfield index, 3)) (kk : W p l e R s m args below meth c H locs cells slots Q (F0 m (pc + 3) ls (.ref (ad 8) :: rest))) : W p l e R s m args below meth c H locs cells slots Q (F0 m pc ls (.ref (ad 0) :: rest)) := ar_get (q0 := 0) (k := 10) C hW ar_in9 rfl rfl (by decide) hl rfl hdg kk
theorem mg_part {index : Nat} (C : ar_C p l s m meth c cc n own args D ct A) (hW : ar_W D A s.heap H locs (mL ad ct (g, a, d))) (hl : Cond.fieldLink own index "ArrayTextModel" "part" "[D" ∈ lw_all) (hdg : decode cc pc = .ok (.getfield index, 3)) (kk : W p l e R s m args below meth c H locs cells slots Q (F0 m (pc + 3) ls (.ref (ad 9) :: rest))) : W p l e R s m args below meth c H locs cells slots Q (F0 m pc ls (.ref (ad 0) :: rest)) := ar_get (q0 := 0) (k := 11) C hW ar_in9 rfl rfl (by decide) hl rfl hdg kk
theorem mg_right {index : Nat} (C : ar_C p l s m meth c cc n own args D ct A) (hW : ar_W D A s.heap H locs (mL ad ct (g, a, d))) (hl : Cond.fieldLink own index "ArrayTextModel" "right" "[D" ∈ lw_all) (hdg : decode cc pc = .ok (.getfield index, 3)) (kk : W p l e R s m args below meth c H locs cells slots Q (F0 m (pc + 3) ls (.ref (ad 10) :: rest))) : W p l e R s m args below meth c H locs cells slots Q (F0 m pc ls (.ref (ad 0) :: rest)) := ar_get (q0 := 0) (k := 12) C hW ar_in9 rfl rfl (by decide) hl rfl hdg kk
theorem mg_rightShape {index : Nat} (C : ar_C p l s m meth c cc n own args D ct A) (hW : ar_W D A s.heap H locs (mL ad ct (g, a, d))) (hl : Cond.fieldLink own index "ArrayTextModel" "rightShape" "[I" ∈ lw_all) (hdg : decode cc pc = .ok (.getfield index, 3)) (kk : W p l e R s m args below meth c H locs cells slots Q (F0 m (pc + 3) ls (.ref (ad 11) :: rest))) : W p l e R s m args below meth c H locs cells slots Q (F0 m pc ls (.ref (ad 0) :: rest)) := ar_get (q0 := 0) (k := 13) C hW ar_in9 rfl rfl (by decide) hl rfl hdg kk
theorem mg_waiting {index : Nat} (C : ar_C p l s m meth c cc n own args D ct A) (hW : ar_W D A s.heap H locs (mL ad ct (g, a, d))) (hl : Cond.fieldLink own index "ArrayTextModel" "waiting" "[I" ∈ lw_all) (hdg : decode cc pc = .ok (.getfield index, 3)) (kk : W p l e R s m args below meth c H locs cells slots Q (F0 m (pc + 3) ls (.ref (ad 12) :: rest))) : W p l e R s m args below meth c H locs cells slots Q (F0 m pc ls (.ref (ad 0) :: rest)) := ar_get (q0 := 0) (k := 14) C hW ar_in9 rfl rfl (by decide) hl rfl hdg kk
theorem mg_nowShape {index : Nat} (C : ar_C p l s m meth c cc n own args D ct A) (hW : ar_W D A s.heap H locs (mL ad ct (g, a, d))) (hl : Cond.fieldLink own index "ArrayTextModel" "nowShape" "I" ∈ lw_all) (hdg : decode cc pc = .ok (.getfield index, 3)) (kk : W p l e R s m args below meth c H locs cells slots Q (F0 m (pc + 3) ls (.int (g 15) :: rest))) : W p l e R s m args below meth c H locs cells slots Q (F0 m pc ls (.ref (ad 0) :: rest)) := ar_get (q0 := 0) (k := 15) C hW ar_in9 rfl rfl (by decide) hl rfl hdg kk
theorem mp_nowShape {index : Nat} {v : Int32} (C : ar_C p l s m meth c cc n own args D ct A) (hW : ar_W D A s.heap H locs (mL ad ct (g, a, d))) (hl : Cond.fieldLink own index "ArrayTextModel" "nowShape" "I" ∈ lw_all) (hdg : decode cc pc = .ok (.putfield index, 3)) (kk : ∀ (H1 : Heap) (locs1 : List Loc), ar_W D A s.heap H1 locs1 (mL ad ct (va_up g 15 v, a, d)) → W p l e R s m args below meth c H1 locs1 cells slots Q (F0 m (pc + 3) ls rest)) : W p l e R s m args below meth c H locs cells slots Q (F0 m pc ls (.int v :: .ref (ad 0) :: rest)) := ar_put (q0 := 0) (k := 15) (ty0 := tyX9) (ty := .int) C hW ar_in9 tyX9_ok nmX9 rfl rfl (by decide) hl rfl (by decide +kernel) rfl rfl (Nat.le_of_ble_eq_true rfl) hdg kk
theorem mg_partShape {index : Nat} (C : ar_C p l s m meth c cc n own args D ct A) (hW : ar_W D A s.heap H locs (mL ad ct (g, a, d))) (hl : Cond.fieldLink own index "ArrayTextModel" "partShape" "I" ∈ lw_all) (hdg : decode cc pc = .ok (.getfield index, 3)) (kk : W p l e R s m args below meth c H locs cells slots Q (F0 m (pc + 3) ls (.int (g 16) :: rest))) : W p l e R s m args below meth c H locs cells slots Q (F0 m pc ls (.ref (ad 0) :: rest)) := ar_get (q0 := 0) (k := 16) C hW ar_in9 rfl rfl (by decide) hl rfl hdg kk
theorem mp_partShape {index : Nat} {v : Int32} (C : ar_C p l s m meth c cc n own args D ct A) (hW : ar_W D A s.heap H locs (mL ad ct (g, a, d))) (hl : Cond.fieldLink own index "ArrayTextModel" "partShape" "I" ∈ lw_all) (hdg : decode cc pc = .ok (.putfield index, 3)) (kk : ∀ (H1 : Heap) (locs1 : List Loc), ar_W D A s.heap H1 locs1 (mL ad ct (va_up g 16 v, a, d)) → W p l e R s m args below meth c H1 locs1 cells slots Q (F0 m (pc + 3) ls rest)) : W p l e R s m args below meth c H locs cells slots Q (F0 m pc ls (.int v :: .ref (ad 0) :: rest)) := ar_put (q0 := 0) (k := 16) (ty0 := tyX9) (ty := .int) C hW ar_in9 tyX9_ok nmX9 rfl rfl (by decide) hl rfl (by decide +kernel) rfl rfl (Nat.le_of_ble_eq_true rfl) hdg kk
theorem mg_nowConstant {index : Nat} (C : ar_C p l s m meth c cc n own args D ct A) (hW : ar_W D A s.heap H locs (mL ad ct (g, a, d))) (hl : Cond.fieldLink own index "ArrayTextModel" "nowConstant" "Z" ∈ lw_all) (hdg : decode cc pc = .ok (.getfield index, 3)) (kk : W p l e R s m args below meth c H locs cells slots Q (F0 m (pc + 3) ls (.int (g 17) :: rest))) : W p l e R s m args below meth c H locs cells slots Q (F0 m pc ls (.ref (ad 0) :: rest)) := ar_get (q0 := 0) (k := 17) C hW ar_in9 rfl rfl (by decide) hl rfl hdg kk
theorem mp_nowConstant {index : Nat} {v : Int32} (hn : narrow .boolean (.int v) = .int v ∧ fits .boolean (.int v) = true) (C : ar_C p l s m meth c cc n own args D ct A) (hW : ar_W D A s.heap H locs (mL ad ct (g, a, d))) (hl : Cond.fieldLink own index "ArrayTextModel" "nowConstant" "Z" ∈ lw_all) (hdg : decode cc pc = .ok (.putfield index, 3)) (kk : ∀ (H1 : Heap) (locs1 : List Loc), ar_W D A s.heap H1 locs1 (mL ad ct (va_up g 17 v, a, d)) → W p l e R s m args below meth c H1 locs1 cells slots Q (F0 m (pc + 3) ls rest)) : W p l e R s m args below meth c H locs cells slots Q (F0 m pc ls (.int v :: .ref (ad 0) :: rest)) := ar_put (q0 := 0) (k := 17) (ty0 := tyX9) (ty := .boolean) C hW ar_in9 tyX9_ok nmX9 rfl rfl (by decide) hl rfl (by decide +kernel) hn.1 hn.2 (Nat.le_of_ble_eq_true rfl) hdg kk
theorem mg_partConstant {index : Nat} (C : ar_C p l s m meth c cc n own args D ct A) (hW : ar_W D A s.heap H locs (mL ad ct (g, a, d))) (hl : Cond.fieldLink own index "ArrayTextModel" "partConstant" "Z" ∈ lw_all) (hdg : decode cc pc = .ok (.getfield index, 3)) (kk : W p l e R s m args below meth c H locs cells slots Q (F0 m (pc + 3) ls (.int (g 18) :: rest))) : W p l e R s m args below meth c H locs cells slots Q (F0 m pc ls (.ref (ad 0) :: rest)) := ar_get (q0 := 0) (k := 18) C hW ar_in9 rfl rfl (by decide) hl rfl hdg kk
theorem mp_partConstant {index : Nat} {v : Int32} (hn : narrow .boolean (.int v) = .int v ∧ fits .boolean (.int v) = true) (C : ar_C p l s m meth c cc n own args D ct A) (hW : ar_W D A s.heap H locs (mL ad ct (g, a, d))) (hl : Cond.fieldLink own index "ArrayTextModel" "partConstant" "Z" ∈ lw_all) (hdg : decode cc pc = .ok (.putfield index, 3)) (kk : ∀ (H1 : Heap) (locs1 : List Loc), ar_W D A s.heap H1 locs1 (mL ad ct (va_up g 18 v, a, d)) → W p l e R s m args below meth c H1 locs1 cells slots Q (F0 m (pc + 3) ls rest)) : W p l e R s m args below meth c H locs cells slots Q (F0 m pc ls (.int v :: .ref (ad 0) :: rest)) := ar_put (q0 := 0) (k := 18) (ty0 := tyX9) (ty := .boolean) C hW ar_in9 tyX9_ok nmX9 rfl rfl (by decide) hl rfl (by decide +kernel) hn.1 hn.2 (Nat.le_of_ble_eq_true rfl) hdg kk
theorem mg_nowCounts {index : Nat} (C : ar_C p l s m meth c cc n own args D ct A) (hW : ar_W D A s.heap H locs (mL ad ct (g, a, d))) (hl : Cond.fieldLink own index "ArrayTextModel" "nowCounts" "Z" ∈ lw_all) (hdg : decode cc pc = .ok (.getfield index, 3)) (kk : W p l e R s m args below meth c H locs cells slots Q (F0 m (pc + 3) ls (.int (g 19) :: rest))) : W p l e R s m args below meth c H locs cells slots Q (F0 m pc ls (.ref (ad 0) :: rest)) := ar_get (q0 := 0) (k := 19) C hW ar_in9 rfl rfl (by decide) hl rfl hdg kk
theorem mp_nowCounts {index : Nat} {v : Int32} (hn : narrow .boolean (.int v) = .int v ∧ fits .boolean (.int v) = true) (C : ar_C p l s m meth c cc n own args D ct A) (hW : ar_W D A s.heap H locs (mL ad ct (g, a, d))) (hl : Cond.fieldLink own index "ArrayTextModel" "nowCounts" "Z" ∈ lw_all) (hdg : decode cc pc = .ok (.putfield index, 3)) (kk : ∀ (H1 : Heap) (locs1 : List Loc), ar_W D A s.heap H1 locs1 (mL ad ct (va_up g 19 v, a, d)) → W p l e R s m args below meth c H1 locs1 cells slots Q (F0 m (pc + 3) ls rest)) : W p l e R s m args below meth c H locs cells slots Q (F0 m pc ls (.int v :: .ref (ad 0) :: rest)) := ar_put (q0 := 0) (k := 19) (ty0 := tyX9) (ty := .boolean) C hW ar_in9 tyX9_ok nmX9 rfl rfl (by decide) hl rfl (by decide +kernel) hn.1 hn.2 (Nat.le_of_ble_eq_true rfl) hdg kk
theorem mg_partCounts {index : Nat} (C : ar_C p l s m meth c cc n own args D ct A) (hW : ar_W D A s.heap H locs (mL ad ct (g, a, d))) (hl : Cond.fieldLink own index "ArrayTextModel" "partCounts" "Z" ∈ lw_all) (hdg : decode cc pc = .ok (.getfield index, 3)) (kk : W p l e R s m args below meth c H locs cells slots Q (F0 m (pc + 3) ls (.int (g 20) :: rest))) : W p l e R s m args below meth c H locs cells slots Q (F0 m pc ls (.ref (ad 0) :: rest)) := ar_get (q0 := 0) (k := 20) C hW ar_in9 rfl rfl (by decide) hl rfl hdg kk
theorem mp_partCounts {index : Nat} {v : Int32} (hn : narrow .boolean (.int v) = .int v ∧ fits .boolean (.int v) = true) (C : ar_C p l s m meth c cc n own args D ct A) (hW : ar_W D A s.heap H locs (mL ad ct (g, a, d))) (hl : Cond.fieldLink own index "ArrayTextModel" "partCounts" "Z" ∈ lw_all) (hdg : decode cc pc = .ok (.putfield index, 3)) (kk : ∀ (H1 : Heap) (locs1 : List Loc), ar_W D A s.heap H1 locs1 (mL ad ct (va_up g 20 v, a, d)) → W p l e R s m args below meth c H1 locs1 cells slots Q (F0 m (pc + 3) ls rest)) : W p l e R s m args below meth c H locs cells slots Q (F0 m pc ls (.int v :: .ref (ad 0) :: rest)) := ar_put (q0 := 0) (k := 20) (ty0 := tyX9) (ty := .boolean) C hW ar_in9 tyX9_ok nmX9 rfl rfl (by decide) hl rfl (by decide +kernel) hn.1 hn.2 (Nat.le_of_ble_eq_true rfl) hdg kk
theorem mg_outOfRange {index : Nat} (C : ar_C p l s m meth c cc n own args D ct A) (hW : ar_W D A s.heap H locs (mL ad ct (g, a, d))) (hl : Cond.fieldLink own index "ArrayTextModel" "outOfRange" "Z" ∈ lw_all) (hdg : decode cc pc = .ok (.getfield index, 3)) (kk : W p l e R s m args below meth c H locs cells slots Q (F0 m (pc + 3) ls (.int (g 21) :: rest))) : W p l e R s m args below meth c H locs cells slots Q (F0 m pc ls (.ref (ad 0) :: rest)) := ar_get (q0 := 0) (k := 21) C hW ar_in9 rfl rfl (by decide) hl rfl hdg kk
theorem mp_outOfRange {index : Nat} {v : Int32} (hn : narrow .boolean (.int v) = .int v ∧ fits .boolean (.int v) = true) (C : ar_C p l s m meth c cc n own args D ct A) (hW : ar_W D A s.heap H locs (mL ad ct (g, a, d))) (hl : Cond.fieldLink own index "ArrayTextModel" "outOfRange" "Z" ∈ lw_all) (hdg : decode cc pc = .ok (.putfield index, 3)) (kk : ∀ (H1 : Heap) (locs1 : List Loc), ar_W D A s.heap H1 locs1 (mL ad ct (va_up g 21 v, a, d)) → W p l e R s m args below meth c H1 locs1 cells slots Q (F0 m (pc + 3) ls rest)) : W p l e R s m args below meth c H locs cells slots Q (F0 m pc ls (.int v :: .ref (ad 0) :: rest)) := ar_put (q0 := 0) (k := 21) (ty0 := tyX9) (ty := .boolean) C hW ar_in9 tyX9_ok nmX9 rfl rfl (by decide) hl rfl (by decide +kernel) hn.1 hn.2 (Nat.le_of_ble_eq_true rfl) hdg kk
theorem mg_arrays {index : Nat} (C : ar_C p l s m meth c cc n own args D ct A) (hW : ar_W D A s.heap H locs (mL ad ct (g, a, d))) (hl : Cond.fieldLink own index "ArrayTextModel" "arrays" "I" ∈ lw_all) (hdg : decode cc pc = .ok (.getfield index, 3)) (kk : W p l e R s m args below meth c H locs cells slots Q (F0 m (pc + 3) ls (.int (g 22) :: rest))) : W p l e R s m args below meth c H locs cells slots Q (F0 m pc ls (.ref (ad 0) :: rest)) := ar_get (q0 := 0) (k := 22) C hW ar_in9 rfl rfl (by decide) hl rfl hdg kk
theorem mp_arrays {index : Nat} {v : Int32} (C : ar_C p l s m meth c cc n own args D ct A) (hW : ar_W D A s.heap H locs (mL ad ct (g, a, d))) (hl : Cond.fieldLink own index "ArrayTextModel" "arrays" "I" ∈ lw_all) (hdg : decode cc pc = .ok (.putfield index, 3)) (kk : ∀ (H1 : Heap) (locs1 : List Loc), ar_W D A s.heap H1 locs1 (mL ad ct (va_up g 22 v, a, d)) → W p l e R s m args below meth c H1 locs1 cells slots Q (F0 m (pc + 3) ls rest)) : W p l e R s m args below meth c H locs cells slots Q (F0 m pc ls (.int v :: .ref (ad 0) :: rest)) := ar_put (q0 := 0) (k := 22) (ty0 := tyX9) (ty := .int) C hW ar_in9 tyX9_ok nmX9 rfl rfl (by decide) hl rfl (by decide +kernel) rfl rfl (Nat.le_of_ble_eq_true rfl) hdg kk
theorem mg_error {index : Nat} (C : ar_C p l s m meth c cc n own args D ct A) (hW : ar_W D A s.heap H locs (mL ad ct (g, a, d))) (hl : Cond.fieldLink own index "ArrayTextModel" "error" "I" ∈ lw_all) (hdg : decode cc pc = .ok (.getfield index, 3)) (kk : W p l e R s m args below meth c H locs cells slots Q (F0 m (pc + 3) ls (.int (g 23) :: rest))) : W p l e R s m args below meth c H locs cells slots Q (F0 m pc ls (.ref (ad 0) :: rest)) := ar_get (q0 := 0) (k := 23) C hW ar_in9 rfl rfl (by decide) hl rfl hdg kk
theorem mp_error {index : Nat} {v : Int32} (C : ar_C p l s m meth c cc n own args D ct A) (hW : ar_W D A s.heap H locs (mL ad ct (g, a, d))) (hl : Cond.fieldLink own index "ArrayTextModel" "error" "I" ∈ lw_all) (hdg : decode cc pc = .ok (.putfield index, 3)) (kk : ∀ (H1 : Heap) (locs1 : List Loc), ar_W D A s.heap H1 locs1 (mL ad ct (va_up g 23 v, a, d)) → W p l e R s m args below meth c H1 locs1 cells slots Q (F0 m (pc + 3) ls rest)) : W p l e R s m args below meth c H locs cells slots Q (F0 m pc ls (.int v :: .ref (ad 0) :: rest)) := ar_put (q0 := 0) (k := 23) (ty0 := tyX9) (ty := .int) C hW ar_in9 tyX9_ok nmX9 rfl rfl (by decide) hl rfl (by decide +kernel) rfl rfl (Nat.le_of_ble_eq_true rfl) hdg kk
theorem mg_made {index : Nat} (C : ar_C p l s m meth c cc n own args D ct A) (hW : ar_W D A s.heap H locs (mL ad ct (g, a, d))) (hl : Cond.fieldLink own index "ArrayTextModel" "made" "I" ∈ lw_all) (hdg : decode cc pc = .ok (.getfield index, 3)) (kk : W p l e R s m args below meth c H locs cells slots Q (F0 m (pc + 3) ls (.int (g 24) :: rest))) : W p l e R s m args below meth c H locs cells slots Q (F0 m pc ls (.ref (ad 0) :: rest)) := ar_get (q0 := 0) (k := 24) C hW ar_in9 rfl rfl (by decide) hl rfl hdg kk
theorem mp_made {index : Nat} {v : Int32} (C : ar_C p l s m meth c cc n own args D ct A) (hW : ar_W D A s.heap H locs (mL ad ct (g, a, d))) (hl : Cond.fieldLink own index "ArrayTextModel" "made" "I" ∈ lw_all) (hdg : decode cc pc = .ok (.putfield index, 3)) (kk : ∀ (H1 : Heap) (locs1 : List Loc), ar_W D A s.heap H1 locs1 (mL ad ct (va_up g 24 v, a, d)) → W p l e R s m args below meth c H1 locs1 cells slots Q (F0 m (pc + 3) ls rest)) : W p l e R s m args below meth c H locs cells slots Q (F0 m pc ls (.int v :: .ref (ad 0) :: rest)) := ar_put (q0 := 0) (k := 24) (ty0 := tyX9) (ty := .int) C hW ar_in9 tyX9_ok nmX9 rfl rfl (by decide) hl rfl (by decide +kernel) rfl rfl (Nat.le_of_ble_eq_true rfl) hdg kk
theorem mg_runs {index : Nat} (C : ar_C p l s m meth c cc n own args D ct A) (hW : ar_W D A s.heap H locs (mL ad ct (g, a, d))) (hl : Cond.fieldLink own index "ArrayTextModel" "runs" "I" ∈ lw_all) (hdg : decode cc pc = .ok (.getfield index, 3)) (kk : W p l e R s m args below meth c H locs cells slots Q (F0 m (pc + 3) ls (.int (g 25) :: rest))) : W p l e R s m args below meth c H locs cells slots Q (F0 m pc ls (.ref (ad 0) :: rest)) := ar_get (q0 := 0) (k := 25) C hW ar_in9 rfl rfl (by decide) hl rfl hdg kk
theorem mp_runs {index : Nat} {v : Int32} (C : ar_C p l s m meth c cc n own args D ct A) (hW : ar_W D A s.heap H locs (mL ad ct (g, a, d))) (hl : Cond.fieldLink own index "ArrayTextModel" "runs" "I" ∈ lw_all) (hdg : decode cc pc = .ok (.putfield index, 3)) (kk : ∀ (H1 : Heap) (locs1 : List Loc), ar_W D A s.heap H1 locs1 (mL ad ct (va_up g 25 v, a, d)) → W p l e R s m args below meth c H1 locs1 cells slots Q (F0 m (pc + 3) ls rest)) : W p l e R s m args below meth c H locs cells slots Q (F0 m pc ls (.int v :: .ref (ad 0) :: rest)) := ar_put (q0 := 0) (k := 25) (ty0 := tyX9) (ty := .int) C hW ar_in9 tyX9_ok nmX9 rfl rfl (by decide) hl rfl (by decide +kernel) rfl rfl (Nat.le_of_ble_eq_true rfl) hdg kk
theorem mg_thrown {index : Nat} (C : ar_C p l s m meth c cc n own args D ct A) (hW : ar_W D A s.heap H locs (mL ad ct (g, a, d))) (hl : Cond.fieldLink own index "ArrayTextModel" "thrown" "I" ∈ lw_all) (hdg : decode cc pc = .ok (.getfield index, 3)) (kk : W p l e R s m args below meth c H locs cells slots Q (F0 m (pc + 3) ls (.int (g 26) :: rest))) : W p l e R s m args below meth c H locs cells slots Q (F0 m pc ls (.ref (ad 0) :: rest)) := ar_get (q0 := 0) (k := 26) C hW ar_in9 rfl rfl (by decide) hl rfl hdg kk
theorem mp_thrown {index : Nat} {v : Int32} (C : ar_C p l s m meth c cc n own args D ct A) (hW : ar_W D A s.heap H locs (mL ad ct (g, a, d))) (hl : Cond.fieldLink own index "ArrayTextModel" "thrown" "I" ∈ lw_all) (hdg : decode cc pc = .ok (.putfield index, 3)) (kk : ∀ (H1 : Heap) (locs1 : List Loc), ar_W D A s.heap H1 locs1 (mL ad ct (va_up g 26 v, a, d)) → W p l e R s m args below meth c H1 locs1 cells slots Q (F0 m (pc + 3) ls rest)) : W p l e R s m args below meth c H locs cells slots Q (F0 m pc ls (.int v :: .ref (ad 0) :: rest)) := ar_put (q0 := 0) (k := 26) (ty0 := tyX9) (ty := .int) C hW ar_in9 tyX9_ok nmX9 rfl rfl (by decide) hl rfl (by decide +kernel) rfl rfl (Nat.le_of_ble_eq_true rfl) hdg kk
theorem ml_text {j : Nat} (C : ar_C p l s m meth c cc n own args D ct A) (hW : ar_W D A s.heap H locs (mL ad ct (g, a, d))) (hj : j < 40) (hdg : decode cc pc = .ok (.iaload, 1)) (kk : W p l e R s m args below meth c H locs cells slots Q (F0 m (pc + 1) ls (.int (a 1 j) :: rest))) : W p l e R s m args below meth c H locs cells slots Q (F0 m pc ls (.int (nI j) :: .ref (ad 1) :: rest)) := ar_iald (q0 := 1) C hW rfl hj (by decide) hdg kk
theorem ms_text {j : Nat} {v : Int32} (C : ar_C p l s m meth c cc n own args D ct A) (hW : ar_W D A s.heap H locs (mL ad ct (g, a, d))) (hj : j < 40) (hdg : decode cc pc = .ok (.iastore, 1)) (kk : ∀ (H1 : Heap) (locs1 : List Loc), ar_W D A s.heap H1 locs1 (mL ad ct (g, va_up a 1 (va_up (a 1) j v), d)) → W p l e R s m args below meth c H1 locs1 cells slots Q (F0 m (pc + 1) ls rest)) : W p l e R s m args below meth c H locs cells slots Q (F0 m pc ls (.int v :: .int (nI j) :: .ref (ad 1) :: rest)) := ar_iast (q0 := 1) C hW rfl hj (by decide) hdg kk
theorem ml_shapes {j : Nat} (C : ar_C p l s m meth c cc n own args D ct A) (hW : ar_W D A s.heap H locs (mL ad ct (g, a, d))) (hj : j < 8) (hdg : decode cc pc = .ok (.iaload, 1)) (kk : W p l e R s m args below meth c H locs cells slots Q (F0 m (pc + 1) ls (.int (a 2 j) :: rest))) : W p l e R s m args below meth c H locs cells slots Q (F0 m pc ls (.int (nI j) :: .ref (ad 2) :: rest)) := ar_iald (q0 := 2) C hW rfl hj (by decide) hdg kk
theorem ms_shapes {j : Nat} {v : Int32} (C : ar_C p l s m meth c cc n own args D ct A) (hW : ar_W D A s.heap H locs (mL ad ct (g, a, d))) (hj : j < 8) (hdg : decode cc pc = .ok (.iastore, 1)) (kk : ∀ (H1 : Heap) (locs1 : List Loc), ar_W D A s.heap H1 locs1 (mL ad ct (g, va_up a 2 (va_up (a 2) j v), d)) → W p l e R s m args below meth c H1 locs1 cells slots Q (F0 m (pc + 1) ls rest)) : W p l e R s m args below meth c H locs cells slots Q (F0 m pc ls (.int v :: .int (nI j) :: .ref (ad 2) :: rest)) := ar_iast (q0 := 2) C hW rfl hj (by decide) hdg kk
theorem ml_cells {j : Nat} (C : ar_C p l s m meth c cc n own args D ct A) (hW : ar_W D A s.heap H locs (mL ad ct (g, a, d))) (hj : j < 192) (hdg : decode cc pc = .ok (.daload, 1)) (kk : W p l e R s m args below meth c H locs cells slots Q (F0 m (pc + 1) ls (.double (d 3 j) :: rest))) : W p l e R s m args below meth c H locs cells slots Q (F0 m pc ls (.int (nI j) :: .ref (ad 3) :: rest)) := ar_dald (q0 := 3) C hW rfl hj (by decide) hdg kk
theorem ms_cells {j : Nat} {v : UInt64} (C : ar_C p l s m meth c cc n own args D ct A) (hW : ar_W D A s.heap H locs (mL ad ct (g, a, d))) (hj : j < 192) (hdg : decode cc pc = .ok (.dastore, 1)) (kk : ∀ (H1 : Heap) (locs1 : List Loc), ar_W D A s.heap H1 locs1 (mL ad ct (g, a, va_up d 3 (va_up (d 3) j v))) → W p l e R s m args below meth c H1 locs1 cells slots Q (F0 m (pc + 1) ls rest)) : W p l e R s m args below meth c H locs cells slots Q (F0 m pc ls (.double v :: .int (nI j) :: .ref (ad 3) :: rest)) := ar_dast (q0 := 3) C hW rfl hj (by decide) hdg kk
theorem ml_symbol {j : Nat} (C : ar_C p l s m meth c cc n own args D ct A) (hW : ar_W D A s.heap H locs (mL ad ct (g, a, d))) (hj : j < 40) (hdg : decode cc pc = .ok (.iaload, 1)) (kk : W p l e R s m args below meth c H locs cells slots Q (F0 m (pc + 1) ls (.int (a 4 j) :: rest))) : W p l e R s m args below meth c H locs cells slots Q (F0 m pc ls (.int (nI j) :: .ref (ad 4) :: rest)) := ar_iald (q0 := 4) C hW rfl hj (by decide) hdg kk
theorem ms_symbol {j : Nat} {v : Int32} (C : ar_C p l s m meth c cc n own args D ct A) (hW : ar_W D A s.heap H locs (mL ad ct (g, a, d))) (hj : j < 40) (hdg : decode cc pc = .ok (.iastore, 1)) (kk : ∀ (H1 : Heap) (locs1 : List Loc), ar_W D A s.heap H1 locs1 (mL ad ct (g, va_up a 4 (va_up (a 4) j v), d)) → W p l e R s m args below meth c H1 locs1 cells slots Q (F0 m (pc + 1) ls rest)) : W p l e R s m args below meth c H locs cells slots Q (F0 m pc ls (.int v :: .int (nI j) :: .ref (ad 4) :: rest)) := ar_iast (q0 := 4) C hW rfl hj (by decide) hdg kk
theorem ml_about {j : Nat} (C : ar_C p l s m meth c cc n own args D ct A) (hW : ar_W D A s.heap H locs (mL ad ct (g, a, d))) (hj : j < 40) (hdg : decode cc pc = .ok (.iaload, 1)) (kk : W p l e R s m args below meth c H locs cells slots Q (F0 m (pc + 1) ls (.int (a 5 j) :: rest))) : W p l e R s m args below meth c H locs cells slots Q (F0 m pc ls (.int (nI j) :: .ref (ad 5) :: rest)) := ar_iald (q0 := 5) C hW rfl hj (by decide) hdg kk
theorem ms_about {j : Nat} {v : Int32} (C : ar_C p l s m meth c cc n own args D ct A) (hW : ar_W D A s.heap H locs (mL ad ct (g, a, d))) (hj : j < 40) (hdg : decode cc pc = .ok (.iastore, 1)) (kk : ∀ (H1 : Heap) (locs1 : List Loc), ar_W D A s.heap H1 locs1 (mL ad ct (g, va_up a 5 (va_up (a 5) j v), d)) → W p l e R s m args below meth c H1 locs1 cells slots Q (F0 m (pc + 1) ls rest)) : W p l e R s m args below meth c H locs cells slots Q (F0 m pc ls (.int v :: .int (nI j) :: .ref (ad 5) :: rest)) := ar_iast (q0 := 5) C hW rfl hj (by decide) hdg kk
theorem ml_many {j : Nat} (C : ar_C p l s m meth c cc n own args D ct A) (hW : ar_W D A s.heap H locs (mL ad ct (g, a, d))) (hj : j < 40) (hdg : decode cc pc = .ok (.iaload, 1)) (kk : W p l e R s m args below meth c H locs cells slots Q (F0 m (pc + 1) ls (.int (a 6 j) :: rest))) : W p l e R s m args below meth c H locs cells slots Q (F0 m pc ls (.int (nI j) :: .ref (ad 6) :: rest)) := ar_iald (q0 := 6) C hW rfl hj (by decide) hdg kk
theorem ms_many {j : Nat} {v : Int32} (C : ar_C p l s m meth c cc n own args D ct A) (hW : ar_W D A s.heap H locs (mL ad ct (g, a, d))) (hj : j < 40) (hdg : decode cc pc = .ok (.iastore, 1)) (kk : ∀ (H1 : Heap) (locs1 : List Loc), ar_W D A s.heap H1 locs1 (mL ad ct (g, va_up a 6 (va_up (a 6) j v), d)) → W p l e R s m args below meth c H1 locs1 cells slots Q (F0 m (pc + 1) ls rest)) : W p l e R s m args below meth c H locs cells slots Q (F0 m pc ls (.int v :: .int (nI j) :: .ref (ad 6) :: rest)) := ar_iast (q0 := 6) C hW rfl hj (by decide) hdg kk
theorem ml_numbers {j : Nat} (C : ar_C p l s m meth c cc n own args D ct A) (hW : ar_W D A s.heap H locs (mL ad ct (g, a, d))) (hj : j < 40) (hdg : decode cc pc = .ok (.iaload, 1)) (kk : W p l e R s m args below meth c H locs cells slots Q (F0 m (pc + 1) ls (.int (a 7 j) :: rest))) : W p l e R s m args below meth c H locs cells slots Q (F0 m pc ls (.int (nI j) :: .ref (ad 7) :: rest)) := ar_iald (q0 := 7) C hW rfl hj (by decide) hdg kk
theorem ms_numbers {j : Nat} {v : Int32} (C : ar_C p l s m meth c cc n own args D ct A) (hW : ar_W D A s.heap H locs (mL ad ct (g, a, d))) (hj : j < 40) (hdg : decode cc pc = .ok (.iastore, 1)) (kk : ∀ (H1 : Heap) (locs1 : List Loc), ar_W D A s.heap H1 locs1 (mL ad ct (g, va_up a 7 (va_up (a 7) j v), d)) → W p l e R s m args below meth c H1 locs1 cells slots Q (F0 m (pc + 1) ls rest)) : W p l e R s m args below meth c H locs cells slots Q (F0 m pc ls (.int v :: .int (nI j) :: .ref (ad 7) :: rest)) := ar_iast (q0 := 7) C hW rfl hj (by decide) hdg kk
theorem ml_now {j : Nat} (C : ar_C p l s m meth c cc n own args D ct A) (hW : ar_W D A s.heap H locs (mL ad ct (g, a, d))) (hj : j < 24) (hdg : decode cc pc = .ok (.daload, 1)) (kk : W p l e R s m args below meth c H locs cells slots Q (F0 m (pc + 1) ls (.double (d 8 j) :: rest))) : W p l e R s m args below meth c H locs cells slots Q (F0 m pc ls (.int (nI j) :: .ref (ad 8) :: rest)) := ar_dald (q0 := 8) C hW rfl hj (by decide) hdg kk
theorem ms_now {j : Nat} {v : UInt64} (C : ar_C p l s m meth c cc n own args D ct A) (hW : ar_W D A s.heap H locs (mL ad ct (g, a, d))) (hj : j < 24) (hdg : decode cc pc = .ok (.dastore, 1)) (kk : ∀ (H1 : Heap) (locs1 : List Loc), ar_W D A s.heap H1 locs1 (mL ad ct (g, a, va_up d 8 (va_up (d 8) j v))) → W p l e R s m args below meth c H1 locs1 cells slots Q (F0 m (pc + 1) ls rest)) : W p l e R s m args below meth c H locs cells slots Q (F0 m pc ls (.double v :: .int (nI j) :: .ref (ad 8) :: rest)) := ar_dast (q0 := 8) C hW rfl hj (by decide) hdg kk
theorem ml_part {j : Nat} (C : ar_C p l s m meth c cc n own args D ct A) (hW : ar_W D A s.heap H locs (mL ad ct (g, a, d))) (hj : j < 24) (hdg : decode cc pc = .ok (.daload, 1)) (kk : W p l e R s m args below meth c H locs cells slots Q (F0 m (pc + 1) ls (.double (d 9 j) :: rest))) : W p l e R s m args below meth c H locs cells slots Q (F0 m pc ls (.int (nI j) :: .ref (ad 9) :: rest)) := ar_dald (q0 := 9) C hW rfl hj (by decide) hdg kk
theorem ms_part {j : Nat} {v : UInt64} (C : ar_C p l s m meth c cc n own args D ct A) (hW : ar_W D A s.heap H locs (mL ad ct (g, a, d))) (hj : j < 24) (hdg : decode cc pc = .ok (.dastore, 1)) (kk : ∀ (H1 : Heap) (locs1 : List Loc), ar_W D A s.heap H1 locs1 (mL ad ct (g, a, va_up d 9 (va_up (d 9) j v))) → W p l e R s m args below meth c H1 locs1 cells slots Q (F0 m (pc + 1) ls rest)) : W p l e R s m args below meth c H locs cells slots Q (F0 m pc ls (.double v :: .int (nI j) :: .ref (ad 9) :: rest)) := ar_dast (q0 := 9) C hW rfl hj (by decide) hdg kk
theorem ml_right {j : Nat} (C : ar_C p l s m meth c cc n own args D ct A) (hW : ar_W D A s.heap H locs (mL ad ct (g, a, d))) (hj : j < 528) (hdg : decode cc pc = .ok (.daload, 1)) (kk : W p l e R s m args below meth c H locs cells slots Q (F0 m (pc + 1) ls (.double (d 10 j) :: rest))) : W p l e R s m args below meth c H locs cells slots Q (F0 m pc ls (.int (nI j) :: .ref (ad 10) :: rest)) := ar_dald (q0 := 10) C hW rfl hj (by decide) hdg kk
theorem ms_right {j : Nat} {v : UInt64} (C : ar_C p l s m meth c cc n own args D ct A) (hW : ar_W D A s.heap H locs (mL ad ct (g, a, d))) (hj : j < 528) (hdg : decode cc pc = .ok (.dastore, 1)) (kk : ∀ (H1 : Heap) (locs1 : List Loc), ar_W D A s.heap H1 locs1 (mL ad ct (g, a, va_up d 10 (va_up (d 10) j v))) → W p l e R s m args below meth c H1 locs1 cells slots Q (F0 m (pc + 1) ls rest)) : W p l e R s m args below meth c H locs cells slots Q (F0 m pc ls (.double v :: .int (nI j) :: .ref (ad 10) :: rest)) := ar_dast (q0 := 10) C hW rfl hj (by decide) hdg kk
theorem ml_rightShape {j : Nat} (C : ar_C p l s m meth c cc n own args D ct A) (hW : ar_W D A s.heap H locs (mL ad ct (g, a, d))) (hj : j < 22) (hdg : decode cc pc = .ok (.iaload, 1)) (kk : W p l e R s m args below meth c H locs cells slots Q (F0 m (pc + 1) ls (.int (a 11 j) :: rest))) : W p l e R s m args below meth c H locs cells slots Q (F0 m pc ls (.int (nI j) :: .ref (ad 11) :: rest)) := ar_iald (q0 := 11) C hW rfl hj (by decide) hdg kk
theorem ms_rightShape {j : Nat} {v : Int32} (C : ar_C p l s m meth c cc n own args D ct A) (hW : ar_W D A s.heap H locs (mL ad ct (g, a, d))) (hj : j < 22) (hdg : decode cc pc = .ok (.iastore, 1)) (kk : ∀ (H1 : Heap) (locs1 : List Loc), ar_W D A s.heap H1 locs1 (mL ad ct (g, va_up a 11 (va_up (a 11) j v), d)) → W p l e R s m args below meth c H1 locs1 cells slots Q (F0 m (pc + 1) ls rest)) : W p l e R s m args below meth c H locs cells slots Q (F0 m pc ls (.int v :: .int (nI j) :: .ref (ad 11) :: rest)) := ar_iast (q0 := 11) C hW rfl hj (by decide) hdg kk
theorem ml_waiting {j : Nat} (C : ar_C p l s m meth c cc n own args D ct A) (hW : ar_W D A s.heap H locs (mL ad ct (g, a, d))) (hj : j < 22) (hdg : decode cc pc = .ok (.iaload, 1)) (kk : W p l e R s m args below meth c H locs cells slots Q (F0 m (pc + 1) ls (.int (a 12 j) :: rest))) : W p l e R s m args below meth c H locs cells slots Q (F0 m pc ls (.int (nI j) :: .ref (ad 12) :: rest)) := ar_iald (q0 := 12) C hW rfl hj (by decide) hdg kk
theorem ms_waiting {j : Nat} {v : Int32} (C : ar_C p l s m meth c cc n own args D ct A) (hW : ar_W D A s.heap H locs (mL ad ct (g, a, d))) (hj : j < 22) (hdg : decode cc pc = .ok (.iastore, 1)) (kk : ∀ (H1 : Heap) (locs1 : List Loc), ar_W D A s.heap H1 locs1 (mL ad ct (g, va_up a 12 (va_up (a 12) j v), d)) → W p l e R s m args below meth c H1 locs1 cells slots Q (F0 m (pc + 1) ls rest)) : W p l e R s m args below meth c H locs cells slots Q (F0 m pc ls (.int v :: .int (nI j) :: .ref (ad 12) :: rest)) := ar_iast (q0 := 12) C hW rfl hj (by decide) hdg kk
end AWM
end
section
abbrev XS : Type := (Nat → Int32) × (Nat → Int32) × (Nat → Int32) × (Nat → Nat → UInt64) × (Nat → Nat → Int32) × (Nat → Nat → Option Nat)
/-- the class's cells by their places: 0 the object, 1 the variables' row, 2 the text, 3 its signs, 4 the tree, 5 its nodes' row, 6 + j the arrays (j < 8: a variable, 8 + k: node k's result), 55 + j their elements, 104 + k node k -/
def xC (ad : Nat → Nat) (ct : Nat → ClassId) (u : XS) (i : Nat) : va_E :=
  if i = 0 then .inr (6, [.ref (ad 1), .ref (ad 2), .ref (ad 4), .int (u.1 0), .int (u.1 1)])
  else if i = 1 then .inl (ct 5, 8, .inr (.inr (.inr (.inr (fun v => some (ad (6 + v)))))))
  else if i = 2 then .inr (4, [.ref (ad 3), .int (u.1 2), .int (u.1 3)])
  else if i = 3 then .inl (ct 0, 40, .inl u.2.1)
  else if i = 4 then .inr (5, [.ref (ad 5), .int (u.1 4)])
  else if i = 5 then .inl (ct 4, 41, .inr (.inr (.inr (.inr (fun k => some (ad (104 + k)))))))
  else if i < 55 then .inr (3, [.int (u.2.2.1 (i - 6)), .ref (ad (55 + (i - 6)))])
  else if i < 104 then .inl (ct 1, 24, .inr (.inr (.inr (.inl (u.2.2.2.1 (i - 55))))))
  else .inr (2, [.int (u.2.2.2.2.1 0 (i - 104)), .int (u.2.2.2.2.1 1 (i - 104)), .int (u.2.2.2.2.1 2 (i - 104)), va_rf ((u.2.2.2.2.2 0 (i - 104)).map (fun k => ad (104 + k))), va_rf ((u.2.2.2.2.2 1 (i - 104)).map (fun k => ad (104 + k))), .ref (ad (6 + (8 + (i - 104))))])
def xL (ad : Nat → Nat) (ct : Nat → ClassId) (u : XS) : va_W := (List.range 145).map fun i => (ad i, xC ad ct u i)
theorem xl_get {ad : Nat → Nat} {ct : Nat → ClassId} {u : XS} {i : Nat} (hi : i < 145) : (xL ad ct u)[i]? = some (ad i, xC ad ct u i) := by simp [xL, hi]
theorem xl_at {ad : Nat → Nat} {ct : Nat → ClassId} {u : XS} {i : Nat} {e : va_E} (hi : i < 145) (h : xC ad ct u i = e) : (xL ad ct u)[i]? = some (ad i, e) := by rw [xl_get hi, h]
theorem xl_set {ad : Nat → Nat} {ct : Nat → ClassId} {u u9 : XS} {i : Nat} {e : va_E} (h : ∀ j, j < 145 → xC ad ct u9 j = if j = i then e else xC ad ct u j) : (xL ad ct u).set i (ad i, e) = xL ad ct u9 := by
  apply List.ext_getElem?
  intro j
  rw [List.getElem?_set]
  by_cases hj : j < 145
  · rw [xl_get hj, xl_get hj, h j hj]
    have hlen : (xL ad ct u).length = 145 := by simp [xL]
    by_cases hij : i = j
    · subst hij
      simp [hlen, hj]
    · have : ¬ j = i := fun q => hij q.symm
      simp [hij, this]
  · have hlen : ∀ u : XS, (xL ad ct u)[j]? = none := fun u => by simp [xL, hj]
    have hlen2 : (xL ad ct u).length = 145 := by simp [xL]
    rw [hlen, hlen]
    by_cases hij : i = j
    · subst hij
      simp [hlen2, hj]
    · simp [hij]
section AWX0
variable {ad : Nat → Nat} {ct : Nat → ClassId} {sc sg sh : Nat → Int32} {el : Nat → Nat → UInt64} {nf : Nat → Nat → Int32} {lr : Nat → Nat → Option Nat} {j k : Nat}
theorem xc_na (hj : j < 49) : xC ad ct (sc, sg, sh, el, nf, lr) (6 + j) = .inr (3, [.int (sh j), .ref (ad (55 + j))]) := by
  unfold xC
  rw [if_neg (by omega), if_neg (by omega), if_neg (by omega), if_neg (by omega), if_neg (by omega), if_neg (by omega), if_pos (by omega), Nat.add_sub_cancel_left]
theorem xc_el (hj : j < 49) : xC ad ct (sc, sg, sh, el, nf, lr) (55 + j) = .inl (ct 1, 24, .inr (.inr (.inr (.inl (el j))))) := by
  unfold xC
  rw [if_neg (by omega), if_neg (by omega), if_neg (by omega), if_neg (by omega), if_neg (by omega), if_neg (by omega), if_neg (by omega), if_pos (by omega), Nat.add_sub_cancel_left]
theorem xc_nd : xC ad ct (sc, sg, sh, el, nf, lr) (104 + k) = .inr (2, [.int (nf 0 k), .int (nf 1 k), .int (nf 2 k), va_rf ((lr 0 k).map (fun k => ad (104 + k))), va_rf ((lr 1 k).map (fun k => ad (104 + k))), .ref (ad (6 + (8 + k)))]) := by
  unfold xC
  rw [if_neg (by omega), if_neg (by omega), if_neg (by omega), if_neg (by omega), if_neg (by omega), if_neg (by omega), if_neg (by omega), if_neg (by omega), Nat.add_sub_cancel_left]
end AWX0
section AWX
variable {p : Program} {l : Launch} {e : Env} {s : State} {m : MethodId} {args : Array Value} {below : List Frame} {meth : Method} {c : Code} {H : Heap} {locs : List Loc} {cc : ByteArray} {n : Nat} {own : String} {D : va_G} {ct : Nat → ClassId} {A : Nat → Prop} {R : Room} {cells slots : Nat}
variable {pc : Nat} {ls : Array Slot} {rest : List Value} {Q : State → Prop} {ad : Nat → Nat}
variable {sc sg sh : Nat → Int32} {el : Nat → Nat → UInt64} {nf : Nat → Nat → Int32} {lr : Nat → Nat → Option Nat} {j k : Nat}
theorem xg_variables {index : Nat} (C : ar_C p l s m meth c cc n own args D ct A) (hW : ar_W D A s.heap H locs (xL ad ct (sc, sg, sh, el, nf, lr))) (hl : Cond.fieldLink own index "ArrayText" "variables" "[LArrayText$NumberArray;" ∈ lw_all) (hdg : decode cc pc = .ok (.getfield index, 3)) (kk : W p l e R s m args below meth c H locs cells slots Q (F0 m (pc + 3) ls (.ref (ad 1) :: rest))) : W p l e R s m args below meth c H locs cells slots Q (F0 m pc ls (.ref (ad 0) :: rest)) := ar_get (q0 := 0) (k := 0) C hW ar_in8 (xl_at (by decide) rfl) rfl (by decide) hl rfl hdg kk
theorem xg_text {index : Nat} (C : ar_C p l s m meth c cc n own args D ct A) (hW : ar_W D A s.heap H locs (xL ad ct (sc, sg, sh, el, nf, lr))) (hl : Cond.fieldLink own index "ArrayText" "text" "LArrayText$Text;" ∈ lw_all) (hdg : decode cc pc = .ok (.getfield index, 3)) (kk : W p l e R s m args below meth c H locs cells slots Q (F0 m (pc + 3) ls (.ref (ad 2) :: rest))) : W p l e R s m args below meth c H locs cells slots Q (F0 m pc ls (.ref (ad 0) :: rest)) := ar_get (q0 := 0) (k := 1) C hW ar_in8 (xl_at (by decide) rfl) rfl (by decide) hl rfl hdg kk
theorem xg_tree {index : Nat} (C : ar_C p l s m meth c cc n own args D ct A) (hW : ar_W D A s.heap H locs (xL ad ct (sc, sg, sh, el, nf, lr))) (hl : Cond.fieldLink own index "ArrayText" "tree" "LArrayText$Tree;" ∈ lw_all) (hdg : decode cc pc = .ok (.getfield index, 3)) (kk : W p l e R s m args below meth c H locs cells slots Q (F0 m (pc + 3) ls (.ref (ad 4) :: rest))) : W p l e R s m args below meth c H locs cells slots Q (F0 m pc ls (.ref (ad 0) :: rest)) := ar_get (q0 := 0) (k := 2) C hW ar_in8 (xl_at (by decide) rfl) rfl (by decide) hl rfl hdg kk
theorem xg_madeByLatest {index : Nat} (C : ar_C p l s m meth c cc n own args D ct A) (hW : ar_W D A s.heap H locs (xL ad ct (sc, sg, sh, el, nf, lr))) (hl : Cond.fieldLink own index "ArrayText" "madeByLatest" "I" ∈ lw_all) (hdg : decode cc pc = .ok (.getfield index, 3)) (kk : W p l e R s m args below meth c H locs cells slots Q (F0 m (pc + 3) ls (.int (sc 0) :: rest))) : W p l e R s m args below meth c H locs cells slots Q (F0 m pc ls (.ref (ad 0) :: rest)) := ar_get (q0 := 0) (k := 3) C hW ar_in8 (xl_at (by decide) rfl) rfl (by decide) hl rfl hdg kk
theorem xg_runsSoFar {index : Nat} (C : ar_C p l s m meth c cc n own args D ct A) (hW : ar_W D A s.heap H locs (xL ad ct (sc, sg, sh, el, nf, lr))) (hl : Cond.fieldLink own index "ArrayText" "runsSoFar" "I" ∈ lw_all) (hdg : decode cc pc = .ok (.getfield index, 3)) (kk : W p l e R s m args below meth c H locs cells slots Q (F0 m (pc + 3) ls (.int (sc 1) :: rest))) : W p l e R s m args below meth c H locs cells slots Q (F0 m pc ls (.ref (ad 0) :: rest)) := ar_get (q0 := 0) (k := 4) C hW ar_in8 (xl_at (by decide) rfl) rfl (by decide) hl rfl hdg kk
theorem xg_signs {index : Nat} (C : ar_C p l s m meth c cc n own args D ct A) (hW : ar_W D A s.heap H locs (xL ad ct (sc, sg, sh, el, nf, lr))) (hl : Cond.fieldLink own index "ArrayText$Text" "signs" "[C" ∈ lw_all) (hdg : decode cc pc = .ok (.getfield index, 3)) (kk : W p l e R s m args below meth c H locs cells slots Q (F0 m (pc + 3) ls (.ref (ad 3) :: rest))) : W p l e R s m args below meth c H locs cells slots Q (F0 m pc ls (.ref (ad 2) :: rest)) := ar_get (q0 := 2) (k := 0) C hW ar_in5 (xl_at (by decide) rfl) rfl (by decide) hl rfl hdg kk
theorem xg_length {index : Nat} (C : ar_C p l s m meth c cc n own args D ct A) (hW : ar_W D A s.heap H locs (xL ad ct (sc, sg, sh, el, nf, lr))) (hl : Cond.fieldLink own index "ArrayText$Text" "length" "I" ∈ lw_all) (hdg : decode cc pc = .ok (.getfield index, 3)) (kk : W p l e R s m args below meth c H locs cells slots Q (F0 m (pc + 3) ls (.int (sc 2) :: rest))) : W p l e R s m args below meth c H locs cells slots Q (F0 m pc ls (.ref (ad 2) :: rest)) := ar_get (q0 := 2) (k := 1) C hW ar_in5 (xl_at (by decide) rfl) rfl (by decide) hl rfl hdg kk
theorem xg_place {index : Nat} (C : ar_C p l s m meth c cc n own args D ct A) (hW : ar_W D A s.heap H locs (xL ad ct (sc, sg, sh, el, nf, lr))) (hl : Cond.fieldLink own index "ArrayText$Text" "place" "I" ∈ lw_all) (hdg : decode cc pc = .ok (.getfield index, 3)) (kk : W p l e R s m args below meth c H locs cells slots Q (F0 m (pc + 3) ls (.int (sc 3) :: rest))) : W p l e R s m args below meth c H locs cells slots Q (F0 m pc ls (.ref (ad 2) :: rest)) := ar_get (q0 := 2) (k := 2) C hW ar_in5 (xl_at (by decide) rfl) rfl (by decide) hl rfl hdg kk
theorem xg_nodes {index : Nat} (C : ar_C p l s m meth c cc n own args D ct A) (hW : ar_W D A s.heap H locs (xL ad ct (sc, sg, sh, el, nf, lr))) (hl : Cond.fieldLink own index "ArrayText$Tree" "nodes" "[LArrayText$Node;" ∈ lw_all) (hdg : decode cc pc = .ok (.getfield index, 3)) (kk : W p l e R s m args below meth c H locs cells slots Q (F0 m (pc + 3) ls (.ref (ad 5) :: rest))) : W p l e R s m args below meth c H locs cells slots Q (F0 m pc ls (.ref (ad 4) :: rest)) := ar_get (q0 := 4) (k := 0) C hW ar_in6 (xl_at (by decide) rfl) rfl (by decide) hl rfl hdg kk
theorem xg_count {index : Nat} (C : ar_C p l s m meth c cc n own args D ct A) (hW : ar_W D A s.heap H locs (xL ad ct (sc, sg, sh, el, nf, lr))) (hl : Cond.fieldLink own index "ArrayText$Tree" "count" "I" ∈ lw_all) (hdg : decode cc pc = .ok (.getfield index, 3)) (kk : W p l e R s m args below meth c H locs cells slots Q (F0 m (pc + 3) ls (.int (sc 4) :: rest))) : W p l e R s m args below meth c H locs cells slots Q (F0 m pc ls (.ref (ad 4) :: rest)) := ar_get (q0 := 4) (k := 1) C hW ar_in6 (xl_at (by decide) rfl) rfl (by decide) hl rfl hdg kk
theorem xg_shape {index : Nat} (C : ar_C p l s m meth c cc n own args D ct A) (hW : ar_W D A s.heap H locs (xL ad ct (sc, sg, sh, el, nf, lr))) (hl : Cond.fieldLink own index "ArrayText$NumberArray" "shape" "I" ∈ lw_all) (hj : j < 49) (hdg : decode cc pc = .ok (.getfield index, 3)) (kk : W p l e R s m args below meth c H locs cells slots Q (F0 m (pc + 3) ls (.int (sh j) :: rest))) : W p l e R s m args below meth c H locs cells slots Q (F0 m pc ls (.ref (ad (6 + j)) :: rest)) := ar_get (q0 := 6 + j) (k := 0) C hW ar_in1 (xl_at (by omega) (xc_na hj)) rfl (by decide) hl rfl hdg kk
theorem xg_elements {index : Nat} (C : ar_C p l s m meth c cc n own args D ct A) (hW : ar_W D A s.heap H locs (xL ad ct (sc, sg, sh, el, nf, lr))) (hl : Cond.fieldLink own index "ArrayText$NumberArray" "elements" "[D" ∈ lw_all) (hj : j < 49) (hdg : decode cc pc = .ok (.getfield index, 3)) (kk : W p l e R s m args below meth c H locs cells slots Q (F0 m (pc + 3) ls (.ref (ad (55 + j)) :: rest))) : W p l e R s m args below meth c H locs cells slots Q (F0 m pc ls (.ref (ad (6 + j)) :: rest)) := ar_get (q0 := 6 + j) (k := 1) C hW ar_in1 (xl_at (by omega) (xc_na hj)) rfl (by decide) hl rfl hdg kk
theorem xg_kind {index : Nat} (C : ar_C p l s m meth c cc n own args D ct A) (hW : ar_W D A s.heap H locs (xL ad ct (sc, sg, sh, el, nf, lr))) (hl : Cond.fieldLink own index "ArrayText$Node" "kind" "I" ∈ lw_all) (hk : k < 41) (hdg : decode cc pc = .ok (.getfield index, 3)) (kk : W p l e R s m args below meth c H locs cells slots Q (F0 m (pc + 3) ls (.int (nf 0 k) :: rest))) : W p l e R s m args below meth c H locs cells slots Q (F0 m pc ls (.ref (ad (104 + k)) :: rest)) := ar_get (q0 := 104 + k) (k := 0) C hW ar_in0 (xl_at (by omega) xc_nd) rfl (by decide) hl rfl hdg kk
theorem xg_sign {index : Nat} (C : ar_C p l s m meth c cc n own args D ct A) (hW : ar_W D A s.heap H locs (xL ad ct (sc, sg, sh, el, nf, lr))) (hl : Cond.fieldLink own index "ArrayText$Node" "sign" "C" ∈ lw_all) (hk : k < 41) (hdg : decode cc pc = .ok (.getfield index, 3)) (kk : W p l e R s m args below meth c H locs cells slots Q (F0 m (pc + 3) ls (.int (nf 1 k) :: rest))) : W p l e R s m args below meth c H locs cells slots Q (F0 m pc ls (.ref (ad (104 + k)) :: rest)) := ar_get (q0 := 104 + k) (k := 1) C hW ar_in0 (xl_at (by omega) xc_nd) rfl (by decide) hl rfl hdg kk
theorem xg_number {index : Nat} (C : ar_C p l s m meth c cc n own args D ct A) (hW : ar_W D A s.heap H locs (xL ad ct (sc, sg, sh, el, nf, lr))) (hl : Cond.fieldLink own index "ArrayText$Node" "number" "I" ∈ lw_all) (hk : k < 41) (hdg : decode cc pc = .ok (.getfield index, 3)) (kk : W p l e R s m args below meth c H locs cells slots Q (F0 m (pc + 3) ls (.int (nf 2 k) :: rest))) : W p l e R s m args below meth c H locs cells slots Q (F0 m pc ls (.ref (ad (104 + k)) :: rest)) := ar_get (q0 := 104 + k) (k := 2) C hW ar_in0 (xl_at (by omega) xc_nd) rfl (by decide) hl rfl hdg kk
theorem xg_left {index : Nat} (C : ar_C p l s m meth c cc n own args D ct A) (hW : ar_W D A s.heap H locs (xL ad ct (sc, sg, sh, el, nf, lr))) (hl : Cond.fieldLink own index "ArrayText$Node" "left" "LArrayText$Node;" ∈ lw_all) (hk : k < 41) (hdg : decode cc pc = .ok (.getfield index, 3)) (kk : W p l e R s m args below meth c H locs cells slots Q (F0 m (pc + 3) ls (va_rf ((lr 0 k).map (fun k => ad (104 + k))) :: rest))) : W p l e R s m args below meth c H locs cells slots Q (F0 m pc ls (.ref (ad (104 + k)) :: rest)) := ar_get (q0 := 104 + k) (k := 3) C hW ar_in0 (xl_at (by omega) xc_nd) rfl (by decide) hl rfl hdg kk
theorem xg_right {index : Nat} (C : ar_C p l s m meth c cc n own args D ct A) (hW : ar_W D A s.heap H locs (xL ad ct (sc, sg, sh, el, nf, lr))) (hl : Cond.fieldLink own index "ArrayText$Node" "right" "LArrayText$Node;" ∈ lw_all) (hk : k < 41) (hdg : decode cc pc = .ok (.getfield index, 3)) (kk : W p l e R s m args below meth c H locs cells slots Q (F0 m (pc + 3) ls (va_rf ((lr 1 k).map (fun k => ad (104 + k))) :: rest))) : W p l e R s m args below meth c H locs cells slots Q (F0 m pc ls (.ref (ad (104 + k)) :: rest)) := ar_get (q0 := 104 + k) (k := 4) C hW ar_in0 (xl_at (by omega) xc_nd) rfl (by decide) hl rfl hdg kk
theorem xg_result {index : Nat} (C : ar_C p l s m meth c cc n own args D ct A) (hW : ar_W D A s.heap H locs (xL ad ct (sc, sg, sh, el, nf, lr))) (hl : Cond.fieldLink own index "ArrayText$Node" "result" "LArrayText$NumberArray;" ∈ lw_all) (hk : k < 41) (hdg : decode cc pc = .ok (.getfield index, 3)) (kk : W p l e R s m args below meth c H locs cells slots Q (F0 m (pc + 3) ls (.ref (ad (6 + (8 + k))) :: rest))) : W p l e R s m args below meth c H locs cells slots Q (F0 m pc ls (.ref (ad (104 + k)) :: rest)) := ar_get (q0 := 104 + k) (k := 5) C hW ar_in0 (xl_at (by omega) xc_nd) rfl (by decide) hl rfl hdg kk
theorem xp_madeByLatest {index : Nat} {v : Int32} (C : ar_C p l s m meth c cc n own args D ct A) (hW : ar_W D A s.heap H locs (xL ad ct (sc, sg, sh, el, nf, lr))) (hl : Cond.fieldLink own index "ArrayText" "madeByLatest" "I" ∈ lw_all) (hdg : decode cc pc = .ok (.putfield index, 3)) (kk : ∀ (H1 : Heap) (locs1 : List Loc), ar_W D A s.heap H1 locs1 (xL ad ct (va_up sc 0 v, sg, sh, el, nf, lr)) → W p l e R s m args below meth c H1 locs1 cells slots Q (F0 m (pc + 3) ls rest)) : W p l e R s m args below meth c H locs cells slots Q (F0 m pc ls (.int v :: .ref (ad 0) :: rest)) := ar_put (q0 := 0) (k := 3) (ty0 := tyX8) (ty := .int) C hW ar_in8 tyX8_ok nmX8 (xl_at (by decide) rfl) rfl (by decide) hl rfl (by decide +kernel) rfl rfl (by simp) hdg (fun H1 locs1 hW => kk H1 locs1 (by
  rw [xl_set (u9 := (va_up sc 0 v, sg, sh, el, nf, lr))] at hW
  · exact hW
  · intro i hi
    by_cases h : i = 0
    · subst h
      simp [xC, va_up]
    · rw [if_neg h]
      simp [xC, va_up, h]))
theorem xp_runsSoFar {index : Nat} {v : Int32} (C : ar_C p l s m meth c cc n own args D ct A) (hW : ar_W D A s.heap H locs (xL ad ct (sc, sg, sh, el, nf, lr))) (hl : Cond.fieldLink own index "ArrayText" "runsSoFar" "I" ∈ lw_all) (hdg : decode cc pc = .ok (.putfield index, 3)) (kk : ∀ (H1 : Heap) (locs1 : List Loc), ar_W D A s.heap H1 locs1 (xL ad ct (va_up sc 1 v, sg, sh, el, nf, lr)) → W p l e R s m args below meth c H1 locs1 cells slots Q (F0 m (pc + 3) ls rest)) : W p l e R s m args below meth c H locs cells slots Q (F0 m pc ls (.int v :: .ref (ad 0) :: rest)) := ar_put (q0 := 0) (k := 4) (ty0 := tyX8) (ty := .int) C hW ar_in8 tyX8_ok nmX8 (xl_at (by decide) rfl) rfl (by decide) hl rfl (by decide +kernel) rfl rfl (by simp) hdg (fun H1 locs1 hW => kk H1 locs1 (by
  rw [xl_set (u9 := (va_up sc 1 v, sg, sh, el, nf, lr))] at hW
  · exact hW
  · intro i hi
    by_cases h : i = 0
    · subst h
      simp [xC, va_up]
    · rw [if_neg h]
      simp [xC, va_up, h]))
theorem xp_length {index : Nat} {v : Int32} (C : ar_C p l s m meth c cc n own args D ct A) (hW : ar_W D A s.heap H locs (xL ad ct (sc, sg, sh, el, nf, lr))) (hl : Cond.fieldLink own index "ArrayText$Text" "length" "I" ∈ lw_all) (hdg : decode cc pc = .ok (.putfield index, 3)) (kk : ∀ (H1 : Heap) (locs1 : List Loc), ar_W D A s.heap H1 locs1 (xL ad ct (va_up sc 2 v, sg, sh, el, nf, lr)) → W p l e R s m args below meth c H1 locs1 cells slots Q (F0 m (pc + 3) ls rest)) : W p l e R s m args below meth c H locs cells slots Q (F0 m pc ls (.int v :: .ref (ad 2) :: rest)) := ar_put (q0 := 2) (k := 1) (ty0 := tyX5) (ty := .int) C hW ar_in5 tyX5_ok nmX5 (xl_at (by decide) rfl) rfl (by decide) hl rfl (by decide +kernel) rfl rfl (by simp) hdg (fun H1 locs1 hW => kk H1 locs1 (by
  rw [xl_set (u9 := (va_up sc 2 v, sg, sh, el, nf, lr))] at hW
  · exact hW
  · intro i hi
    by_cases h : i = 2
    · subst h
      simp [xC, va_up]
    · rw [if_neg h]
      simp [xC, va_up, h]))
theorem xp_place {index : Nat} {v : Int32} (C : ar_C p l s m meth c cc n own args D ct A) (hW : ar_W D A s.heap H locs (xL ad ct (sc, sg, sh, el, nf, lr))) (hl : Cond.fieldLink own index "ArrayText$Text" "place" "I" ∈ lw_all) (hdg : decode cc pc = .ok (.putfield index, 3)) (kk : ∀ (H1 : Heap) (locs1 : List Loc), ar_W D A s.heap H1 locs1 (xL ad ct (va_up sc 3 v, sg, sh, el, nf, lr)) → W p l e R s m args below meth c H1 locs1 cells slots Q (F0 m (pc + 3) ls rest)) : W p l e R s m args below meth c H locs cells slots Q (F0 m pc ls (.int v :: .ref (ad 2) :: rest)) := ar_put (q0 := 2) (k := 2) (ty0 := tyX5) (ty := .int) C hW ar_in5 tyX5_ok nmX5 (xl_at (by decide) rfl) rfl (by decide) hl rfl (by decide +kernel) rfl rfl (by simp) hdg (fun H1 locs1 hW => kk H1 locs1 (by
  rw [xl_set (u9 := (va_up sc 3 v, sg, sh, el, nf, lr))] at hW
  · exact hW
  · intro i hi
    by_cases h : i = 2
    · subst h
      simp [xC, va_up]
    · rw [if_neg h]
      simp [xC, va_up, h]))
theorem xp_count {index : Nat} {v : Int32} (C : ar_C p l s m meth c cc n own args D ct A) (hW : ar_W D A s.heap H locs (xL ad ct (sc, sg, sh, el, nf, lr))) (hl : Cond.fieldLink own index "ArrayText$Tree" "count" "I" ∈ lw_all) (hdg : decode cc pc = .ok (.putfield index, 3)) (kk : ∀ (H1 : Heap) (locs1 : List Loc), ar_W D A s.heap H1 locs1 (xL ad ct (va_up sc 4 v, sg, sh, el, nf, lr)) → W p l e R s m args below meth c H1 locs1 cells slots Q (F0 m (pc + 3) ls rest)) : W p l e R s m args below meth c H locs cells slots Q (F0 m pc ls (.int v :: .ref (ad 4) :: rest)) := ar_put (q0 := 4) (k := 1) (ty0 := tyX6) (ty := .int) C hW ar_in6 tyX6_ok nmX6 (xl_at (by decide) rfl) rfl (by decide) hl rfl (by decide +kernel) rfl rfl (by simp) hdg (fun H1 locs1 hW => kk H1 locs1 (by
  rw [xl_set (u9 := (va_up sc 4 v, sg, sh, el, nf, lr))] at hW
  · exact hW
  · intro i hi
    by_cases h : i = 4
    · subst h
      simp [xC, va_up]
    · rw [if_neg h]
      simp [xC, va_up, h]))
theorem xp_shape {index : Nat} {v : Int32} (C : ar_C p l s m meth c cc n own args D ct A) (hW : ar_W D A s.heap H locs (xL ad ct (sc, sg, sh, el, nf, lr))) (hl : Cond.fieldLink own index "ArrayText$NumberArray" "shape" "I" ∈ lw_all) (hj : j < 49) (hdg : decode cc pc = .ok (.putfield index, 3)) (kk : ∀ (H1 : Heap) (locs1 : List Loc), ar_W D A s.heap H1 locs1 (xL ad ct (sc, sg, va_up sh j v, el, nf, lr)) → W p l e R s m args below meth c H1 locs1 cells slots Q (F0 m (pc + 3) ls rest)) : W p l e R s m args below meth c H locs cells slots Q (F0 m pc ls (.int v :: .ref (ad (6 + j)) :: rest)) := ar_put (q0 := 6 + j) (k := 0) (ty0 := tyX1) (ty := .int) C hW ar_in1 tyX1_ok nmX1 (xl_at (by omega) (xc_na hj)) rfl (by decide) hl rfl (by decide +kernel) rfl rfl (by simp) hdg (fun H1 locs1 hW => kk H1 locs1 (by
  rw [xl_set (u9 := (sc, sg, va_up sh j v, el, nf, lr))] at hW
  · exact hW
  · intro i hi
    by_cases h : i = 6 + j
    · subst h
      rw [xc_na hj, if_pos rfl]; simp [va_up]
    · rw [if_neg h]
      by_cases h6 : i < 6
      · simp [xC]
        repeat' split
        all_goals first | rfl | omega
      · have h9 : i - 6 ≠ j := by omega
        simp [xC, va_up, h9]))
theorem xp_kind {index : Nat} {v : Int32} (C : ar_C p l s m meth c cc n own args D ct A) (hW : ar_W D A s.heap H locs (xL ad ct (sc, sg, sh, el, nf, lr))) (hl : Cond.fieldLink own index "ArrayText$Node" "kind" "I" ∈ lw_all) (hk : k < 41) (hdg : decode cc pc = .ok (.putfield index, 3)) (kk : ∀ (H1 : Heap) (locs1 : List Loc), ar_W D A s.heap H1 locs1 (xL ad ct (sc, sg, sh, el, va_up nf 0 (va_up (nf 0) k v), lr)) → W p l e R s m args below meth c H1 locs1 cells slots Q (F0 m (pc + 3) ls rest)) : W p l e R s m args below meth c H locs cells slots Q (F0 m pc ls (.int v :: .ref (ad (104 + k)) :: rest)) := ar_put (q0 := 104 + k) (k := 0) (ty0 := tyX0) (ty := .int) C hW ar_in0 tyX0_ok nmX0 (xl_at (by omega) xc_nd) rfl (by decide) hl rfl (by decide +kernel) rfl rfl (by simp) hdg (fun H1 locs1 hW => kk H1 locs1 (by
  rw [xl_set (u9 := (sc, sg, sh, el, va_up nf 0 (va_up (nf 0) k v), lr))] at hW
  · exact hW
  · intro i hi
    by_cases h : i = 104 + k
    · subst h
      rw [xc_nd, if_pos rfl]; simp [va_up]
    · rw [if_neg h]
      by_cases h6 : i < 104
      · have h1 : ¬ 104 ≤ i := by omega
        simp [xC, h6]
      · have h9 : i - 104 ≠ k := by omega
        simp [xC, va_up, h9]))
theorem xp_sign {index : Nat} {v : Int32} (hv : narrow .char (.int v) = .int v ∧ fits .char (.int v) = true) (C : ar_C p l s m meth c cc n own args D ct A) (hW : ar_W D A s.heap H locs (xL ad ct (sc, sg, sh, el, nf, lr))) (hl : Cond.fieldLink own index "ArrayText$Node" "sign" "C" ∈ lw_all) (hk : k < 41) (hdg : decode cc pc = .ok (.putfield index, 3)) (kk : ∀ (H1 : Heap) (locs1 : List Loc), ar_W D A s.heap H1 locs1 (xL ad ct (sc, sg, sh, el, va_up nf 1 (va_up (nf 1) k v), lr)) → W p l e R s m args below meth c H1 locs1 cells slots Q (F0 m (pc + 3) ls rest)) : W p l e R s m args below meth c H locs cells slots Q (F0 m pc ls (.int v :: .ref (ad (104 + k)) :: rest)) := ar_put (q0 := 104 + k) (k := 1) (ty0 := tyX0) (ty := .char) C hW ar_in0 tyX0_ok nmX0 (xl_at (by omega) xc_nd) rfl (by decide) hl rfl (by decide +kernel) hv.1 hv.2 (by simp) hdg (fun H1 locs1 hW => kk H1 locs1 (by
  rw [xl_set (u9 := (sc, sg, sh, el, va_up nf 1 (va_up (nf 1) k v), lr))] at hW
  · exact hW
  · intro i hi
    by_cases h : i = 104 + k
    · subst h
      rw [xc_nd, if_pos rfl]; simp [va_up]
    · rw [if_neg h]
      by_cases h6 : i < 104
      · have h1 : ¬ 104 ≤ i := by omega
        simp [xC, h6]
      · have h9 : i - 104 ≠ k := by omega
        simp [xC, va_up, h9]))
theorem xp_number {index : Nat} {v : Int32} (C : ar_C p l s m meth c cc n own args D ct A) (hW : ar_W D A s.heap H locs (xL ad ct (sc, sg, sh, el, nf, lr))) (hl : Cond.fieldLink own index "ArrayText$Node" "number" "I" ∈ lw_all) (hk : k < 41) (hdg : decode cc pc = .ok (.putfield index, 3)) (kk : ∀ (H1 : Heap) (locs1 : List Loc), ar_W D A s.heap H1 locs1 (xL ad ct (sc, sg, sh, el, va_up nf 2 (va_up (nf 2) k v), lr)) → W p l e R s m args below meth c H1 locs1 cells slots Q (F0 m (pc + 3) ls rest)) : W p l e R s m args below meth c H locs cells slots Q (F0 m pc ls (.int v :: .ref (ad (104 + k)) :: rest)) := ar_put (q0 := 104 + k) (k := 2) (ty0 := tyX0) (ty := .int) C hW ar_in0 tyX0_ok nmX0 (xl_at (by omega) xc_nd) rfl (by decide) hl rfl (by decide +kernel) rfl rfl (by simp) hdg (fun H1 locs1 hW => kk H1 locs1 (by
  rw [xl_set (u9 := (sc, sg, sh, el, va_up nf 2 (va_up (nf 2) k v), lr))] at hW
  · exact hW
  · intro i hi
    by_cases h : i = 104 + k
    · subst h
      rw [xc_nd, if_pos rfl]; simp [va_up]
    · rw [if_neg h]
      by_cases h6 : i < 104
      · have h1 : ¬ 104 ≤ i := by omega
        simp [xC, h6]
      · have h9 : i - 104 ≠ k := by omega
        simp [xC, va_up, h9]))
theorem xp_left {index : Nat} {v : Option Nat} (C : ar_C p l s m meth c cc n own args D ct A) (hW : ar_W D A s.heap H locs (xL ad ct (sc, sg, sh, el, nf, lr))) (hl : Cond.fieldLink own index "ArrayText$Node" "left" "LArrayText$Node;" ∈ lw_all) (hk : k < 41) (hdg : decode cc pc = .ok (.putfield index, 3)) (kk : ∀ (H1 : Heap) (locs1 : List Loc), ar_W D A s.heap H1 locs1 (xL ad ct (sc, sg, sh, el, nf, va_up lr 0 (va_up (lr 0) k v))) → W p l e R s m args below meth c H1 locs1 cells slots Q (F0 m (pc + 3) ls rest)) : W p l e R s m args below meth c H locs cells slots Q (F0 m pc ls (va_rf (v.map (fun k => ad (104 + k))) :: .ref (ad (104 + k)) :: rest)) := ar_put (q0 := 104 + k) (k := 3) (ty0 := tyX0) (ty := .object "ArrayText$Node") C hW ar_in0 tyX0_ok nmX0 (xl_at (by omega) xc_nd) rfl (by decide) hl rfl (by decide +kernel) (by cases v <;> rfl) (by cases v <;> rfl) (by simp) hdg (fun H1 locs1 hW => kk H1 locs1 (by
  rw [xl_set (u9 := (sc, sg, sh, el, nf, va_up lr 0 (va_up (lr 0) k v)))] at hW
  · exact hW
  · intro i hi
    by_cases h : i = 104 + k
    · subst h
      rw [xc_nd, if_pos rfl]; simp [va_up]
    · rw [if_neg h]
      by_cases h6 : i < 104
      · have h1 : ¬ 104 ≤ i := by omega
        simp [xC, h6]
      · have h9 : i - 104 ≠ k := by omega
        simp [xC, va_up, h9]))
theorem xp_right {index : Nat} {v : Option Nat} (C : ar_C p l s m meth c cc n own args D ct A) (hW : ar_W D A s.heap H locs (xL ad ct (sc, sg, sh, el, nf, lr))) (hl : Cond.fieldLink own index "ArrayText$Node" "right" "LArrayText$Node;" ∈ lw_all) (hk : k < 41) (hdg : decode cc pc = .ok (.putfield index, 3)) (kk : ∀ (H1 : Heap) (locs1 : List Loc), ar_W D A s.heap H1 locs1 (xL ad ct (sc, sg, sh, el, nf, va_up lr 1 (va_up (lr 1) k v))) → W p l e R s m args below meth c H1 locs1 cells slots Q (F0 m (pc + 3) ls rest)) : W p l e R s m args below meth c H locs cells slots Q (F0 m pc ls (va_rf (v.map (fun k => ad (104 + k))) :: .ref (ad (104 + k)) :: rest)) := ar_put (q0 := 104 + k) (k := 4) (ty0 := tyX0) (ty := .object "ArrayText$Node") C hW ar_in0 tyX0_ok nmX0 (xl_at (by omega) xc_nd) rfl (by decide) hl rfl (by decide +kernel) (by cases v <;> rfl) (by cases v <;> rfl) (by simp) hdg (fun H1 locs1 hW => kk H1 locs1 (by
  rw [xl_set (u9 := (sc, sg, sh, el, nf, va_up lr 1 (va_up (lr 1) k v)))] at hW
  · exact hW
  · intro i hi
    by_cases h : i = 104 + k
    · subst h
      rw [xc_nd, if_pos rfl]; simp [va_up]
    · rw [if_neg h]
      by_cases h6 : i < 104
      · have h1 : ¬ 104 ≤ i := by omega
        simp [xC, h6]
      · have h9 : i - 104 ≠ k := by omega
        simp [xC, va_up, h9]))
theorem xl_signs (C : ar_C p l s m meth c cc n own args D ct A) (hW : ar_W D A s.heap H locs (xL ad ct (sc, sg, sh, el, nf, lr))) (hj : j < 40) (hdg : decode cc pc = .ok (.caload, 1)) (kk : W p l e R s m args below meth c H locs cells slots Q (F0 m (pc + 1) ls (.int (sg j) :: rest))) : W p l e R s m args below meth c H locs cells slots Q (F0 m pc ls (.int (nI j) :: .ref (ad 3) :: rest)) := ar_cald (q0 := 3) C hW (xl_at (by decide) rfl) hj (by decide) hdg kk
theorem xs_signs {v : Int32} (hv : vp_nar .char v = v) (C : ar_C p l s m meth c cc n own args D ct A) (hW : ar_W D A s.heap H locs (xL ad ct (sc, sg, sh, el, nf, lr))) (hj : j < 40) (hdg : decode cc pc = .ok (.castore, 1)) (kk : ∀ (H1 : Heap) (locs1 : List Loc), ar_W D A s.heap H1 locs1 (xL ad ct (sc, va_up sg j v, sh, el, nf, lr)) → W p l e R s m args below meth c H1 locs1 cells slots Q (F0 m (pc + 1) ls rest)) : W p l e R s m args below meth c H locs cells slots Q (F0 m pc ls (.int v :: .int (nI j) :: .ref (ad 3) :: rest)) := ar_cast (q0 := 3) hv C hW (xl_at (by decide) rfl) hj (by decide) hdg (fun H1 locs1 hW => kk H1 locs1 (by
  rw [xl_set (u9 := (sc, va_up sg j v, sh, el, nf, lr))] at hW
  · exact hW
  · intro i hi
    by_cases h : i = 3
    · subst h
      simp [xC]
    · rw [if_neg h]
      simp [xC, h]))
theorem xl_elements {i : Nat} (C : ar_C p l s m meth c cc n own args D ct A) (hW : ar_W D A s.heap H locs (xL ad ct (sc, sg, sh, el, nf, lr))) (hj : j < 49) (hi : i < 24) (hdg : decode cc pc = .ok (.daload, 1)) (kk : W p l e R s m args below meth c H locs cells slots Q (F0 m (pc + 1) ls (.double (el j i) :: rest))) : W p l e R s m args below meth c H locs cells slots Q (F0 m pc ls (.int (nI i) :: .ref (ad (55 + j)) :: rest)) := ar_dald (q0 := 55 + j) C hW (xl_at (by omega) (xc_el hj)) hi (by decide) hdg kk
theorem xs_elements {i : Nat} {v : UInt64} (C : ar_C p l s m meth c cc n own args D ct A) (hW : ar_W D A s.heap H locs (xL ad ct (sc, sg, sh, el, nf, lr))) (hj : j < 49) (hi : i < 24) (hdg : decode cc pc = .ok (.dastore, 1)) (kk : ∀ (H1 : Heap) (locs1 : List Loc), ar_W D A s.heap H1 locs1 (xL ad ct (sc, sg, sh, va_up el j (va_up (el j) i v), nf, lr)) → W p l e R s m args below meth c H1 locs1 cells slots Q (F0 m (pc + 1) ls rest)) : W p l e R s m args below meth c H locs cells slots Q (F0 m pc ls (.double v :: .int (nI i) :: .ref (ad (55 + j)) :: rest)) := ar_dast (q0 := 55 + j) C hW (xl_at (by omega) (xc_el hj)) hi (by decide) hdg (fun H1 locs1 hW => kk H1 locs1 (by
  rw [xl_set (u9 := (sc, sg, sh, va_up el j (va_up (el j) i v), nf, lr))] at hW
  · exact hW
  · intro z hz
    by_cases h : z = 55 + j
    · subst h
      rw [xc_el hj, if_pos rfl, va_up_self]
    · rw [if_neg h]
      by_cases h6 : z < 55
      · simp [xC, h6]
      · have h9 : z - 55 ≠ j := by omega
        simp [xC, va_up, h9]))
theorem xl_variables (C : ar_C p l s m meth c cc n own args D ct A) (hW : ar_W D A s.heap H locs (xL ad ct (sc, sg, sh, el, nf, lr))) (hj : j < 8) (hdg : decode cc pc = .ok (.aaload, 1)) (kk : W p l e R s m args below meth c H locs cells slots Q (F0 m (pc + 1) ls (.ref (ad (6 + j)) :: rest))) : W p l e R s m args below meth c H locs cells slots Q (F0 m pc ls (.int (nI j) :: .ref (ad 1) :: rest)) := ar_aald (q0 := 1) (t0 := 5) C hW (xl_at (by decide) rfl) rfl hj (by decide) hdg kk
theorem xl_nodes (C : ar_C p l s m meth c cc n own args D ct A) (hW : ar_W D A s.heap H locs (xL ad ct (sc, sg, sh, el, nf, lr))) (hj : j < 41) (hdg : decode cc pc = .ok (.aaload, 1)) (kk : W p l e R s m args below meth c H locs cells slots Q (F0 m (pc + 1) ls (.ref (ad (104 + j)) :: rest))) : W p l e R s m args below meth c H locs cells slots Q (F0 m pc ls (.int (nI j) :: .ref (ad 5) :: rest)) := ar_aald (q0 := 5) (t0 := 4) C hW (xl_at (by decide) rfl) rfl hj (by decide) hdg kk
end AWX
end
section
def bI (b : Bool) : Int32 := if b then 1 else 0
theorem bI_t {b : Bool} (h : b = true) : nI 1 = bI b := by rw [h]; rfl
theorem bI_f {b : Bool} (h : b = false) : nI 0 = bI b := by rw [h]; rfl
theorem bI_z (b : Bool) : narrow .boolean (.int (bI b)) = .int (bI b) ∧ fits .boolean (.int (bI b)) = true := by cases b <;> decide
theorem nI_z0 : narrow .boolean (.int (nI 0)) = .int (nI 0) ∧ fits .boolean (.int (nI 0)) = true := by decide
theorem nI_z1 : narrow .boolean (.int (nI 1)) = .int (nI 1) ∧ fits .boolean (.int (nI 1)) = true := by decide
theorem fill_s {α : Type} {f g h : Nat → α} {k : Nat} (hf : ∀ i, f i = if i < k then g i else h i) : ∀ i, va_up f k (g k) i = if i < k + 1 then g i else h i := by
  intro i
  unfold va_up
  by_cases hi : i = k
  · rw [if_pos hi, if_pos (by omega), hi]
  · rw [if_neg hi, hf i]
    by_cases h9 : i < k
    · rw [if_pos h9, if_pos (by omega)]
    · rw [if_neg h9, if_neg (by omega)]
theorem fill_0 {α : Type} {g h : Nat → α} : ∀ i, h i = if i < 0 then g i else h i := fun i => by rw [if_neg (Nat.not_lt_zero _)]
/-- a count that runs down, one below -/
def zPr (i : Nat) : Int32 := nI i - nI 1
theorem zPr_s (j : Nat) : zPr (j + 1) = nI j := nI_pred j
theorem zPr_d (j : Nat) : nI j + Int32.ofInt (-1) = zPr j := by
  show nI j + Int32.ofInt (-1) = nI j - nI 1
  rw [Int32.sub_eq_add_neg]
  rfl
theorem zPr_neg {i : Nat} (hi : i < 2 ^ 31) (h : zPr i < 0) : i = 0 := by
  cases i with
  | zero => rfl
  | succ j =>
    rw [zPr_s] at h
    exact absurd h (nI_pos (by omega))
theorem zPr_pos {i : Nat} (h : ¬ zPr i < 0) : ∃ j, i = j + 1 := by
  cases i with
  | zero => exact absurd (by decide) h
  | succ j => exact ⟨j, rfl⟩
section AN
variable {p : Program} {l : Launch} {e : Env} {s : State} {m : MethodId} {args : Array Value} {below : List Frame} {meth : Method} {c : Code} {H : Heap} {locs : List Loc} {cc : ByteArray} {R : Room} {cells slots : Nat}
variable {pc : Nat} {ls : Array Slot} {rest : List Value} {Q : State → Prop} {a b : Nat}
theorem ln_top {x : Int32} (h : x = nI a) (k : W p l e R s m args below meth c H locs cells slots Q (F0 m pc ls (.int (nI a) :: rest))) : W p l e R s m args below meth c H locs cells slots Q (F0 m pc ls (.int x :: rest)) := by rw [h]; exact k
theorem ln_opt {ad : Nat → Nat} {o : Option Nat} (h : o = some a) (k : W p l e R s m args below meth c H locs cells slots Q (F0 m pc ls (.ref (ad (104 + a)) :: rest))) : W p l e R s m args below meth c H locs cells slots Q (F0 m pc ls (va_rf (o.map (fun k => ad (104 + k))) :: rest)) := by rw [h]; exact k
theorem ln_iadd (hx : p.tables.exec = Jvm.exec) (hb : c.code = cc) (hdg : decode cc pc = .ok (.iadd, 1)) (k : W p l e R s m args below meth c H locs cells slots Q (F0 m (pc + 1) ls (.int (nI (a + b)) :: rest))) : W p l e R s m args below meth c H locs cells slots Q (F0 m pc ls (.int (nI b) :: .int (nI a) :: rest)) := lv_iadd hx hb hdg (by rw [nI_add]; exact k)
theorem ln_imul (hx : p.tables.exec = Jvm.exec) (hb : c.code = cc) (hdg : decode cc pc = .ok (.imul, 1)) (k : W p l e R s m args below meth c H locs cells slots Q (F0 m (pc + 1) ls (.int (nI (a * b)) :: rest))) : W p l e R s m args below meth c H locs cells slots Q (F0 m pc ls (.int (nI b) :: .int (nI a) :: rest)) := lv_imul hx hb hdg (by rw [pk_mul]; exact k)
theorem ln_isub (hx : p.tables.exec = Jvm.exec) (hb : c.code = cc) (hdg : decode cc pc = .ok (.isub, 1)) (h : b ≤ a) (k : W p l e R s m args below meth c H locs cells slots Q (F0 m (pc + 1) ls (.int (nI (a - b)) :: rest))) : W p l e R s m args below meth c H locs cells slots Q (F0 m pc ls (.int (nI b) :: .int (nI a) :: rest)) := lv_isub hx hb hdg (by rw [pk_sub h]; exact k)
theorem ln_idiv (hx : p.tables.exec = Jvm.exec) (hb : c.code = cc) (hdg : decode cc pc = .ok (.idiv, 1)) (ha : a < 2 ^ 31) (h0 : 0 < b) (hb9 : b < 2 ^ 31) (k : W p l e R s m args below meth c H locs cells slots Q (F0 m (pc + 1) ls (.int (nI (a / b)) :: rest))) : W p l e R s m args below meth c H locs cells slots Q (F0 m pc ls (.int (nI b) :: .int (nI a) :: rest)) := lv_idiv hx hb hdg (nI_ne0 h0 hb9) (by rw [pk_div ha h0 hb9]; exact k)
theorem ln_irem (hx : p.tables.exec = Jvm.exec) (hb : c.code = cc) (hdg : decode cc pc = .ok (.irem, 1)) (ha : a < 2 ^ 31) (h0 : 0 < b) (hb9 : b < 2 ^ 31) (k : W p l e R s m args below meth c H locs cells slots Q (F0 m (pc + 1) ls (.int (nI (a % b)) :: rest))) : W p l e R s m args below meth c H locs cells slots Q (F0 m pc ls (.int (nI b) :: .int (nI a) :: rest)) := lv_irem hx hb hdg (nI_ne0 h0 hb9) (by rw [pk_rem ha h0 hb9]; exact k)
theorem ln_icmp_eq {off : Int} {tgt : Nat} (hx : p.tables.exec = Jvm.exec) (hb : c.code = cc) (hdg : decode cc pc = .ok (.if_icmp .eq off, 3)) (ht : (pc : Int) + off = (tgt : Int)) (ha : a < 2 ^ 31) (hb9 : b < 2 ^ 31) (kt : a = b → W p l e R s m args below meth c H locs cells slots Q (F0 m tgt ls rest)) (kf : a ≠ b → W p l e R s m args below meth c H locs cells slots Q (F0 m (pc + 3) ls rest)) : W p l e R s m args below meth c H locs cells slots Q (F0 m pc ls (.int (nI b) :: .int (nI a) :: rest)) := lv_icmp_eq hx hb hdg ht (fun h => kt ((nI_eq ha hb9).mp h)) (fun h => kf (fun q => h ((nI_eq ha hb9).mpr q)))
theorem ln_icmp_ne {off : Int} {tgt : Nat} (hx : p.tables.exec = Jvm.exec) (hb : c.code = cc) (hdg : decode cc pc = .ok (.if_icmp .ne off, 3)) (ht : (pc : Int) + off = (tgt : Int)) (ha : a < 2 ^ 31) (hb9 : b < 2 ^ 31) (kt : a ≠ b → W p l e R s m args below meth c H locs cells slots Q (F0 m tgt ls rest)) (kf : a = b → W p l e R s m args below meth c H locs cells slots Q (F0 m (pc + 3) ls rest)) : W p l e R s m args below meth c H locs cells slots Q (F0 m pc ls (.int (nI b) :: .int (nI a) :: rest)) := lv_icmp_ne hx hb hdg ht (fun h => kt (fun q => h ((nI_eq ha hb9).mpr q))) (fun h => kf ((nI_eq ha hb9).mp h))
theorem ln_icmp_ge {off : Int} {tgt : Nat} (hx : p.tables.exec = Jvm.exec) (hb : c.code = cc) (hdg : decode cc pc = .ok (.if_icmp .ge off, 3)) (ht : (pc : Int) + off = (tgt : Int)) (ha : a < 2 ^ 31) (hb9 : b < 2 ^ 31) (kt : b ≤ a → W p l e R s m args below meth c H locs cells slots Q (F0 m tgt ls rest)) (kf : a < b → W p l e R s m args below meth c H locs cells slots Q (F0 m (pc + 3) ls rest)) : W p l e R s m args below meth c H locs cells slots Q (F0 m pc ls (.int (nI b) :: .int (nI a) :: rest)) := lv_icmp_ge hx hb hdg ht (fun h => kt ((nI_leI hb9 ha).mp h)) (fun h => kf (Nat.not_le.mp fun q => h ((nI_leI hb9 ha).mpr q)))
theorem ln_icmp_gt {off : Int} {tgt : Nat} (hx : p.tables.exec = Jvm.exec) (hb : c.code = cc) (hdg : decode cc pc = .ok (.if_icmp .gt off, 3)) (ht : (pc : Int) + off = (tgt : Int)) (ha : a < 2 ^ 31) (hb9 : b < 2 ^ 31) (kt : b < a → W p l e R s m args below meth c H locs cells slots Q (F0 m tgt ls rest)) (kf : a ≤ b → W p l e R s m args below meth c H locs cells slots Q (F0 m (pc + 3) ls rest)) : W p l e R s m args below meth c H locs cells slots Q (F0 m pc ls (.int (nI b) :: .int (nI a) :: rest)) := lv_icmp_gt hx hb hdg ht (fun h => kt ((nI_ltI hb9 ha).mp h)) (fun h => kf (Nat.not_lt.mp fun q => h ((nI_ltI hb9 ha).mpr q)))
theorem ln_icmp_lt {off : Int} {tgt : Nat} (hx : p.tables.exec = Jvm.exec) (hb : c.code = cc) (hdg : decode cc pc = .ok (.if_icmp .lt off, 3)) (ht : (pc : Int) + off = (tgt : Int)) (ha : a < 2 ^ 31) (hb9 : b < 2 ^ 31) (kt : a < b → W p l e R s m args below meth c H locs cells slots Q (F0 m tgt ls rest)) (kf : b ≤ a → W p l e R s m args below meth c H locs cells slots Q (F0 m (pc + 3) ls rest)) : W p l e R s m args below meth c H locs cells slots Q (F0 m pc ls (.int (nI b) :: .int (nI a) :: rest)) := lv_icmp_lt hx hb hdg ht (fun h => kt ((nI_ltI ha hb9).mp h)) (fun h => kf (Nat.not_lt.mp fun q => h ((nI_ltI ha hb9).mpr q)))
theorem ln_icmp_le {off : Int} {tgt : Nat} (hx : p.tables.exec = Jvm.exec) (hb : c.code = cc) (hdg : decode cc pc = .ok (.if_icmp .le off, 3)) (ht : (pc : Int) + off = (tgt : Int)) (ha : a < 2 ^ 31) (hb9 : b < 2 ^ 31) (kt : a ≤ b → W p l e R s m args below meth c H locs cells slots Q (F0 m tgt ls rest)) (kf : b < a → W p l e R s m args below meth c H locs cells slots Q (F0 m (pc + 3) ls rest)) : W p l e R s m args below meth c H locs cells slots Q (F0 m pc ls (.int (nI b) :: .int (nI a) :: rest)) := lv_icmp_le hx hb hdg ht (fun h => kt ((nI_leI ha hb9).mp h)) (fun h => kf (Nat.not_le.mp fun q => h ((nI_leI ha hb9).mpr q)))
theorem ln_if_eq {off : Int} {tgt : Nat} (hx : p.tables.exec = Jvm.exec) (hb : c.code = cc) (hdg : decode cc pc = .ok (.ifCond .eq off, 3)) (ht : (pc : Int) + off = (tgt : Int)) (ha : a < 2 ^ 31) (kt : a = 0 → W p l e R s m args below meth c H locs cells slots Q (F0 m tgt ls rest)) (kf : a ≠ 0 → W p l e R s m args below meth c H locs cells slots Q (F0 m (pc + 3) ls rest)) : W p l e R s m args below meth c H locs cells slots Q (F0 m pc ls (.int (nI a) :: rest)) := lv_if_eq hx hb hdg ht (fun h => kt ((nI_eq ha (by decide)).mp h)) (fun h => kf (fun q => h (by rw [q]; rfl)))
theorem ln_if_ne {off : Int} {tgt : Nat} (hx : p.tables.exec = Jvm.exec) (hb : c.code = cc) (hdg : decode cc pc = .ok (.ifCond .ne off, 3)) (ht : (pc : Int) + off = (tgt : Int)) (ha : a < 2 ^ 31) (kt : a ≠ 0 → W p l e R s m args below meth c H locs cells slots Q (F0 m tgt ls rest)) (kf : a = 0 → W p l e R s m args below meth c H locs cells slots Q (F0 m (pc + 3) ls rest)) : W p l e R s m args below meth c H locs cells slots Q (F0 m pc ls (.int (nI a) :: rest)) := lv_if_ne hx hb hdg ht (fun h => kt (fun q => h (by rw [q]; rfl))) (fun h => kf ((nI_eq ha (by decide)).mp h))
theorem ln_if_lt {off : Int} (hx : p.tables.exec = Jvm.exec) (hb : c.code = cc) {tgt : Nat} (hdg : decode cc pc = .ok (.ifCond .lt off, 3)) (ht : (pc : Int) + off = (tgt : Int)) (ha : a < 2 ^ 31) (kf : W p l e R s m args below meth c H locs cells slots Q (F0 m (pc + 3) ls rest)) : W p l e R s m args below meth c H locs cells slots Q (F0 m pc ls (.int (nI a) :: rest)) := lv_if_lt hx hb hdg ht (fun h => absurd h (nI_pos ha)) (fun _ => kf)
theorem ln_if_ge {off : Int} {tgt : Nat} (hx : p.tables.exec = Jvm.exec) (hb : c.code = cc) (hdg : decode cc pc = .ok (.ifCond .ge off, 3)) (ht : (pc : Int) + off = (tgt : Int)) (ha : a < 2 ^ 31) (kt : W p l e R s m args below meth c H locs cells slots Q (F0 m tgt ls rest)) : W p l e R s m args below meth c H locs cells slots Q (F0 m pc ls (.int (nI a) :: rest)) := lv_if_ge hx hb hdg ht (fun _ => kt) (fun h => absurd (nI_pos' ha) h)
theorem ln_if_gt {off : Int} {tgt : Nat} (hx : p.tables.exec = Jvm.exec) (hb : c.code = cc) (hdg : decode cc pc = .ok (.ifCond .gt off, 3)) (ht : (pc : Int) + off = (tgt : Int)) (ha : a < 2 ^ 31) (kt : 0 < a → W p l e R s m args below meth c H locs cells slots Q (F0 m tgt ls rest)) (kf : a = 0 → W p l e R s m args below meth c H locs cells slots Q (F0 m (pc + 3) ls rest)) : W p l e R s m args below meth c H locs cells slots Q (F0 m pc ls (.int (nI a) :: rest)) := lv_if_gt hx hb hdg ht (fun h => kt ((nI_ltI (by decide) ha).mp h)) (fun h => kf (Nat.eq_zero_of_not_pos fun q => h ((nI_ltI (by decide) ha).mpr q)))
theorem ln_if_le {off : Int} {tgt : Nat} (hx : p.tables.exec = Jvm.exec) (hb : c.code = cc) (hdg : decode cc pc = .ok (.ifCond .le off, 3)) (ht : (pc : Int) + off = (tgt : Int)) (ha : a < 2 ^ 31) (kt : a = 0 → W p l e R s m args below meth c H locs cells slots Q (F0 m tgt ls rest)) (kf : 0 < a → W p l e R s m args below meth c H locs cells slots Q (F0 m (pc + 3) ls rest)) : W p l e R s m args below meth c H locs cells slots Q (F0 m pc ls (.int (nI a) :: rest)) := lv_if_le hx hb hdg ht (fun h => kt (Nat.eq_zero_of_not_pos fun q => absurd h (nI_nle q ha))) (fun h => kf (Nat.pos_of_ne_zero fun q => h (by rw [q]; decide)))
theorem lb_if_eq {v : Bool} {off : Int} {tgt : Nat} (hx : p.tables.exec = Jvm.exec) (hb : c.code = cc) (hdg : decode cc pc = .ok (.ifCond .eq off, 3)) (ht : (pc : Int) + off = (tgt : Int)) (kt : v = false → W p l e R s m args below meth c H locs cells slots Q (F0 m tgt ls rest)) (kf : v = true → W p l e R s m args below meth c H locs cells slots Q (F0 m (pc + 3) ls rest)) : W p l e R s m args below meth c H locs cells slots Q (F0 m pc ls (.int (bI v) :: rest)) := by
  cases v
  · exact lv_if_eq hx hb hdg ht (fun _ => kt rfl) (fun h => absurd rfl h)
  · exact lv_if_eq hx hb hdg ht (fun h => absurd h (by decide)) (fun _ => kf rfl)
theorem lb_if_ne {v : Bool} {off : Int} {tgt : Nat} (hx : p.tables.exec = Jvm.exec) (hb : c.code = cc) (hdg : decode cc pc = .ok (.ifCond .ne off, 3)) (ht : (pc : Int) + off = (tgt : Int)) (kt : v = true → W p l e R s m args below meth c H locs cells slots Q (F0 m tgt ls rest)) (kf : v = false → W p l e R s m args below meth c H locs cells slots Q (F0 m (pc + 3) ls rest)) : W p l e R s m args below meth c H locs cells slots Q (F0 m pc ls (.int (bI v) :: rest)) := by
  cases v
  · exact lv_if_ne hx hb hdg ht (fun h => absurd rfl h) (fun _ => kf rfl)
  · exact lv_if_ne hx hb hdg ht (fun _ => kt rfl) (fun h => absurd h (by decide))
theorem ln_iinc {i nL k : Nat} {n : Nat} {lv lv' : List (Nat × Value)} (hx : p.tables.exec = Jvm.exec) (hb : c.code = cc) (hdg : decode cc pc = .ok (.iinc i (n : Int), 3)) (h : lv_has ls nL lv) (hk : lv[k]? = some (i, .int (nI a))) (hn : i < nL) (hl : (i, Value.int (nI (a + n))) :: lv.filter (fun q => !(q.1 == i) && !(q.1 + 1 == i && q.2.category == 2)) = lv')
    (kk : ∀ ls' : Array Slot, lv_has ls' nL lv' → W p l e R s m args below meth c H locs cells slots Q (F0 m (pc + 3) ls' rest)) : W p l e R s m args below meth c H locs cells slots Q (F0 m pc ls rest) := lv_iinc (v := nI (a + n)) hx hb hdg h hk (by rw [← nI_add]; rfl) hn hl kk
theorem ln_idec {i nL k : Nat} {lv lv' : List (Nat × Value)} (hx : p.tables.exec = Jvm.exec) (hb : c.code = cc) (hdg : decode cc pc = .ok (.iinc i (-1), 3)) (h : lv_has ls nL lv) (hk : lv[k]? = some (i, .int (nI (a + 1)))) (hn : i < nL) (hl : (i, Value.int (nI a)) :: lv.filter (fun q => !(q.1 == i) && !(q.1 + 1 == i && q.2.category == 2)) = lv')
    (kk : ∀ ls' : Array Slot, lv_has ls' nL lv' → W p l e R s m args below meth c H locs cells slots Q (F0 m (pc + 3) ls' rest)) : W p l e R s m args below meth c H locs cells slots Q (F0 m pc ls rest) := lv_iinc (v := nI a) hx hb hdg h hk (pk_m1 a) hn hl kk
end AN
end
section
/-! shapes as numbers -/
def zLn (s : Nat) : Nat := if 31 < s then s / 32 else 1
def zLg (s : Nat) : Nat := if s = 0 then 1 else s % 32
def zCt (s : Nat) : Nat := zLn s * zLg s
def zTb (s : Nat) : Bool := decide (31 < s)
def zFit (a b : Nat) : Bool := decide (1 ≤ a ∧ a ≤ 24 ∧ 1 ≤ b ∧ b ≤ 24 ∧ a * b ≤ 24)
/-- there is such a shape -/
def zOk (s : Nat) : Bool := s == 0 || zFit (zLn s) (zLg s)
def zEx (x : Int32) : Bool := if x < 0 ∨ nI 792 < x then false else zOk x.toNatClampNeg
def vOk (v : Int32) : Bool := decide (0 ≤ v ∧ v < nI 8)
theorem vOk_nat {v : Int32} (h : vOk v = true) : ∃ j : Nat, j < 8 ∧ v = nI j := by
  simp only [vOk, decide_eq_true_eq] at h
  obtain ⟨j, hj, rfl⟩ := nI_of (x := v) (fun q => absurd q (Int32.not_lt.mpr h.1))
  exact ⟨j, (nI_ltI hj (by decide)).mp h.2, rfl⟩
theorem zLn_lt {s : Nat} (h : s < 2 ^ 31) : zLn s < 2 ^ 26 + 1 := by unfold zLn; split <;> omega
theorem zLg_lt (s : Nat) : zLg s < 32 := by unfold zLg; split <;> omega
theorem zCt_lo {x : Nat} (h0 : x ≠ 0) (h : x < 32) : zCt x = x := by
  unfold zCt zLn zLg
  rw [if_neg (by omega), if_neg h0, Nat.mod_eq_of_lt h, Nat.one_mul]
theorem zCt_hi {x : Nat} (h : 32 ≤ x) : zCt x = x / 32 * (x % 32) := by
  unfold zCt zLn zLg
  rw [if_pos (by omega), if_neg (by omega)]
theorem hd_X4_isTable : yX4_isTable.cls ≠ "java/lang/invoke/MethodHandle" ∧ yX4_isTable.cls ≠ "java/lang/invoke/VarHandle" ∧ (parseMethodDescriptor yX4_isTable.desc).map (fun d => d.parameters.length) = some 1 := by decide +kernel
set_option maxHeartbeats 4000000 in
set_option maxRecDepth 100000 in
theorem c_X4_isTable {l : Launch} (hl9 : l.stackTraces = false) {D : va_G} {ct : Nat → ClassId} {S : Type} {wl : S → va_W} (u0 : S) (x : Nat) (hx9 : x < 2 ^ 31) : ar_M l yX4_isTable cX4_isTable 1 (some .boolean) 0 0 D ct wl [.int (nI x)] u0 (fun v9 u9 => v9 = some (.int (bI (zTb x))) ∧ u9 = u0) (fun _ _ => False) := by
  refine ar_ofW hl9 (by decide) (Nat.le_of_ble_eq_true rfl) ?_
  intro p e s m below meth c A ls C hr hnm hW hl
  have hx := C.1
  have hb := C.2.1
  have hown := C.2.2.2.1
  have hts := C.2.2.2.2.1
  have hl : lv_has ls 1 [(0, .int (nI x))] := hl
  refine lv_iload_n hx hb dX4_isTable_0 rfl (lv_at hl 0 rfl) ?_
  refine lv_bipush (v := nI 31) hx hb dX4_isTable_1 (by decide) ?_
  refine ln_icmp_le (tgt := 10) hx hb dX4_isTable_3 (by decide) (by omega) (by omega) (fun h1 => ?_) (fun h1 => ?_)
  · skip
    refine lv_iconst (v := nI 0) hx hb dX4_isTable_10 (by decide) ?_
    exact ar_zret C hr (nI_z0.1) hW dX4_isTable_11 (⟨congrArg (fun z => some (Value.int z)) (bI_f (by simp [zTb]; omega)), rfl⟩)
  · skip
    refine lv_iconst (v := nI 1) hx hb dX4_isTable_6 (by decide) ?_
    refine lv_goto (tgt := 11) hx hb dX4_isTable_7 (by decide) ?_
    exact ar_zret C hr (nI_z1.1) hW dX4_isTable_11 (⟨congrArg (fun z => some (Value.int z)) (bI_t (by simp [zTb]; omega)), rfl⟩)
theorem hd_X4_lines : yX4_lines.cls ≠ "java/lang/invoke/MethodHandle" ∧ yX4_lines.cls ≠ "java/lang/invoke/VarHandle" ∧ (parseMethodDescriptor yX4_lines.desc).map (fun d => d.parameters.length) = some 1 := by decide +kernel
set_option maxHeartbeats 4000000 in
set_option maxRecDepth 100000 in
theorem c_X4_lines {l : Launch} (hl9 : l.stackTraces = false) {D : va_G} {ct : Nat → ClassId} {S : Type} {wl : S → va_W} (u0 : S) (x : Nat) (hx9 : x < 2 ^ 31) : ar_M l yX4_lines cX4_lines 1 (some .int) 0 0 D ct wl [.int (nI x)] u0 (fun v9 u9 => v9 = some (.int (nI (zLn x))) ∧ u9 = u0) (fun _ _ => False) := by
  refine ar_ofW hl9 (by decide) (Nat.le_of_ble_eq_true rfl) ?_
  intro p e s m below meth c A ls C hr hnm hW hl
  have hx := C.1
  have hb := C.2.1
  have hown := C.2.2.2.1
  have hts := C.2.2.2.2.1
  have hl : lv_has ls 1 [(0, .int (nI x))] := hl
  refine lv_iload_n hx hb dX4_lines_0 rfl (lv_at hl 0 rfl) ?_
  refine lv_bipush (v := nI 31) hx hb dX4_lines_1 (by decide) ?_
  refine ln_icmp_le (tgt := 12) hx hb dX4_lines_3 (by decide) (by omega) (by omega) (fun h1 => ?_) (fun h1 => ?_)
  · skip
    refine lv_iconst (v := nI 1) hx hb dX4_lines_12 (by decide) ?_
    exact ar_iret C hr hW dX4_lines_13 (⟨congrArg (fun z => some (Value.int (nI z))) (by simp [zLn]; omega), rfl⟩)
  · skip
    refine lv_iload_n hx hb dX4_lines_6 rfl (lv_at hl 0 rfl) ?_
    refine lv_iconst (v := nI 5) hx hb dX4_lines_7 (by decide) ?_
    refine lv_ishr hx hb dX4_lines_8 ?_
    rw [show nI x >>> (nI 5 &&& 31) = nI (x / 32) from pk_shrN hx9 _ 5 (by decide)]
    refine lv_goto (tgt := 13) hx hb dX4_lines_9 (by decide) ?_
    exact ar_iret C hr hW dX4_lines_13 (⟨congrArg (fun z => some (Value.int (nI z))) (by simp [zLn]; omega), rfl⟩)
theorem hd_X4_length : yX4_length.cls ≠ "java/lang/invoke/MethodHandle" ∧ yX4_length.cls ≠ "java/lang/invoke/VarHandle" ∧ (parseMethodDescriptor yX4_length.desc).map (fun d => d.parameters.length) = some 1 := by decide +kernel
set_option maxHeartbeats 4000000 in
set_option maxRecDepth 100000 in
theorem c_X4_length {l : Launch} (hl9 : l.stackTraces = false) {D : va_G} {ct : Nat → ClassId} {S : Type} {wl : S → va_W} (u0 : S) (x : Nat) (hx9 : x < 2 ^ 31) : ar_M l yX4_length cX4_length 1 (some .int) 0 0 D ct wl [.int (nI x)] u0 (fun v9 u9 => v9 = some (.int (nI (zLg x))) ∧ u9 = u0) (fun _ _ => False) := by
  refine ar_ofW hl9 (by decide) (Nat.le_of_ble_eq_true rfl) ?_
  intro p e s m below meth c A ls C hr hnm hW hl
  have hx := C.1
  have hb := C.2.1
  have hown := C.2.2.2.1
  have hts := C.2.2.2.2.1
  have hl : lv_has ls 1 [(0, .int (nI x))] := hl
  refine lv_iload_n hx hb dX4_length_0 rfl (lv_at hl 0 rfl) ?_
  refine ln_if_ne (tgt := 8) hx hb dX4_length_1 (by decide) (by omega) (fun h1 => ?_) (fun h1 => ?_)
  · skip
    refine lv_iload_n hx hb dX4_length_8 rfl (lv_at hl 0 rfl) ?_
    refine lv_bipush (v := nI 31) hx hb dX4_length_9 (by decide) ?_
    refine lv_iand hx hb dX4_length_11 ?_
    rw [show nI x &&& nI 31 = nI (x % 32) from pk_andN (by omega) 5 (by decide)]
    exact ar_iret C hr hW dX4_length_12 (⟨congrArg (fun z => some (Value.int (nI z))) (by simp [zLg]; omega), rfl⟩)
  · skip
    refine lv_iconst (v := nI 1) hx hb dX4_length_4 (by decide) ?_
    refine lv_goto (tgt := 12) hx hb dX4_length_5 (by decide) ?_
    exact ar_iret C hr hW dX4_length_12 (⟨congrArg (fun z => some (Value.int (nI z))) (by simp [zLg]; omega), rfl⟩)
theorem hd_X4_elements : yX4_elements.cls ≠ "java/lang/invoke/MethodHandle" ∧ yX4_elements.cls ≠ "java/lang/invoke/VarHandle" ∧ (parseMethodDescriptor yX4_elements.desc).map (fun d => d.parameters.length) = some 1 := by decide +kernel
set_option maxHeartbeats 4000000 in
set_option maxRecDepth 100000 in
theorem c_X4_elements {l : Launch} (hl9 : l.stackTraces = false) {D : va_G} {ct : Nat → ClassId} {S : Type} {wl : S → va_W} (u0 : S) (x : Nat) (hx9 : x < 2 ^ 31) : ar_M l yX4_elements cX4_elements 1 (some .int) 1 20 D ct wl [.int (nI x)] u0 (fun v9 u9 => v9 = some (.int (nI (zCt x))) ∧ u9 = u0) (fun _ _ => False) := by
  refine ar_ofW hl9 (by decide) (Nat.le_of_ble_eq_true rfl) ?_
  intro p e s m below meth c A ls C hr hnm hW hl
  have hx := C.1
  have hb := C.2.1
  have hown := C.2.2.2.1
  have hts := C.2.2.2.2.1
  have hl : lv_has ls 1 [(0, .int (nI x))] := hl
  refine lv_iload_n hx hb dX4_elements_0 rfl (lv_at hl 0 rfl) ?_
  refine ar_callS (As := [.int (nI x)]) (rest := []) C hW (c_X4_lines hl9 _ x (by omega)) q192 q193 q7 q194 hd_X4_lines ⟨Nat.le_of_ble_eq_true rfl, Nat.le_of_ble_eq_true rfl⟩ hl.1 (Nat.le_of_ble_eq_true rfl) rfl dX4_elements_1 (fun _ _ _ _ _ _ hp => hp.elim) (fun v9 u9 H locs hp hW => ?_)
  obtain ⟨rfl, hu9⟩ := hp
  rw [hu9] at hW
  refine W.eq (g2 := F0 m 4 ls [.int (nI (zLn x))]) rfl ?_
  refine lv_iload_n hx hb dX4_elements_4 rfl (lv_at hl 0 rfl) ?_
  refine ar_callS (As := [.int (nI x)]) (rest := [.int (nI (zLn x))]) C hW (c_X4_length hl9 _ x (by omega)) q195 q196 q7 q197 hd_X4_length ⟨Nat.le_of_ble_eq_true rfl, Nat.le_of_ble_eq_true rfl⟩ hl.1 (Nat.le_of_ble_eq_true rfl) rfl dX4_elements_5 (fun _ _ _ _ _ _ hp => hp.elim) (fun v9 u9 H locs hp hW => ?_)
  obtain ⟨rfl, hu9⟩ := hp
  rw [hu9] at hW
  refine W.eq (g2 := F0 m 8 ls [.int (nI (zLg x)), .int (nI (zLn x))]) rfl ?_
  refine ln_imul hx hb dX4_elements_8 ?_
  exact ar_iret C hr hW dX4_elements_9 (⟨congrArg (fun z => some (Value.int (nI z))) (rfl), rfl⟩)
theorem hd_X4_tableOf : yX4_tableOf.cls ≠ "java/lang/invoke/MethodHandle" ∧ yX4_tableOf.cls ≠ "java/lang/invoke/VarHandle" ∧ (parseMethodDescriptor yX4_tableOf.desc).map (fun d => d.parameters.length) = some 2 := by decide +kernel
set_option maxHeartbeats 4000000 in
set_option maxRecDepth 100000 in
theorem c_X4_tableOf {l : Launch} (hl9 : l.stackTraces = false) {D : va_G} {ct : Nat → ClassId} {S : Type} {wl : S → va_W} (u0 : S) (a b : Nat) (ha9 : a < 2 ^ 20) : ar_M l yX4_tableOf cX4_tableOf 2 (some .int) 0 0 D ct wl [.int (nI a), .int (nI b)] u0 (fun v9 u9 => v9 = some (.int (nI (a * 32 + b))) ∧ u9 = u0) (fun _ _ => False) := by
  refine ar_ofW hl9 (by decide) (Nat.le_of_ble_eq_true rfl) ?_
  intro p e s m below meth c A ls C hr hnm hW hl
  have hx := C.1
  have hb := C.2.1
  have hown := C.2.2.2.1
  have hts := C.2.2.2.2.1
  have hl : lv_has ls 2 [(0, .int (nI a)), (1, .int (nI b))] := hl
  refine lv_iload_n hx hb dX4_tableOf_0 rfl (lv_at hl 0 rfl) ?_
  refine lv_iconst (v := nI 5) hx hb dX4_tableOf_1 (by decide) ?_
  refine lv_ishl hx hb dX4_tableOf_2 ?_
  rw [show nI a <<< (nI 5 &&& 31) = nI (a * 32) from pk_shlN _ 5 (by decide) (by omega)]
  refine lv_iload_n hx hb dX4_tableOf_3 rfl (lv_at hl 1 rfl) ?_
  refine ln_iadd hx hb dX4_tableOf_4 ?_
  exact ar_iret C hr hW dX4_tableOf_5 (⟨congrArg (fun z => some (Value.int (nI z))) (rfl), rfl⟩)
theorem hd_X4_fits : yX4_fits.cls ≠ "java/lang/invoke/MethodHandle" ∧ yX4_fits.cls ≠ "java/lang/invoke/VarHandle" ∧ (parseMethodDescriptor yX4_fits.desc).map (fun d => d.parameters.length) = some 2 := by decide +kernel
set_option maxHeartbeats 4000000 in
set_option maxRecDepth 100000 in
theorem c_X4_fits {l : Launch} (hl9 : l.stackTraces = false) {D : va_G} {ct : Nat → ClassId} {S : Type} {wl : S → va_W} (u0 : S) (a b : Nat) (ha9 : a < 2 ^ 15) (hb9 : b < 2 ^ 15) : ar_M l yX4_fits cX4_fits 2 (some .boolean) 0 0 D ct wl [.int (nI a), .int (nI b)] u0 (fun v9 u9 => v9 = some (.int (bI (zFit a b))) ∧ u9 = u0) (fun _ _ => False) := by
  refine ar_ofW hl9 (by decide) (Nat.le_of_ble_eq_true rfl) ?_
  intro p e s m below meth c A ls C hr hnm hW hl
  have hx := C.1
  have hb := C.2.1
  have hown := C.2.2.2.1
  have hts := C.2.2.2.2.1
  have hl : lv_has ls 2 [(0, .int (nI a)), (1, .int (nI b))] := hl
  refine lv_iload_n hx hb dX4_fits_0 rfl (lv_at hl 0 rfl) ?_
  refine lv_iconst (v := nI 1) hx hb dX4_fits_1 (by decide) ?_
  refine ln_icmp_lt (tgt := 34) hx hb dX4_fits_2 (by decide) (by have := Nat.mul_lt_mul'' ha9 hb9; omega) (by have := Nat.mul_lt_mul'' ha9 hb9; omega) (fun h1 => ?_) (fun h1 => ?_)
  · skip
    refine lv_iconst (v := nI 0) hx hb dX4_fits_34 (by decide) ?_
    exact ar_zret C hr (nI_z0.1) hW dX4_fits_35 (⟨congrArg (fun z => some (Value.int z)) (bI_f (by simp [zFit]; omega)), rfl⟩)
  · skip
    refine lv_iload_n hx hb dX4_fits_5 rfl (lv_at hl 0 rfl) ?_
    refine lv_bipush (v := nI 24) hx hb dX4_fits_6 (by decide) ?_
    refine ln_icmp_gt (tgt := 34) hx hb dX4_fits_8 (by decide) (by have := Nat.mul_lt_mul'' ha9 hb9; omega) (by have := Nat.mul_lt_mul'' ha9 hb9; omega) (fun h2 => ?_) (fun h2 => ?_)
    · skip
      refine lv_iconst (v := nI 0) hx hb dX4_fits_34 (by decide) ?_
      exact ar_zret C hr (nI_z0.1) hW dX4_fits_35 (⟨congrArg (fun z => some (Value.int z)) (bI_f (by simp [zFit]; omega)), rfl⟩)
    · skip
      refine lv_iload_n hx hb dX4_fits_11 rfl (lv_at hl 1 rfl) ?_
      refine lv_iconst (v := nI 1) hx hb dX4_fits_12 (by decide) ?_
      refine ln_icmp_lt (tgt := 34) hx hb dX4_fits_13 (by decide) (by have := Nat.mul_lt_mul'' ha9 hb9; omega) (by have := Nat.mul_lt_mul'' ha9 hb9; omega) (fun h3 => ?_) (fun h3 => ?_)
      · skip
        refine lv_iconst (v := nI 0) hx hb dX4_fits_34 (by decide) ?_
        exact ar_zret C hr (nI_z0.1) hW dX4_fits_35 (⟨congrArg (fun z => some (Value.int z)) (bI_f (by simp [zFit]; omega)), rfl⟩)
      · skip
        refine lv_iload_n hx hb dX4_fits_16 rfl (lv_at hl 1 rfl) ?_
        refine lv_bipush (v := nI 24) hx hb dX4_fits_17 (by decide) ?_
        refine ln_icmp_gt (tgt := 34) hx hb dX4_fits_19 (by decide) (by have := Nat.mul_lt_mul'' ha9 hb9; omega) (by have := Nat.mul_lt_mul'' ha9 hb9; omega) (fun h4 => ?_) (fun h4 => ?_)
        · skip
          refine lv_iconst (v := nI 0) hx hb dX4_fits_34 (by decide) ?_
          exact ar_zret C hr (nI_z0.1) hW dX4_fits_35 (⟨congrArg (fun z => some (Value.int z)) (bI_f (by simp [zFit]; omega)), rfl⟩)
        · skip
          refine lv_iload_n hx hb dX4_fits_22 rfl (lv_at hl 0 rfl) ?_
          refine lv_iload_n hx hb dX4_fits_23 rfl (lv_at hl 1 rfl) ?_
          refine ln_imul hx hb dX4_fits_24 ?_
          refine lv_bipush (v := nI 24) hx hb dX4_fits_25 (by decide) ?_
          refine ln_icmp_gt (tgt := 34) hx hb dX4_fits_27 (by decide) (by have := Nat.mul_lt_mul'' ha9 hb9; omega) (by have := Nat.mul_lt_mul'' ha9 hb9; omega) (fun h5 => ?_) (fun h5 => ?_)
          · skip
            refine lv_iconst (v := nI 0) hx hb dX4_fits_34 (by decide) ?_
            exact ar_zret C hr (nI_z0.1) hW dX4_fits_35 (⟨congrArg (fun z => some (Value.int z)) (bI_f (by simp [zFit]; omega)), rfl⟩)
          · skip
            refine lv_iconst (v := nI 1) hx hb dX4_fits_30 (by decide) ?_
            refine lv_goto (tgt := 35) hx hb dX4_fits_31 (by decide) ?_
            exact ar_zret C hr (nI_z1.1) hW dX4_fits_35 (⟨congrArg (fun z => some (Value.int z)) (bI_t (by simp [zFit]; omega)), rfl⟩)
theorem hd_X8_isVariable : yX8_isVariable.cls ≠ "java/lang/invoke/MethodHandle" ∧ yX8_isVariable.cls ≠ "java/lang/invoke/VarHandle" ∧ (parseMethodDescriptor yX8_isVariable.desc).map (fun d => d.parameters.length) = some 1 := by decide +kernel
set_option maxHeartbeats 4000000 in
set_option maxRecDepth 100000 in
theorem c_X8_isVariable {l : Launch} (hl9 : l.stackTraces = false) {D : va_G} {ct : Nat → ClassId} {S : Type} {wl : S → va_W} (u0 : S) (v : Int32) : ar_M l yX8_isVariable cX8_isVariable 1 (some .boolean) 0 0 D ct wl [.int v] u0 (fun v9 u9 => v9 = some (.int (bI (vOk v))) ∧ u9 = u0) (fun _ _ => False) := by
  refine ar_ofW hl9 (by decide) (Nat.le_of_ble_eq_true rfl) ?_
  intro p e s m below meth c A ls C hr hnm hW hl
  have hx := C.1
  have hb := C.2.1
  have hown := C.2.2.2.1
  have hts := C.2.2.2.2.1
  have hl : lv_has ls 1 [(0, .int v)] := hl
  refine lv_iload_n hx hb dX8_isVariable_0 rfl (lv_at hl 0 rfl) ?_
  refine lv_if_lt (tgt := 14) hx hb dX8_isVariable_1 (by decide) (fun h1 => ?_) (fun h1 => ?_)
  · skip
    refine lv_iconst (v := nI 0) hx hb dX8_isVariable_14 (by decide) ?_
    exact ar_zret C hr (nI_z0.1) hW dX8_isVariable_15 (⟨congrArg (fun z => some (Value.int z)) (bI_f (by simp only [vOk, decide_eq_true_eq, decide_eq_false_iff_not]; first | exact ⟨by simpa using h1, by simpa using h2⟩ | (intro q; first | exact absurd q.2 (Int32.not_lt.mpr (by simpa using h2)) | exact absurd q.1 (Int32.not_le.mpr h1)))), rfl⟩)
  · skip
    refine lv_iload_n hx hb dX8_isVariable_4 rfl (lv_at hl 0 rfl) ?_
    refine lv_bipush (v := nI 8) hx hb dX8_isVariable_5 (by decide) ?_
    refine lv_icmp_ge (tgt := 14) hx hb dX8_isVariable_7 (by decide) (fun h2 => ?_) (fun h2 => ?_)
    · skip
      refine lv_iconst (v := nI 0) hx hb dX8_isVariable_14 (by decide) ?_
      exact ar_zret C hr (nI_z0.1) hW dX8_isVariable_15 (⟨congrArg (fun z => some (Value.int z)) (bI_f (by simp only [vOk, decide_eq_true_eq, decide_eq_false_iff_not]; first | exact ⟨by simpa using h1, by simpa using h2⟩ | (intro q; first | exact absurd q.2 (Int32.not_lt.mpr (by simpa using h2)) | exact absurd q.1 (Int32.not_le.mpr h1)))), rfl⟩)
    · skip
      refine lv_iconst (v := nI 1) hx hb dX8_isVariable_10 (by decide) ?_
      refine lv_goto (tgt := 15) hx hb dX8_isVariable_11 (by decide) ?_
      exact ar_zret C hr (nI_z1.1) hW dX8_isVariable_15 (⟨congrArg (fun z => some (Value.int z)) (bI_t (by simp only [vOk, decide_eq_true_eq, decide_eq_false_iff_not]; first | exact ⟨by simpa using h1, by simpa using h2⟩ | (intro q; first | exact absurd q.2 (Int32.not_lt.mpr (by simpa using h2)) | exact absurd q.1 (Int32.not_le.mpr h1)))), rfl⟩)
end
section
def zRg (x : UInt64) : Bool := decide (¬ Op.cmpValue (FP.dcmp x 14009883241494872064) CmpOp.l < 0 ∧ ¬ 0 < Op.cmpValue (FP.dcmp x 4786511204640096256) CmpOp.g)
def zDg (c : Nat) : Bool := decide (48 ≤ c ∧ c ≤ 57)
def zFk (c : Nat) : Nat := if c = 45 then 4 else if c = 47 then 6 else if c = 92 then 7 else if c = 126 then 5 else 0
def zSk (c : Nat) : Nat := if c = 35 then 10 else if c = 38 then 8 else if c = 42 then 8 else if c = 43 then 8 else if c = 44 then 9 else if c = 45 then 8 else if c = 60 then 8 else if c = 61 then 8 else if c = 62 then 8 else if c = 124 then 8 else 0
def zSg (c : Nat) : Prop := c = 43 ∨ c = 45 ∨ c = 42 ∨ c = 60 ∨ c = 62 ∨ c = 61 ∨ c = 38 ∨ c = 124
def zOp (c : Nat) (x y : UInt64) : UInt64 :=
  if c = 43 then FP.dadd x y else if c = 45 then FP.dsub x y else if c = 42 then FP.dmul x y
  else if c = 60 then (if 0 ≤ Op.cmpValue (FP.dcmp x y) CmpOp.g then FP.dconst0 else FP.dconst1)
  else if c = 62 then (if Op.cmpValue (FP.dcmp x y) CmpOp.l ≤ 0 then FP.dconst0 else FP.dconst1)
  else if c = 61 then (if Op.cmpValue (FP.dcmp x y) CmpOp.l = 0 then FP.dconst1 else FP.dconst0)
  else if c = 38 then (if 0 ≤ Op.cmpValue (FP.dcmp x y) CmpOp.g then y else x)
  else (if Op.cmpValue (FP.dcmp x y) CmpOp.l ≤ 0 then y else x)
def zNn (c : Nat) (x y : UInt64) : Prop := (c = 43 → vf_n64 (FP.dadd x y)) ∧ (c = 45 → vf_n64 (FP.dsub x y)) ∧ (c = 42 → vf_n64 (FP.dmul x y))
def zIn (x a b : Int32) : Bool := decide (a ≤ x ∧ x ≤ b)
def zSgn (c : Nat) : Bool := decide (c = 43 ∨ c = 45 ∨ c = 42 ∨ c = 60 ∨ c = 62 ∨ c = 61 ∨ c = 38 ∨ c = 124 ∨ c = 44 ∨ c = 35)
def zRd (c : Nat) : Bool := decide (c = 43 ∨ c = 42 ∨ c = 38 ∨ c = 124)
theorem hd_X4_exists : yX4_exists.cls ≠ "java/lang/invoke/MethodHandle" ∧ yX4_exists.cls ≠ "java/lang/invoke/VarHandle" ∧ (parseMethodDescriptor yX4_exists.desc).map (fun d => d.parameters.length) = some 1 := by decide +kernel
set_option maxHeartbeats 4000000 in
set_option maxRecDepth 100000 in
theorem c_X4_exists {l : Launch} (hl9 : l.stackTraces = false) {D : va_G} {ct : Nat → ClassId} {S : Type} {wl : S → va_W} (u0 : S) (x : Int32) : ar_M l yX4_exists cX4_exists 1 (some .boolean) 1 21 D ct wl [.int x] u0 (fun v9 u9 => v9 = some (.int (bI (zEx x))) ∧ u9 = u0) (fun _ _ => False) := by
  refine ar_ofW hl9 (by decide) (Nat.le_of_ble_eq_true rfl) ?_
  intro p e s m below meth c A ls C hr hnm hW hl
  have hx := C.1
  have hb := C.2.1
  have hown := C.2.2.2.1
  have hts := C.2.2.2.2.1
  have hl : lv_has ls 1 [(0, .int x)] := hl
  refine lv_iload_n hx hb dX4_exists_0 rfl (lv_at hl 0 rfl) ?_
  refine lv_if_lt (tgt := 15) hx hb dX4_exists_1 (by decide) (fun h1 => ?_) (fun h1 => ?_)
  · skip
    refine lv_iconst (v := nI 0) hx hb dX4_exists_15 (by decide) ?_
    exact ar_zret C hr (nI_z0.1) hW dX4_exists_16 (⟨congrArg (fun z => some (Value.int z)) (bI_f (by unfold zEx; rw [if_pos (by first | exact Or.inl h1 | exact Or.inr (Int32.not_le.mp (by simpa using h2)))])), rfl⟩)
  · skip
    refine lv_iload_n hx hb dX4_exists_4 rfl (lv_at hl 0 rfl) ?_
    refine lv_bipush (v := nI 24) hx hb dX4_exists_5 (by decide) ?_
    refine lv_bipush (v := nI 24) hx hb dX4_exists_7 (by decide) ?_
    refine ar_callS (As := [.int (nI 24), .int (nI 24)]) (rest := [.int x]) C hW (c_X4_tableOf hl9 _ 24 24 (by omega)) q189 q190 q7 q191 hd_X4_tableOf ⟨Nat.le_of_ble_eq_true rfl, Nat.le_of_ble_eq_true rfl⟩ hl.1 (Nat.le_of_ble_eq_true rfl) rfl dX4_exists_9 (fun _ _ _ _ _ _ hp => hp.elim) (fun v9 u9 H locs hp hW => ?_)
    obtain ⟨rfl, hu9⟩ := hp
    rw [hu9] at hW
    refine W.eq (g2 := F0 m 12 ls [.int (nI (24 * 32 + 24)), .int x]) rfl ?_
    refine lv_icmp_le (tgt := 17) hx hb dX4_exists_12 (by decide) (fun h2 => ?_) (fun h2 => ?_)
    · skip
      obtain ⟨j, hj9, rfl⟩ := nI_of (x := x) h1
      have hj8 : j ≤ 792 := by
        have q := h2
        have q2 : nI j ≤ nI (24 * 32 + 24) := by simpa using q
        exact (nI_leI hj9 (by decide)).mp q2
      have hex : zEx (nI j) = zOk j := by
        unfold zEx
        rw [if_neg (by rintro (q | q)
                       · exact nI_pos hj9 q
                       · exact absurd ((nI_ltI (by decide) hj9).mp q) (by omega)), nI_clamp hj9]
      refine lv_iload_n hx hb dX4_exists_17 rfl (lv_at hl 0 rfl) ?_
      refine ln_if_eq (tgt := 35) hx hb dX4_exists_18 (by decide) (by omega) (fun h3 => ?_) (fun h3 => ?_)
      · skip
        refine lv_iconst (v := nI 1) hx hb dX4_exists_35 (by decide) ?_
        refine lv_goto (tgt := 40) hx hb dX4_exists_36 (by decide) ?_
        exact ar_zret C hr (nI_z1.1) hW dX4_exists_40 (⟨congrArg (fun z => some (Value.int z)) (bI_t (by rw [hex]; simp [zOk, *])), rfl⟩)
      · skip
        refine lv_iload_n hx hb dX4_exists_21 rfl (lv_at hl 0 rfl) ?_
        refine ar_callS (As := [.int (nI j)]) (rest := []) C hW (c_X4_lines hl9 _ j (by omega)) q192 q193 q7 q194 hd_X4_lines ⟨Nat.le_of_ble_eq_true rfl, Nat.le_of_ble_eq_true rfl⟩ hl.1 (Nat.le_of_ble_eq_true rfl) rfl dX4_exists_22 (fun _ _ _ _ _ _ hp => hp.elim) (fun v9 u9 H locs hp hW => ?_)
        obtain ⟨rfl, hu9⟩ := hp
        rw [hu9] at hW
        refine W.eq (g2 := F0 m 25 ls [.int (nI (zLn j))]) rfl ?_
        refine lv_iload_n hx hb dX4_exists_25 rfl (lv_at hl 0 rfl) ?_
        refine ar_callS (As := [.int (nI j)]) (rest := [.int (nI (zLn j))]) C hW (c_X4_length hl9 _ j (by omega)) q195 q196 q7 q197 hd_X4_length ⟨Nat.le_of_ble_eq_true rfl, Nat.le_of_ble_eq_true rfl⟩ hl.1 (Nat.le_of_ble_eq_true rfl) rfl dX4_exists_26 (fun _ _ _ _ _ _ hp => hp.elim) (fun v9 u9 H locs hp hW => ?_)
        obtain ⟨rfl, hu9⟩ := hp
        rw [hu9] at hW
        refine W.eq (g2 := F0 m 29 ls [.int (nI (zLg j)), .int (nI (zLn j))]) rfl ?_
        refine ar_callS (As := [.int (nI (zLn j)), .int (nI (zLg j))]) (rest := []) C hW (c_X4_fits hl9 _ (zLn j) (zLg j) (by have := zLn_lt (s := j) (by omega); unfold zLn; split <;> omega) (by have := zLg_lt j; omega)) q198 q199 q7 q200 hd_X4_fits ⟨Nat.le_of_ble_eq_true rfl, Nat.le_of_ble_eq_true rfl⟩ hl.1 (Nat.le_of_ble_eq_true rfl) rfl dX4_exists_29 (fun _ _ _ _ _ _ hp => hp.elim) (fun v9 u9 H locs hp hW => ?_)
        obtain ⟨rfl, hu9⟩ := hp
        rw [hu9] at hW
        refine W.eq (g2 := F0 m 32 ls [.int (bI (zFit (zLn j) (zLg j)))]) rfl ?_
        refine lb_if_eq (tgt := 39) hx hb dX4_exists_32 (by decide) (fun h4 => ?_) (fun h4 => ?_)
        · skip
          refine lv_iconst (v := nI 0) hx hb dX4_exists_39 (by decide) ?_
          exact ar_zret C hr (nI_z0.1) hW dX4_exists_40 (⟨congrArg (fun z => some (Value.int z)) (bI_f (by rw [hex]; simp [zOk, *])), rfl⟩)
        · skip
          refine lv_iconst (v := nI 1) hx hb dX4_exists_35 (by decide) ?_
          refine lv_goto (tgt := 40) hx hb dX4_exists_36 (by decide) ?_
          exact ar_zret C hr (nI_z1.1) hW dX4_exists_40 (⟨congrArg (fun z => some (Value.int z)) (bI_t (by rw [hex]; simp [zOk, *])), rfl⟩)
    · skip
      refine lv_iconst (v := nI 0) hx hb dX4_exists_15 (by decide) ?_
      exact ar_zret C hr (nI_z0.1) hW dX4_exists_16 (⟨congrArg (fun z => some (Value.int z)) (bI_f (by unfold zEx; rw [if_pos (by first | exact Or.inl h1 | exact Or.inr (Int32.not_le.mp (by simpa using h2)))])), rfl⟩)
theorem hd_X8_isInRange : yX8_isInRange.cls ≠ "java/lang/invoke/MethodHandle" ∧ yX8_isInRange.cls ≠ "java/lang/invoke/VarHandle" ∧ (parseMethodDescriptor yX8_isInRange.desc).map (fun d => d.parameters.length) = some 1 := by decide +kernel
set_option maxHeartbeats 4000000 in
set_option maxRecDepth 100000 in
theorem c_X8_isInRange {l : Launch} (hl9 : l.stackTraces = false) {D : va_G} {ct : Nat → ClassId} {S : Type} {wl : S → va_W} (u0 : S) (x : UInt64) : ar_M l yX8_isInRange cX8_isInRange 2 (some .boolean) 0 0 D ct wl [.double x] u0 (fun v9 u9 => v9 = some (.int (bI (zRg x))) ∧ u9 = u0) (fun _ _ => False) := by
  refine ar_ofW hl9 (by decide) (Nat.le_of_ble_eq_true rfl) ?_
  intro p e s m below meth c A ls C hr hnm hW hl
  have hx := C.1
  have hb := C.2.1
  have hown := C.2.2.2.1
  have hts := C.2.2.2.2.1
  have hl : lv_has ls 2 [(0, .double x)] := hl
  refine lv_dload_n hx hb dX8_isInRange_0 rfl (lv_at hl 0 rfl) ?_
  refine lv_ldc2d hx hb hown (hts _ q180) dX8_isInRange_1 ?_
  refine lv_dcmp hx hb dX8_isInRange_4 ?_
  refine lv_if_lt (tgt := 20) hx hb dX8_isInRange_5 (by decide) (fun h1 => ?_) (fun h1 => ?_)
  · skip
    refine lv_iconst (v := nI 0) hx hb dX8_isInRange_20 (by decide) ?_
    exact ar_zret C hr (nI_z0.1) hW dX8_isInRange_21 (⟨congrArg (fun z => some (Value.int z)) (bI_f (by simp [zRg, *])), rfl⟩)
  · skip
    refine lv_dload_n hx hb dX8_isInRange_8 rfl (lv_at hl 0 rfl) ?_
    refine lv_ldc2d hx hb hown (hts _ q181) dX8_isInRange_9 ?_
    refine lv_dcmp hx hb dX8_isInRange_12 ?_
    refine lv_if_gt (tgt := 20) hx hb dX8_isInRange_13 (by decide) (fun h2 => ?_) (fun h2 => ?_)
    · skip
      refine lv_iconst (v := nI 0) hx hb dX8_isInRange_20 (by decide) ?_
      exact ar_zret C hr (nI_z0.1) hW dX8_isInRange_21 (⟨congrArg (fun z => some (Value.int z)) (bI_f (by simp [zRg, *])), rfl⟩)
    · skip
      refine lv_iconst (v := nI 1) hx hb dX8_isInRange_16 (by decide) ?_
      refine lv_goto (tgt := 21) hx hb dX8_isInRange_17 (by decide) ?_
      exact ar_zret C hr (nI_z1.1) hW dX8_isInRange_21 (⟨congrArg (fun z => some (Value.int z)) (bI_t (by simp [zRg, *])), rfl⟩)
theorem hd_X9_fits : yX9_fits.cls ≠ "java/lang/invoke/MethodHandle" ∧ yX9_fits.cls ≠ "java/lang/invoke/VarHandle" ∧ (parseMethodDescriptor yX9_fits.desc).map (fun d => d.parameters.length) = some 1 := by decide +kernel
set_option maxHeartbeats 4000000 in
set_option maxRecDepth 100000 in
theorem c_X9_fits {l : Launch} (hl9 : l.stackTraces = false) {D : va_G} {ct : Nat → ClassId} {S : Type} {wl : S → va_W} (u0 : S) (x : UInt64) : ar_M l yX9_fits cX9_fits 2 (some .boolean) 0 0 D ct wl [.double x] u0 (fun v9 u9 => v9 = some (.int (bI (zRg x))) ∧ u9 = u0) (fun _ _ => False) := by
  refine ar_ofW hl9 (by decide) (Nat.le_of_ble_eq_true rfl) ?_
  intro p e s m below meth c A ls C hr hnm hW hl
  have hx := C.1
  have hb := C.2.1
  have hown := C.2.2.2.1
  have hts := C.2.2.2.2.1
  have hl : lv_has ls 2 [(0, .double x)] := hl
  refine lv_dload_n hx hb dX9_fits_0 rfl (lv_at hl 0 rfl) ?_
  refine lv_ldc2d hx hb hown (hts _ q692) dX9_fits_1 ?_
  refine lv_dcmp hx hb dX9_fits_4 ?_
  refine lv_if_lt (tgt := 20) hx hb dX9_fits_5 (by decide) (fun h1 => ?_) (fun h1 => ?_)
  · skip
    refine lv_iconst (v := nI 0) hx hb dX9_fits_20 (by decide) ?_
    exact ar_zret C hr (nI_z0.1) hW dX9_fits_21 (⟨congrArg (fun z => some (Value.int z)) (bI_f (by simp [zRg, *])), rfl⟩)
  · skip
    refine lv_dload_n hx hb dX9_fits_8 rfl (lv_at hl 0 rfl) ?_
    refine lv_ldc2d hx hb hown (hts _ q693) dX9_fits_9 ?_
    refine lv_dcmp hx hb dX9_fits_12 ?_
    refine lv_if_gt (tgt := 20) hx hb dX9_fits_13 (by decide) (fun h2 => ?_) (fun h2 => ?_)
    · skip
      refine lv_iconst (v := nI 0) hx hb dX9_fits_20 (by decide) ?_
      exact ar_zret C hr (nI_z0.1) hW dX9_fits_21 (⟨congrArg (fun z => some (Value.int z)) (bI_f (by simp [zRg, *])), rfl⟩)
    · skip
      refine lv_iconst (v := nI 1) hx hb dX9_fits_16 (by decide) ?_
      refine lv_goto (tgt := 21) hx hb dX9_fits_17 (by decide) ?_
      exact ar_zret C hr (nI_z1.1) hW dX9_fits_21 (⟨congrArg (fun z => some (Value.int z)) (bI_t (by simp [zRg, *])), rfl⟩)
theorem hd_X2_isDigit : yX2_isDigit.cls ≠ "java/lang/invoke/MethodHandle" ∧ yX2_isDigit.cls ≠ "java/lang/invoke/VarHandle" ∧ (parseMethodDescriptor yX2_isDigit.desc).map (fun d => d.parameters.length) = some 1 := by decide +kernel
set_option maxHeartbeats 4000000 in
set_option maxRecDepth 100000 in
theorem c_X2_isDigit {l : Launch} (hl9 : l.stackTraces = false) {D : va_G} {ct : Nat → ClassId} {S : Type} {wl : S → va_W} (u0 : S) (ch : Nat) (hc9 : ch < 2 ^ 31) : ar_M l yX2_isDigit cX2_isDigit 1 (some .boolean) 0 0 D ct wl [.int (nI ch)] u0 (fun v9 u9 => v9 = some (.int (bI (zDg ch))) ∧ u9 = u0) (fun _ _ => False) := by
  refine ar_ofW hl9 (by decide) (Nat.le_of_ble_eq_true rfl) ?_
  intro p e s m below meth c A ls C hr hnm hW hl
  have hx := C.1
  have hb := C.2.1
  have hown := C.2.2.2.1
  have hts := C.2.2.2.2.1
  have hl : lv_has ls 1 [(0, .int (nI ch))] := hl
  refine lv_iload_n hx hb dX2_isDigit_0 rfl (lv_at hl 0 rfl) ?_
  refine lv_bipush (v := nI 48) hx hb dX2_isDigit_1 (by decide) ?_
  refine ln_icmp_lt (tgt := 16) hx hb dX2_isDigit_3 (by decide) (by omega) (by omega) (fun h1 => ?_) (fun h1 => ?_)
  · skip
    refine lv_iconst (v := nI 0) hx hb dX2_isDigit_16 (by decide) ?_
    exact ar_zret C hr (nI_z0.1) hW dX2_isDigit_17 (⟨congrArg (fun z => some (Value.int z)) (bI_f (by simp [zDg]; omega)), rfl⟩)
  · skip
    refine lv_iload_n hx hb dX2_isDigit_6 rfl (lv_at hl 0 rfl) ?_
    refine lv_bipush (v := nI 57) hx hb dX2_isDigit_7 (by decide) ?_
    refine ln_icmp_gt (tgt := 16) hx hb dX2_isDigit_9 (by decide) (by omega) (by omega) (fun h2 => ?_) (fun h2 => ?_)
    · skip
      refine lv_iconst (v := nI 0) hx hb dX2_isDigit_16 (by decide) ?_
      exact ar_zret C hr (nI_z0.1) hW dX2_isDigit_17 (⟨congrArg (fun z => some (Value.int z)) (bI_f (by simp [zDg]; omega)), rfl⟩)
    · skip
      refine lv_iconst (v := nI 1) hx hb dX2_isDigit_12 (by decide) ?_
      refine lv_goto (tgt := 17) hx hb dX2_isDigit_13 (by decide) ?_
      exact ar_zret C hr (nI_z1.1) hW dX2_isDigit_17 (⟨congrArg (fun z => some (Value.int z)) (bI_t (by simp [zDg]; omega)), rfl⟩)
theorem hd_X2_kindOfFront : yX2_kindOfFront.cls ≠ "java/lang/invoke/MethodHandle" ∧ yX2_kindOfFront.cls ≠ "java/lang/invoke/VarHandle" ∧ (parseMethodDescriptor yX2_kindOfFront.desc).map (fun d => d.parameters.length) = some 1 := by decide +kernel
set_option maxHeartbeats 4000000 in
set_option maxRecDepth 100000 in
theorem c_X2_kindOfFront {l : Launch} (hl9 : l.stackTraces = false) {D : va_G} {ct : Nat → ClassId} {S : Type} {wl : S → va_W} (u0 : S) (ch : Nat) (hc9 : ch < 2 ^ 31) : ar_M l yX2_kindOfFront cX2_kindOfFront 1 (some .int) 0 0 D ct wl [.int (nI ch)] u0 (fun v9 u9 => v9 = some (.int (nI (zFk ch))) ∧ u9 = u0) (fun _ _ => False) := by
  refine ar_ofW hl9 (by decide) (Nat.le_of_ble_eq_true rfl) ?_
  intro p e s m below meth c A ls C hr hnm hW hl
  have hx := C.1
  have hb := C.2.1
  have hown := C.2.2.2.1
  have hts := C.2.2.2.2.1
  have hl : lv_has ls 1 [(0, .int (nI ch))] := hl
  refine lv_iload_n hx hb dX2_kindOfFront_0 rfl (lv_at hl 0 rfl) ?_
  by_cases k45 : ch = 45
  · subst k45
    refine lv_lookup (off := 43) (tgt := 44) hx hb dX2_kindOfFront_1 (by decide) (by decide) (by decide) ?_
    refine lv_iconst (v := nI 4) hx hb dX2_kindOfFront_44 (by decide) ?_
    exact ar_iret C hr hW dX2_kindOfFront_45 (⟨congrArg (fun z => some (Value.int (nI z))) (by simp [zFk, *]), rfl⟩)
  by_cases k47 : ch = 47
  · subst k47
    refine lv_lookup (off := 47) (tgt := 48) hx hb dX2_kindOfFront_1 (by decide) (by decide) (by decide) ?_
    refine lv_bipush (v := nI 6) hx hb dX2_kindOfFront_48 (by decide) ?_
    exact ar_iret C hr hW dX2_kindOfFront_50 (⟨congrArg (fun z => some (Value.int (nI z))) (by simp [zFk, *]), rfl⟩)
  by_cases k92 : ch = 92
  · subst k92
    refine lv_lookup (off := 50) (tgt := 51) hx hb dX2_kindOfFront_1 (by decide) (by decide) (by decide) ?_
    refine lv_bipush (v := nI 7) hx hb dX2_kindOfFront_51 (by decide) ?_
    exact ar_iret C hr hW dX2_kindOfFront_53 (⟨congrArg (fun z => some (Value.int (nI z))) (by simp [zFk, *]), rfl⟩)
  by_cases k126 : ch = 126
  · subst k126
    refine lv_lookup (off := 45) (tgt := 46) hx hb dX2_kindOfFront_1 (by decide) (by decide) (by decide) ?_
    refine lv_iconst (v := nI 5) hx hb dX2_kindOfFront_46 (by decide) ?_
    exact ar_iret C hr hW dX2_kindOfFront_47 (⟨congrArg (fun z => some (Value.int (nI z))) (by simp [zFk, *]), rfl⟩)
  refine lv_lookup (off := 53) (tgt := 54) hx hb dX2_kindOfFront_1 (by decide) (by rw [lv_osw (k := nI 45) (fun q => k45 ((nI_eq hc9 (by decide)).mp q)) (by decide), lv_osw (k := nI 47) (fun q => k47 ((nI_eq hc9 (by decide)).mp q)) (by decide), lv_osw (k := nI 92) (fun q => k92 ((nI_eq hc9 (by decide)).mp q)) (by decide), lv_osw (k := nI 126) (fun q => k126 ((nI_eq hc9 (by decide)).mp q)) (by decide)]; rfl) (by decide) ?_
  refine lv_iconst (v := nI 0) hx hb dX2_kindOfFront_54 (by decide) ?_
  exact ar_iret C hr hW dX2_kindOfFront_55 (⟨congrArg (fun z => some (Value.int (nI z))) (by simp [zFk, *]), rfl⟩)
theorem hd_X2_kindOfSign : yX2_kindOfSign.cls ≠ "java/lang/invoke/MethodHandle" ∧ yX2_kindOfSign.cls ≠ "java/lang/invoke/VarHandle" ∧ (parseMethodDescriptor yX2_kindOfSign.desc).map (fun d => d.parameters.length) = some 1 := by decide +kernel
set_option maxHeartbeats 4000000 in
set_option maxRecDepth 100000 in
theorem c_X2_kindOfSign {l : Launch} (hl9 : l.stackTraces = false) {D : va_G} {ct : Nat → ClassId} {S : Type} {wl : S → va_W} (u0 : S) (ch : Nat) (hc9 : ch < 2 ^ 31) : ar_M l yX2_kindOfSign cX2_kindOfSign 1 (some .int) 0 0 D ct wl [.int (nI ch)] u0 (fun v9 u9 => v9 = some (.int (nI (zSk ch))) ∧ u9 = u0) (fun _ _ => False) := by
  refine ar_ofW hl9 (by decide) (Nat.le_of_ble_eq_true rfl) ?_
  intro p e s m below meth c A ls C hr hnm hW hl
  have hx := C.1
  have hb := C.2.1
  have hown := C.2.2.2.1
  have hts := C.2.2.2.2.1
  have hl : lv_has ls 1 [(0, .int (nI ch))] := hl
  refine lv_iload_n hx hb dX2_kindOfSign_0 rfl (lv_at hl 0 rfl) ?_
  by_cases k35 : ch = 35
  · subst k35
    refine lv_lookup (off := 97) (tgt := 98) hx hb dX2_kindOfSign_1 (by decide) (by decide) (by decide) ?_
    refine lv_bipush (v := nI 10) hx hb dX2_kindOfSign_98 (by decide) ?_
    exact ar_iret C hr hW dX2_kindOfSign_100 (⟨congrArg (fun z => some (Value.int (nI z))) (by simp [zSk, *]), rfl⟩)
  by_cases k38 : ch = 38
  · subst k38
    refine lv_lookup (off := 91) (tgt := 92) hx hb dX2_kindOfSign_1 (by decide) (by decide) (by decide) ?_
    refine lv_bipush (v := nI 8) hx hb dX2_kindOfSign_92 (by decide) ?_
    exact ar_iret C hr hW dX2_kindOfSign_94 (⟨congrArg (fun z => some (Value.int (nI z))) (by simp [zSk, *]), rfl⟩)
  by_cases k42 : ch = 42
  · subst k42
    refine lv_lookup (off := 91) (tgt := 92) hx hb dX2_kindOfSign_1 (by decide) (by decide) (by decide) ?_
    refine lv_bipush (v := nI 8) hx hb dX2_kindOfSign_92 (by decide) ?_
    exact ar_iret C hr hW dX2_kindOfSign_94 (⟨congrArg (fun z => some (Value.int (nI z))) (by simp [zSk, *]), rfl⟩)
  by_cases k43 : ch = 43
  · subst k43
    refine lv_lookup (off := 91) (tgt := 92) hx hb dX2_kindOfSign_1 (by decide) (by decide) (by decide) ?_
    refine lv_bipush (v := nI 8) hx hb dX2_kindOfSign_92 (by decide) ?_
    exact ar_iret C hr hW dX2_kindOfSign_94 (⟨congrArg (fun z => some (Value.int (nI z))) (by simp [zSk, *]), rfl⟩)
  by_cases k44 : ch = 44
  · subst k44
    refine lv_lookup (off := 94) (tgt := 95) hx hb dX2_kindOfSign_1 (by decide) (by decide) (by decide) ?_
    refine lv_bipush (v := nI 9) hx hb dX2_kindOfSign_95 (by decide) ?_
    exact ar_iret C hr hW dX2_kindOfSign_97 (⟨congrArg (fun z => some (Value.int (nI z))) (by simp [zSk, *]), rfl⟩)
  by_cases k45 : ch = 45
  · subst k45
    refine lv_lookup (off := 91) (tgt := 92) hx hb dX2_kindOfSign_1 (by decide) (by decide) (by decide) ?_
    refine lv_bipush (v := nI 8) hx hb dX2_kindOfSign_92 (by decide) ?_
    exact ar_iret C hr hW dX2_kindOfSign_94 (⟨congrArg (fun z => some (Value.int (nI z))) (by simp [zSk, *]), rfl⟩)
  by_cases k60 : ch = 60
  · subst k60
    refine lv_lookup (off := 91) (tgt := 92) hx hb dX2_kindOfSign_1 (by decide) (by decide) (by decide) ?_
    refine lv_bipush (v := nI 8) hx hb dX2_kindOfSign_92 (by decide) ?_
    exact ar_iret C hr hW dX2_kindOfSign_94 (⟨congrArg (fun z => some (Value.int (nI z))) (by simp [zSk, *]), rfl⟩)
  by_cases k61 : ch = 61
  · subst k61
    refine lv_lookup (off := 91) (tgt := 92) hx hb dX2_kindOfSign_1 (by decide) (by decide) (by decide) ?_
    refine lv_bipush (v := nI 8) hx hb dX2_kindOfSign_92 (by decide) ?_
    exact ar_iret C hr hW dX2_kindOfSign_94 (⟨congrArg (fun z => some (Value.int (nI z))) (by simp [zSk, *]), rfl⟩)
  by_cases k62 : ch = 62
  · subst k62
    refine lv_lookup (off := 91) (tgt := 92) hx hb dX2_kindOfSign_1 (by decide) (by decide) (by decide) ?_
    refine lv_bipush (v := nI 8) hx hb dX2_kindOfSign_92 (by decide) ?_
    exact ar_iret C hr hW dX2_kindOfSign_94 (⟨congrArg (fun z => some (Value.int (nI z))) (by simp [zSk, *]), rfl⟩)
  by_cases k124 : ch = 124
  · subst k124
    refine lv_lookup (off := 91) (tgt := 92) hx hb dX2_kindOfSign_1 (by decide) (by decide) (by decide) ?_
    refine lv_bipush (v := nI 8) hx hb dX2_kindOfSign_92 (by decide) ?_
    exact ar_iret C hr hW dX2_kindOfSign_94 (⟨congrArg (fun z => some (Value.int (nI z))) (by simp [zSk, *]), rfl⟩)
  refine lv_lookup (off := 100) (tgt := 101) hx hb dX2_kindOfSign_1 (by decide) (by rw [lv_osw (k := nI 35) (fun q => k35 ((nI_eq hc9 (by decide)).mp q)) (by decide), lv_osw (k := nI 38) (fun q => k38 ((nI_eq hc9 (by decide)).mp q)) (by decide), lv_osw (k := nI 42) (fun q => k42 ((nI_eq hc9 (by decide)).mp q)) (by decide), lv_osw (k := nI 43) (fun q => k43 ((nI_eq hc9 (by decide)).mp q)) (by decide), lv_osw (k := nI 44) (fun q => k44 ((nI_eq hc9 (by decide)).mp q)) (by decide), lv_osw (k := nI 45) (fun q => k45 ((nI_eq hc9 (by decide)).mp q)) (by decide), lv_osw (k := nI 60) (fun q => k60 ((nI_eq hc9 (by decide)).mp q)) (by decide), lv_osw (k := nI 61) (fun q => k61 ((nI_eq hc9 (by decide)).mp q)) (by decide), lv_osw (k := nI 62) (fun q => k62 ((nI_eq hc9 (by decide)).mp q)) (by decide), lv_osw (k := nI 124) (fun q => k124 ((nI_eq hc9 (by decide)).mp q)) (by decide)]; rfl) (by decide) ?_
  refine lv_iconst (v := nI 0) hx hb dX2_kindOfSign_101 (by decide) ?_
  exact ar_iret C hr hW dX2_kindOfSign_102 (⟨congrArg (fun z => some (Value.int (nI z))) (by simp [zSk, *]), rfl⟩)
theorem hd_X7_combinedFreely : yX7_combinedFreely.cls ≠ "java/lang/invoke/MethodHandle" ∧ yX7_combinedFreely.cls ≠ "java/lang/invoke/VarHandle" ∧ (parseMethodDescriptor yX7_combinedFreely.desc).map (fun d => d.parameters.length) = some 3 := by decide +kernel
set_option maxHeartbeats 4000000 in
set_option maxRecDepth 100000 in
theorem c_X7_combinedFreely {l : Launch} (hl9 : l.stackTraces = false) {D : va_G} {ct : Nat → ClassId} {S : Type} {wl : S → va_W} (u0 : S) (ch : Nat) (x y : UInt64) (hc : zSg ch) (hn : zNn ch x y) : ar_M l yX7_combinedFreely cX7_combinedFreely 5 (some .double) 0 0 D ct wl [.int (nI ch), .double x, .double y] u0 (fun v9 u9 => v9 = some (.double (zOp ch x y)) ∧ u9 = u0) (fun _ _ => False) := by
  refine ar_ofW hl9 (by decide) (Nat.le_of_ble_eq_true rfl) ?_
  intro p e s m below meth c A ls C hr hnm hW hl
  have hx := C.1
  have hb := C.2.1
  have hown := C.2.2.2.1
  have hts := C.2.2.2.2.1
  have hl : lv_has ls 5 [(0, .int (nI ch)), (1, .double x), (3, .double y)] := hl
  refine lv_iload_n hx hb dX7_combinedFreely_0 rfl (lv_at hl 0 rfl) ?_
  rcases hc with rfl | rfl | rfl | rfl | rfl | rfl | rfl | rfl
  · skip
    refine lv_tableIn (off := 115) (tgt := 116) hx hb dX7_combinedFreely_1 (by decide) (by decide) (by decide) (by decide) ?_
    refine lv_dload_n hx hb dX7_combinedFreely_116 rfl (lv_at hl 1 rfl) ?_
    refine lv_dload_n hx hb dX7_combinedFreely_117 rfl (lv_at hl 2 rfl) ?_
    refine lv_dadd hx hb dX7_combinedFreely_118 (hn.1 rfl) ?_
    exact ar_dret C hr hW dX7_combinedFreely_119 (⟨congrArg (fun z => some (Value.double z)) (by simp [zOp, *]), rfl⟩)
  · skip
    refine lv_tableIn (off := 119) (tgt := 120) hx hb dX7_combinedFreely_1 (by decide) (by decide) (by decide) (by decide) ?_
    refine lv_dload_n hx hb dX7_combinedFreely_120 rfl (lv_at hl 1 rfl) ?_
    refine lv_dload_n hx hb dX7_combinedFreely_121 rfl (lv_at hl 2 rfl) ?_
    refine lv_dsub hx hb dX7_combinedFreely_122 (hn.2.1 rfl) ?_
    exact ar_dret C hr hW dX7_combinedFreely_123 (⟨congrArg (fun z => some (Value.double z)) (by simp [zOp, *]), rfl⟩)
  · skip
    refine lv_tableIn (off := 123) (tgt := 124) hx hb dX7_combinedFreely_1 (by decide) (by decide) (by decide) (by decide) ?_
    refine lv_dload_n hx hb dX7_combinedFreely_124 rfl (lv_at hl 1 rfl) ?_
    refine lv_dload_n hx hb dX7_combinedFreely_125 rfl (lv_at hl 2 rfl) ?_
    refine lv_dmul hx hb dX7_combinedFreely_126 (hn.2.2 rfl) ?_
    exact ar_dret C hr hW dX7_combinedFreely_127 (⟨congrArg (fun z => some (Value.double z)) (by simp [zOp, *]), rfl⟩)
  · skip
    refine lv_tableIn (off := 127) (tgt := 128) hx hb dX7_combinedFreely_1 (by decide) (by decide) (by decide) (by decide) ?_
    refine lv_dload_n hx hb dX7_combinedFreely_128 rfl (lv_at hl 1 rfl) ?_
    refine lv_dload_n hx hb dX7_combinedFreely_129 rfl (lv_at hl 2 rfl) ?_
    refine lv_dcmp hx hb dX7_combinedFreely_130 ?_
    refine lv_if_ge (tgt := 138) hx hb dX7_combinedFreely_131 (by decide) (fun h1 => ?_) (fun h1 => ?_)
    · skip
      refine lv_dconst0 hx hb dX7_combinedFreely_138 ?_
      exact ar_dret C hr hW dX7_combinedFreely_139 (⟨congrArg (fun z => some (Value.double z)) (by simp [zOp, *]), rfl⟩)
    · skip
      refine lv_dconst1 hx hb dX7_combinedFreely_134 ?_
      refine lv_goto (tgt := 139) hx hb dX7_combinedFreely_135 (by decide) ?_
      exact ar_dret C hr hW dX7_combinedFreely_139 (⟨congrArg (fun z => some (Value.double z)) (by simp [zOp, *]), rfl⟩)
  · skip
    refine lv_tableIn (off := 139) (tgt := 140) hx hb dX7_combinedFreely_1 (by decide) (by decide) (by decide) (by decide) ?_
    refine lv_dload_n hx hb dX7_combinedFreely_140 rfl (lv_at hl 1 rfl) ?_
    refine lv_dload_n hx hb dX7_combinedFreely_141 rfl (lv_at hl 2 rfl) ?_
    refine lv_dcmp hx hb dX7_combinedFreely_142 ?_
    refine lv_if_le (tgt := 150) hx hb dX7_combinedFreely_143 (by decide) (fun h2 => ?_) (fun h2 => ?_)
    · skip
      refine lv_dconst0 hx hb dX7_combinedFreely_150 ?_
      exact ar_dret C hr hW dX7_combinedFreely_151 (⟨congrArg (fun z => some (Value.double z)) (by simp [zOp, *]), rfl⟩)
    · skip
      refine lv_dconst1 hx hb dX7_combinedFreely_146 ?_
      refine lv_goto (tgt := 151) hx hb dX7_combinedFreely_147 (by decide) ?_
      exact ar_dret C hr hW dX7_combinedFreely_151 (⟨congrArg (fun z => some (Value.double z)) (by simp [zOp, *]), rfl⟩)
  · skip
    refine lv_tableIn (off := 151) (tgt := 152) hx hb dX7_combinedFreely_1 (by decide) (by decide) (by decide) (by decide) ?_
    refine lv_dload_n hx hb dX7_combinedFreely_152 rfl (lv_at hl 1 rfl) ?_
    refine lv_dload_n hx hb dX7_combinedFreely_153 rfl (lv_at hl 2 rfl) ?_
    refine lv_dcmp hx hb dX7_combinedFreely_154 ?_
    refine lv_if_ne (tgt := 162) hx hb dX7_combinedFreely_155 (by decide) (fun h3 => ?_) (fun h3 => ?_)
    · skip
      refine lv_dconst0 hx hb dX7_combinedFreely_162 ?_
      exact ar_dret C hr hW dX7_combinedFreely_163 (⟨congrArg (fun z => some (Value.double z)) (by simp [zOp, *]), rfl⟩)
    · skip
      refine lv_dconst1 hx hb dX7_combinedFreely_158 ?_
      refine lv_goto (tgt := 163) hx hb dX7_combinedFreely_159 (by decide) ?_
      exact ar_dret C hr hW dX7_combinedFreely_163 (⟨congrArg (fun z => some (Value.double z)) (by simp [zOp, *]), rfl⟩)
  · skip
    refine lv_tableIn (off := 163) (tgt := 164) hx hb dX7_combinedFreely_1 (by decide) (by decide) (by decide) (by decide) ?_
    refine lv_dload_n hx hb dX7_combinedFreely_164 rfl (lv_at hl 1 rfl) ?_
    refine lv_dload_n hx hb dX7_combinedFreely_165 rfl (lv_at hl 2 rfl) ?_
    refine lv_dcmp hx hb dX7_combinedFreely_166 ?_
    refine lv_if_ge (tgt := 174) hx hb dX7_combinedFreely_167 (by decide) (fun h4 => ?_) (fun h4 => ?_)
    · skip
      refine lv_dload_n hx hb dX7_combinedFreely_174 rfl (lv_at hl 2 rfl) ?_
      exact ar_dret C hr hW dX7_combinedFreely_175 (⟨congrArg (fun z => some (Value.double z)) (by simp [zOp, *]), rfl⟩)
    · skip
      refine lv_dload_n hx hb dX7_combinedFreely_170 rfl (lv_at hl 1 rfl) ?_
      refine lv_goto (tgt := 175) hx hb dX7_combinedFreely_171 (by decide) ?_
      exact ar_dret C hr hW dX7_combinedFreely_175 (⟨congrArg (fun z => some (Value.double z)) (by simp [zOp, *]), rfl⟩)
  · skip
    refine lv_tableOut (tgt := 176) hx hb dX7_combinedFreely_1 (by decide) (by decide) ?_
    refine lv_dload_n hx hb dX7_combinedFreely_176 rfl (lv_at hl 1 rfl) ?_
    refine lv_dload_n hx hb dX7_combinedFreely_177 rfl (lv_at hl 2 rfl) ?_
    refine lv_dcmp hx hb dX7_combinedFreely_178 ?_
    refine lv_if_le (tgt := 186) hx hb dX7_combinedFreely_179 (by decide) (fun h5 => ?_) (fun h5 => ?_)
    · skip
      refine lv_dload_n hx hb dX7_combinedFreely_186 rfl (lv_at hl 2 rfl) ?_
      exact ar_dret C hr hW dX7_combinedFreely_187 (⟨congrArg (fun z => some (Value.double z)) (by simp [zOp, *]), rfl⟩)
    · skip
      refine lv_dload_n hx hb dX7_combinedFreely_182 rfl (lv_at hl 1 rfl) ?_
      refine lv_goto (tgt := 187) hx hb dX7_combinedFreely_183 (by decide) ?_
      exact ar_dret C hr hW dX7_combinedFreely_187 (⟨congrArg (fun z => some (Value.double z)) (by simp [zOp, *]), rfl⟩)
theorem hd_X9_join : yX9_join.cls ≠ "java/lang/invoke/MethodHandle" ∧ yX9_join.cls ≠ "java/lang/invoke/VarHandle" ∧ (parseMethodDescriptor yX9_join.desc).map (fun d => d.parameters.length) = some 3 := by decide +kernel
set_option maxHeartbeats 4000000 in
set_option maxRecDepth 100000 in
theorem c_X9_join {l : Launch} (hl9 : l.stackTraces = false) {D : va_G} {ct : Nat → ClassId} {S : Type} {wl : S → va_W} (u0 : S) (ch : Nat) (x y : UInt64) (hc : zSg ch) (hn : zNn ch x y) : ar_M l yX9_join cX9_join 5 (some .double) 0 0 D ct wl [.int (nI ch), .double x, .double y] u0 (fun v9 u9 => v9 = some (.double (zOp ch x y)) ∧ u9 = u0) (fun _ _ => False) := by
  refine ar_ofW hl9 (by decide) (Nat.le_of_ble_eq_true rfl) ?_
  intro p e s m below meth c A ls C hr hnm hW hl
  have hx := C.1
  have hb := C.2.1
  have hown := C.2.2.2.1
  have hts := C.2.2.2.2.1
  have hl : lv_has ls 5 [(0, .int (nI ch)), (1, .double x), (3, .double y)] := hl
  refine lv_iload_n hx hb dX9_join_0 rfl (lv_at hl 0 rfl) ?_
  rcases hc with rfl | rfl | rfl | rfl | rfl | rfl | rfl | rfl
  · skip
    refine lv_tableIn (off := 115) (tgt := 116) hx hb dX9_join_1 (by decide) (by decide) (by decide) (by decide) ?_
    refine lv_dload_n hx hb dX9_join_116 rfl (lv_at hl 1 rfl) ?_
    refine lv_dload_n hx hb dX9_join_117 rfl (lv_at hl 2 rfl) ?_
    refine lv_dadd hx hb dX9_join_118 (hn.1 rfl) ?_
    exact ar_dret C hr hW dX9_join_119 (⟨congrArg (fun z => some (Value.double z)) (by simp [zOp, *]), rfl⟩)
  · skip
    refine lv_tableIn (off := 119) (tgt := 120) hx hb dX9_join_1 (by decide) (by decide) (by decide) (by decide) ?_
    refine lv_dload_n hx hb dX9_join_120 rfl (lv_at hl 1 rfl) ?_
    refine lv_dload_n hx hb dX9_join_121 rfl (lv_at hl 2 rfl) ?_
    refine lv_dsub hx hb dX9_join_122 (hn.2.1 rfl) ?_
    exact ar_dret C hr hW dX9_join_123 (⟨congrArg (fun z => some (Value.double z)) (by simp [zOp, *]), rfl⟩)
  · skip
    refine lv_tableIn (off := 123) (tgt := 124) hx hb dX9_join_1 (by decide) (by decide) (by decide) (by decide) ?_
    refine lv_dload_n hx hb dX9_join_124 rfl (lv_at hl 1 rfl) ?_
    refine lv_dload_n hx hb dX9_join_125 rfl (lv_at hl 2 rfl) ?_
    refine lv_dmul hx hb dX9_join_126 (hn.2.2 rfl) ?_
    exact ar_dret C hr hW dX9_join_127 (⟨congrArg (fun z => some (Value.double z)) (by simp [zOp, *]), rfl⟩)
  · skip
    refine lv_tableIn (off := 127) (tgt := 128) hx hb dX9_join_1 (by decide) (by decide) (by decide) (by decide) ?_
    refine lv_dload_n hx hb dX9_join_128 rfl (lv_at hl 1 rfl) ?_
    refine lv_dload_n hx hb dX9_join_129 rfl (lv_at hl 2 rfl) ?_
    refine lv_dcmp hx hb dX9_join_130 ?_
    refine lv_if_ge (tgt := 138) hx hb dX9_join_131 (by decide) (fun h1 => ?_) (fun h1 => ?_)
    · skip
      refine lv_dconst0 hx hb dX9_join_138 ?_
      exact ar_dret C hr hW dX9_join_139 (⟨congrArg (fun z => some (Value.double z)) (by simp [zOp, *]), rfl⟩)
    · skip
      refine lv_dconst1 hx hb dX9_join_134 ?_
      refine lv_goto (tgt := 139) hx hb dX9_join_135 (by decide) ?_
      exact ar_dret C hr hW dX9_join_139 (⟨congrArg (fun z => some (Value.double z)) (by simp [zOp, *]), rfl⟩)
  · skip
    refine lv_tableIn (off := 139) (tgt := 140) hx hb dX9_join_1 (by decide) (by decide) (by decide) (by decide) ?_
    refine lv_dload_n hx hb dX9_join_140 rfl (lv_at hl 1 rfl) ?_
    refine lv_dload_n hx hb dX9_join_141 rfl (lv_at hl 2 rfl) ?_
    refine lv_dcmp hx hb dX9_join_142 ?_
    refine lv_if_le (tgt := 150) hx hb dX9_join_143 (by decide) (fun h2 => ?_) (fun h2 => ?_)
    · skip
      refine lv_dconst0 hx hb dX9_join_150 ?_
      exact ar_dret C hr hW dX9_join_151 (⟨congrArg (fun z => some (Value.double z)) (by simp [zOp, *]), rfl⟩)
    · skip
      refine lv_dconst1 hx hb dX9_join_146 ?_
      refine lv_goto (tgt := 151) hx hb dX9_join_147 (by decide) ?_
      exact ar_dret C hr hW dX9_join_151 (⟨congrArg (fun z => some (Value.double z)) (by simp [zOp, *]), rfl⟩)
  · skip
    refine lv_tableIn (off := 151) (tgt := 152) hx hb dX9_join_1 (by decide) (by decide) (by decide) (by decide) ?_
    refine lv_dload_n hx hb dX9_join_152 rfl (lv_at hl 1 rfl) ?_
    refine lv_dload_n hx hb dX9_join_153 rfl (lv_at hl 2 rfl) ?_
    refine lv_dcmp hx hb dX9_join_154 ?_
    refine lv_if_ne (tgt := 162) hx hb dX9_join_155 (by decide) (fun h3 => ?_) (fun h3 => ?_)
    · skip
      refine lv_dconst0 hx hb dX9_join_162 ?_
      exact ar_dret C hr hW dX9_join_163 (⟨congrArg (fun z => some (Value.double z)) (by simp [zOp, *]), rfl⟩)
    · skip
      refine lv_dconst1 hx hb dX9_join_158 ?_
      refine lv_goto (tgt := 163) hx hb dX9_join_159 (by decide) ?_
      exact ar_dret C hr hW dX9_join_163 (⟨congrArg (fun z => some (Value.double z)) (by simp [zOp, *]), rfl⟩)
  · skip
    refine lv_tableIn (off := 163) (tgt := 164) hx hb dX9_join_1 (by decide) (by decide) (by decide) (by decide) ?_
    refine lv_dload_n hx hb dX9_join_164 rfl (lv_at hl 1 rfl) ?_
    refine lv_dload_n hx hb dX9_join_165 rfl (lv_at hl 2 rfl) ?_
    refine lv_dcmp hx hb dX9_join_166 ?_
    refine lv_if_ge (tgt := 174) hx hb dX9_join_167 (by decide) (fun h4 => ?_) (fun h4 => ?_)
    · skip
      refine lv_dload_n hx hb dX9_join_174 rfl (lv_at hl 2 rfl) ?_
      exact ar_dret C hr hW dX9_join_175 (⟨congrArg (fun z => some (Value.double z)) (by simp [zOp, *]), rfl⟩)
    · skip
      refine lv_dload_n hx hb dX9_join_170 rfl (lv_at hl 1 rfl) ?_
      refine lv_goto (tgt := 175) hx hb dX9_join_171 (by decide) ?_
      exact ar_dret C hr hW dX9_join_175 (⟨congrArg (fun z => some (Value.double z)) (by simp [zOp, *]), rfl⟩)
  · skip
    refine lv_tableOut (tgt := 176) hx hb dX9_join_1 (by decide) (by decide) ?_
    refine lv_dload_n hx hb dX9_join_176 rfl (lv_at hl 1 rfl) ?_
    refine lv_dload_n hx hb dX9_join_177 rfl (lv_at hl 2 rfl) ?_
    refine lv_dcmp hx hb dX9_join_178 ?_
    refine lv_if_le (tgt := 186) hx hb dX9_join_179 (by decide) (fun h5 => ?_) (fun h5 => ?_)
    · skip
      refine lv_dload_n hx hb dX9_join_186 rfl (lv_at hl 2 rfl) ?_
      exact ar_dret C hr hW dX9_join_187 (⟨congrArg (fun z => some (Value.double z)) (by simp [zOp, *]), rfl⟩)
    · skip
      refine lv_dload_n hx hb dX9_join_182 rfl (lv_at hl 1 rfl) ?_
      refine lv_goto (tgt := 187) hx hb dX9_join_183 (by decide) ?_
      exact ar_dret C hr hW dX9_join_187 (⟨congrArg (fun z => some (Value.double z)) (by simp [zOp, *]), rfl⟩)
theorem hd_X9_within : yX9_within.cls ≠ "java/lang/invoke/MethodHandle" ∧ yX9_within.cls ≠ "java/lang/invoke/VarHandle" ∧ (parseMethodDescriptor yX9_within.desc).map (fun d => d.parameters.length) = some 3 := by decide +kernel
set_option maxHeartbeats 4000000 in
set_option maxRecDepth 100000 in
theorem c_X9_within {l : Launch} (hl9 : l.stackTraces = false) {D : va_G} {ct : Nat → ClassId} {S : Type} {wl : S → va_W} (u0 : S) (x a b : Int32) : ar_M l yX9_within cX9_within 3 (some .boolean) 0 0 D ct wl [.int x, .int a, .int b] u0 (fun v9 u9 => v9 = some (.int (bI (zIn x a b))) ∧ u9 = u0) (fun _ _ => False) := by
  refine ar_ofW hl9 (by decide) (Nat.le_of_ble_eq_true rfl) ?_
  intro p e s m below meth c A ls C hr hnm hW hl
  have hx := C.1
  have hb := C.2.1
  have hown := C.2.2.2.1
  have hts := C.2.2.2.2.1
  have hl : lv_has ls 3 [(0, .int x), (1, .int a), (2, .int b)] := hl
  refine lv_iload_n hx hb dX9_within_0 rfl (lv_at hl 0 rfl) ?_
  refine lv_iload_n hx hb dX9_within_1 rfl (lv_at hl 1 rfl) ?_
  refine lv_icmp_lt (tgt := 14) hx hb dX9_within_2 (by decide) (fun h1 => ?_) (fun h1 => ?_)
  · skip
    refine lv_iconst (v := nI 0) hx hb dX9_within_14 (by decide) ?_
    exact ar_zret C hr (nI_z0.1) hW dX9_within_15 (⟨congrArg (fun z => some (Value.int z)) (bI_f (by simp only [zIn, decide_eq_true_eq, decide_eq_false_iff_not]; first | exact ⟨Int32.not_lt.mp h1, Int32.not_lt.mp h2⟩ | exact (fun q => absurd q.2 (Int32.not_le.mpr h2)) | exact (fun q => absurd q.1 (Int32.not_le.mpr h1)))), rfl⟩)
  · skip
    refine lv_iload_n hx hb dX9_within_5 rfl (lv_at hl 0 rfl) ?_
    refine lv_iload_n hx hb dX9_within_6 rfl (lv_at hl 2 rfl) ?_
    refine lv_icmp_gt (tgt := 14) hx hb dX9_within_7 (by decide) (fun h2 => ?_) (fun h2 => ?_)
    · skip
      refine lv_iconst (v := nI 0) hx hb dX9_within_14 (by decide) ?_
      exact ar_zret C hr (nI_z0.1) hW dX9_within_15 (⟨congrArg (fun z => some (Value.int z)) (bI_f (by simp only [zIn, decide_eq_true_eq, decide_eq_false_iff_not]; first | exact ⟨Int32.not_lt.mp h1, Int32.not_lt.mp h2⟩ | exact (fun q => absurd q.2 (Int32.not_le.mpr h2)) | exact (fun q => absurd q.1 (Int32.not_le.mpr h1)))), rfl⟩)
    · skip
      refine lv_iconst (v := nI 1) hx hb dX9_within_10 (by decide) ?_
      refine lv_goto (tgt := 15) hx hb dX9_within_11 (by decide) ?_
      exact ar_zret C hr (nI_z1.1) hW dX9_within_15 (⟨congrArg (fun z => some (Value.int z)) (bI_t (by simp only [zIn, decide_eq_true_eq, decide_eq_false_iff_not]; first | exact ⟨Int32.not_lt.mp h1, Int32.not_lt.mp h2⟩ | exact (fun q => absurd q.2 (Int32.not_le.mpr h2)) | exact (fun q => absurd q.1 (Int32.not_le.mpr h1)))), rfl⟩)
theorem hd_X9_count : yX9_count.cls ≠ "java/lang/invoke/MethodHandle" ∧ yX9_count.cls ≠ "java/lang/invoke/VarHandle" ∧ (parseMethodDescriptor yX9_count.desc).map (fun d => d.parameters.length) = some 1 := by decide +kernel
set_option maxHeartbeats 4000000 in
set_option maxRecDepth 100000 in
theorem c_X9_count {l : Launch} (hl9 : l.stackTraces = false) {D : va_G} {ct : Nat → ClassId} {S : Type} {wl : S → va_W} (u0 : S) (x : Nat) (hx9 : x < 2 ^ 31) : ar_M l yX9_count cX9_count 1 (some .int) 0 0 D ct wl [.int (nI x)] u0 (fun v9 u9 => v9 = some (.int (nI (zCt x))) ∧ u9 = u0) (fun _ _ => False) := by
  refine ar_ofW hl9 (by decide) (Nat.le_of_ble_eq_true rfl) ?_
  intro p e s m below meth c A ls C hr hnm hW hl
  have hx := C.1
  have hb := C.2.1
  have hown := C.2.2.2.1
  have hts := C.2.2.2.2.1
  have hl : lv_has ls 1 [(0, .int (nI x))] := hl
  refine lv_iload_n hx hb dX9_count_0 rfl (lv_at hl 0 rfl) ?_
  refine ln_if_ne (tgt := 8) hx hb dX9_count_1 (by decide) (by omega) (fun h1 => ?_) (fun h1 => ?_)
  · skip
    refine lv_iload_n hx hb dX9_count_8 rfl (lv_at hl 0 rfl) ?_
    refine lv_bipush (v := nI 32) hx hb dX9_count_9 (by decide) ?_
    refine ln_icmp_ge (tgt := 18) hx hb dX9_count_11 (by decide) (by omega) (by omega) (fun h2 => ?_) (fun h2 => ?_)
    · skip
      refine lv_iload_n hx hb dX9_count_18 rfl (lv_at hl 0 rfl) ?_
      refine lv_bipush (v := nI 32) hx hb dX9_count_19 (by decide) ?_
      refine ln_idiv hx hb dX9_count_21 (by omega) (by omega) (by omega) ?_
      refine lv_iload_n hx hb dX9_count_22 rfl (lv_at hl 0 rfl) ?_
      refine lv_bipush (v := nI 32) hx hb dX9_count_23 (by decide) ?_
      refine ln_irem hx hb dX9_count_25 (by omega) (by omega) (by omega) ?_
      refine ln_imul hx hb dX9_count_26 ?_
      exact ar_iret C hr hW dX9_count_27 (⟨congrArg (fun z => some (Value.int (nI z))) (by first | (rw [h1]; rfl) | exact (zCt_lo h1 h2).symm | exact (zCt_hi h2).symm), rfl⟩)
    · skip
      refine lv_iload_n hx hb dX9_count_14 rfl (lv_at hl 0 rfl) ?_
      refine lv_goto (tgt := 27) hx hb dX9_count_15 (by decide) ?_
      exact ar_iret C hr hW dX9_count_27 (⟨congrArg (fun z => some (Value.int (nI z))) (by first | (rw [h1]; rfl) | exact (zCt_lo h1 h2).symm | exact (zCt_hi h2).symm), rfl⟩)
  · skip
    refine lv_iconst (v := nI 1) hx hb dX9_count_4 (by decide) ?_
    refine lv_goto (tgt := 27) hx hb dX9_count_5 (by decide) ?_
    exact ar_iret C hr hW dX9_count_27 (⟨congrArg (fun z => some (Value.int (nI z))) (by first | (rw [h1]; rfl) | exact (zCt_lo h1 h2).symm | exact (zCt_hi h2).symm), rfl⟩)
theorem hd_X9_isDigit : yX9_isDigit.cls ≠ "java/lang/invoke/MethodHandle" ∧ yX9_isDigit.cls ≠ "java/lang/invoke/VarHandle" ∧ (parseMethodDescriptor yX9_isDigit.desc).map (fun d => d.parameters.length) = some 1 := by decide +kernel
set_option maxHeartbeats 4000000 in
set_option maxRecDepth 100000 in
theorem c_X9_isDigit {l : Launch} (hl9 : l.stackTraces = false) {D : va_G} {ct : Nat → ClassId} {S : Type} {wl : S → va_W} (u0 : S) (ch : Int32) : ar_M l yX9_isDigit cX9_isDigit 1 (some .boolean) 1 22 D ct wl [.int ch] u0 (fun v9 u9 => v9 = some (.int (bI (zIn ch (nI 48) (nI 57)))) ∧ u9 = u0) (fun _ _ => False) := by
  refine ar_ofW hl9 (by decide) (Nat.le_of_ble_eq_true rfl) ?_
  intro p e s m below meth c A ls C hr hnm hW hl
  have hx := C.1
  have hb := C.2.1
  have hown := C.2.2.2.1
  have hts := C.2.2.2.2.1
  have hl : lv_has ls 1 [(0, .int ch)] := hl
  refine lv_iload_n hx hb dX9_isDigit_0 rfl (lv_at hl 0 rfl) ?_
  refine lv_bipush (v := nI 48) hx hb dX9_isDigit_1 (by decide) ?_
  refine lv_bipush (v := nI 57) hx hb dX9_isDigit_3 (by decide) ?_
  refine ar_callS (As := [.int ch, .int (nI 48), .int (nI 57)]) (rest := []) C hW (c_X9_within hl9 _ ch (nI 48) (nI 57)) q686 q687 q6 q688 hd_X9_within ⟨Nat.le_of_ble_eq_true rfl, Nat.le_of_ble_eq_true rfl⟩ hl.1 (Nat.le_of_ble_eq_true rfl) rfl dX9_isDigit_5 (fun _ _ _ _ _ _ hp => hp.elim) (fun v9 u9 H locs hp hW => ?_)
  obtain ⟨rfl, hu9⟩ := hp
  rw [hu9] at hW
  refine W.eq (g2 := F0 m 8 ls [.int (bI (zIn ch (nI 48) (nI 57)))]) rfl ?_
  exact ar_zret C hr ((bI_z _).1) hW dX9_isDigit_8 (⟨rfl, rfl⟩)
theorem hd_X9_isSign : yX9_isSign.cls ≠ "java/lang/invoke/MethodHandle" ∧ yX9_isSign.cls ≠ "java/lang/invoke/VarHandle" ∧ (parseMethodDescriptor yX9_isSign.desc).map (fun d => d.parameters.length) = some 1 := by decide +kernel
set_option maxHeartbeats 4000000 in
set_option maxRecDepth 100000 in
theorem c_X9_isSign {l : Launch} (hl9 : l.stackTraces = false) {D : va_G} {ct : Nat → ClassId} {S : Type} {wl : S → va_W} (u0 : S) (ch : Nat) (hc9 : ch < 2 ^ 31) : ar_M l yX9_isSign cX9_isSign 1 (some .boolean) 0 0 D ct wl [.int (nI ch)] u0 (fun v9 u9 => v9 = some (.int (bI (zSgn ch))) ∧ u9 = u0) (fun _ _ => False) := by
  refine ar_ofW hl9 (by decide) (Nat.le_of_ble_eq_true rfl) ?_
  intro p e s m below meth c A ls C hr hnm hW hl
  have hx := C.1
  have hb := C.2.1
  have hown := C.2.2.2.1
  have hts := C.2.2.2.2.1
  have hl : lv_has ls 1 [(0, .int (nI ch))] := hl
  refine lv_iload_n hx hb dX9_isSign_0 rfl (lv_at hl 0 rfl) ?_
  refine lv_bipush (v := nI 43) hx hb dX9_isSign_1 (by decide) ?_
  refine ln_icmp_eq (tgt := 60) hx hb dX9_isSign_3 (by decide) (by omega) (by omega) (fun h1 => ?_) (fun h1 => ?_)
  · skip
    refine lv_iconst (v := nI 1) hx hb dX9_isSign_60 (by decide) ?_
    refine lv_goto (tgt := 65) hx hb dX9_isSign_61 (by decide) ?_
    exact ar_zret C hr (nI_z1.1) hW dX9_isSign_65 (⟨congrArg (fun z => some (Value.int z)) (bI_t (by simp [zSgn]; omega)), rfl⟩)
  · skip
    refine lv_iload_n hx hb dX9_isSign_6 rfl (lv_at hl 0 rfl) ?_
    refine lv_bipush (v := nI 45) hx hb dX9_isSign_7 (by decide) ?_
    refine ln_icmp_eq (tgt := 60) hx hb dX9_isSign_9 (by decide) (by omega) (by omega) (fun h2 => ?_) (fun h2 => ?_)
    · skip
      refine lv_iconst (v := nI 1) hx hb dX9_isSign_60 (by decide) ?_
      refine lv_goto (tgt := 65) hx hb dX9_isSign_61 (by decide) ?_
      exact ar_zret C hr (nI_z1.1) hW dX9_isSign_65 (⟨congrArg (fun z => some (Value.int z)) (bI_t (by simp [zSgn]; omega)), rfl⟩)
    · skip
      refine lv_iload_n hx hb dX9_isSign_12 rfl (lv_at hl 0 rfl) ?_
      refine lv_bipush (v := nI 42) hx hb dX9_isSign_13 (by decide) ?_
      refine ln_icmp_eq (tgt := 60) hx hb dX9_isSign_15 (by decide) (by omega) (by omega) (fun h3 => ?_) (fun h3 => ?_)
      · skip
        refine lv_iconst (v := nI 1) hx hb dX9_isSign_60 (by decide) ?_
        refine lv_goto (tgt := 65) hx hb dX9_isSign_61 (by decide) ?_
        exact ar_zret C hr (nI_z1.1) hW dX9_isSign_65 (⟨congrArg (fun z => some (Value.int z)) (bI_t (by simp [zSgn]; omega)), rfl⟩)
      · skip
        refine lv_iload_n hx hb dX9_isSign_18 rfl (lv_at hl 0 rfl) ?_
        refine lv_bipush (v := nI 60) hx hb dX9_isSign_19 (by decide) ?_
        refine ln_icmp_eq (tgt := 60) hx hb dX9_isSign_21 (by decide) (by omega) (by omega) (fun h4 => ?_) (fun h4 => ?_)
        · skip
          refine lv_iconst (v := nI 1) hx hb dX9_isSign_60 (by decide) ?_
          refine lv_goto (tgt := 65) hx hb dX9_isSign_61 (by decide) ?_
          exact ar_zret C hr (nI_z1.1) hW dX9_isSign_65 (⟨congrArg (fun z => some (Value.int z)) (bI_t (by simp [zSgn]; omega)), rfl⟩)
        · skip
          refine lv_iload_n hx hb dX9_isSign_24 rfl (lv_at hl 0 rfl) ?_
          refine lv_bipush (v := nI 62) hx hb dX9_isSign_25 (by decide) ?_
          refine ln_icmp_eq (tgt := 60) hx hb dX9_isSign_27 (by decide) (by omega) (by omega) (fun h5 => ?_) (fun h5 => ?_)
          · skip
            refine lv_iconst (v := nI 1) hx hb dX9_isSign_60 (by decide) ?_
            refine lv_goto (tgt := 65) hx hb dX9_isSign_61 (by decide) ?_
            exact ar_zret C hr (nI_z1.1) hW dX9_isSign_65 (⟨congrArg (fun z => some (Value.int z)) (bI_t (by simp [zSgn]; omega)), rfl⟩)
          · skip
            refine lv_iload_n hx hb dX9_isSign_30 rfl (lv_at hl 0 rfl) ?_
            refine lv_bipush (v := nI 61) hx hb dX9_isSign_31 (by decide) ?_
            refine ln_icmp_eq (tgt := 60) hx hb dX9_isSign_33 (by decide) (by omega) (by omega) (fun h6 => ?_) (fun h6 => ?_)
            · skip
              refine lv_iconst (v := nI 1) hx hb dX9_isSign_60 (by decide) ?_
              refine lv_goto (tgt := 65) hx hb dX9_isSign_61 (by decide) ?_
              exact ar_zret C hr (nI_z1.1) hW dX9_isSign_65 (⟨congrArg (fun z => some (Value.int z)) (bI_t (by simp [zSgn]; omega)), rfl⟩)
            · skip
              refine lv_iload_n hx hb dX9_isSign_36 rfl (lv_at hl 0 rfl) ?_
              refine lv_bipush (v := nI 38) hx hb dX9_isSign_37 (by decide) ?_
              refine ln_icmp_eq (tgt := 60) hx hb dX9_isSign_39 (by decide) (by omega) (by omega) (fun h7 => ?_) (fun h7 => ?_)
              · skip
                refine lv_iconst (v := nI 1) hx hb dX9_isSign_60 (by decide) ?_
                refine lv_goto (tgt := 65) hx hb dX9_isSign_61 (by decide) ?_
                exact ar_zret C hr (nI_z1.1) hW dX9_isSign_65 (⟨congrArg (fun z => some (Value.int z)) (bI_t (by simp [zSgn]; omega)), rfl⟩)
              · skip
                refine lv_iload_n hx hb dX9_isSign_42 rfl (lv_at hl 0 rfl) ?_
                refine lv_bipush (v := nI 124) hx hb dX9_isSign_43 (by decide) ?_
                refine ln_icmp_eq (tgt := 60) hx hb dX9_isSign_45 (by decide) (by omega) (by omega) (fun h8 => ?_) (fun h8 => ?_)
                · skip
                  refine lv_iconst (v := nI 1) hx hb dX9_isSign_60 (by decide) ?_
                  refine lv_goto (tgt := 65) hx hb dX9_isSign_61 (by decide) ?_
                  exact ar_zret C hr (nI_z1.1) hW dX9_isSign_65 (⟨congrArg (fun z => some (Value.int z)) (bI_t (by simp [zSgn]; omega)), rfl⟩)
                · skip
                  refine lv_iload_n hx hb dX9_isSign_48 rfl (lv_at hl 0 rfl) ?_
                  refine lv_bipush (v := nI 44) hx hb dX9_isSign_49 (by decide) ?_
                  refine ln_icmp_eq (tgt := 60) hx hb dX9_isSign_51 (by decide) (by omega) (by omega) (fun h9 => ?_) (fun h9 => ?_)
                  · skip
                    refine lv_iconst (v := nI 1) hx hb dX9_isSign_60 (by decide) ?_
                    refine lv_goto (tgt := 65) hx hb dX9_isSign_61 (by decide) ?_
                    exact ar_zret C hr (nI_z1.1) hW dX9_isSign_65 (⟨congrArg (fun z => some (Value.int z)) (bI_t (by simp [zSgn]; omega)), rfl⟩)
                  · skip
                    refine lv_iload_n hx hb dX9_isSign_54 rfl (lv_at hl 0 rfl) ?_
                    refine lv_bipush (v := nI 35) hx hb dX9_isSign_55 (by decide) ?_
                    refine ln_icmp_ne (tgt := 64) hx hb dX9_isSign_57 (by decide) (by omega) (by omega) (fun h10 => ?_) (fun h10 => ?_)
                    · skip
                      refine lv_iconst (v := nI 0) hx hb dX9_isSign_64 (by decide) ?_
                      exact ar_zret C hr (nI_z0.1) hW dX9_isSign_65 (⟨congrArg (fun z => some (Value.int z)) (bI_f (by simp [zSgn]; omega)), rfl⟩)
                    · skip
                      refine lv_iconst (v := nI 1) hx hb dX9_isSign_60 (by decide) ?_
                      refine lv_goto (tgt := 65) hx hb dX9_isSign_61 (by decide) ?_
                      exact ar_zret C hr (nI_z1.1) hW dX9_isSign_65 (⟨congrArg (fun z => some (Value.int z)) (bI_t (by simp [zSgn]; omega)), rfl⟩)
theorem hd_X9_reduces : yX9_reduces.cls ≠ "java/lang/invoke/MethodHandle" ∧ yX9_reduces.cls ≠ "java/lang/invoke/VarHandle" ∧ (parseMethodDescriptor yX9_reduces.desc).map (fun d => d.parameters.length) = some 1 := by decide +kernel
set_option maxHeartbeats 4000000 in
set_option maxRecDepth 100000 in
theorem c_X9_reduces {l : Launch} (hl9 : l.stackTraces = false) {D : va_G} {ct : Nat → ClassId} {S : Type} {wl : S → va_W} (u0 : S) (ch : Nat) (hc9 : ch < 2 ^ 31) : ar_M l yX9_reduces cX9_reduces 1 (some .boolean) 0 0 D ct wl [.int (nI ch)] u0 (fun v9 u9 => v9 = some (.int (bI (zRd ch))) ∧ u9 = u0) (fun _ _ => False) := by
  refine ar_ofW hl9 (by decide) (Nat.le_of_ble_eq_true rfl) ?_
  intro p e s m below meth c A ls C hr hnm hW hl
  have hx := C.1
  have hb := C.2.1
  have hown := C.2.2.2.1
  have hts := C.2.2.2.2.1
  have hl : lv_has ls 1 [(0, .int (nI ch))] := hl
  refine lv_iload_n hx hb dX9_reduces_0 rfl (lv_at hl 0 rfl) ?_
  refine lv_bipush (v := nI 43) hx hb dX9_reduces_1 (by decide) ?_
  refine ln_icmp_eq (tgt := 24) hx hb dX9_reduces_3 (by decide) (by omega) (by omega) (fun h1 => ?_) (fun h1 => ?_)
  · skip
    refine lv_iconst (v := nI 1) hx hb dX9_reduces_24 (by decide) ?_
    refine lv_goto (tgt := 29) hx hb dX9_reduces_25 (by decide) ?_
    exact ar_zret C hr (nI_z1.1) hW dX9_reduces_29 (⟨congrArg (fun z => some (Value.int z)) (bI_t (by simp [zRd]; omega)), rfl⟩)
  · skip
    refine lv_iload_n hx hb dX9_reduces_6 rfl (lv_at hl 0 rfl) ?_
    refine lv_bipush (v := nI 42) hx hb dX9_reduces_7 (by decide) ?_
    refine ln_icmp_eq (tgt := 24) hx hb dX9_reduces_9 (by decide) (by omega) (by omega) (fun h2 => ?_) (fun h2 => ?_)
    · skip
      refine lv_iconst (v := nI 1) hx hb dX9_reduces_24 (by decide) ?_
      refine lv_goto (tgt := 29) hx hb dX9_reduces_25 (by decide) ?_
      exact ar_zret C hr (nI_z1.1) hW dX9_reduces_29 (⟨congrArg (fun z => some (Value.int z)) (bI_t (by simp [zRd]; omega)), rfl⟩)
    · skip
      refine lv_iload_n hx hb dX9_reduces_12 rfl (lv_at hl 0 rfl) ?_
      refine lv_bipush (v := nI 38) hx hb dX9_reduces_13 (by decide) ?_
      refine ln_icmp_eq (tgt := 24) hx hb dX9_reduces_15 (by decide) (by omega) (by omega) (fun h3 => ?_) (fun h3 => ?_)
      · skip
        refine lv_iconst (v := nI 1) hx hb dX9_reduces_24 (by decide) ?_
        refine lv_goto (tgt := 29) hx hb dX9_reduces_25 (by decide) ?_
        exact ar_zret C hr (nI_z1.1) hW dX9_reduces_29 (⟨congrArg (fun z => some (Value.int z)) (bI_t (by simp [zRd]; omega)), rfl⟩)
      · skip
        refine lv_iload_n hx hb dX9_reduces_18 rfl (lv_at hl 0 rfl) ?_
        refine lv_bipush (v := nI 124) hx hb dX9_reduces_19 (by decide) ?_
        refine ln_icmp_ne (tgt := 28) hx hb dX9_reduces_21 (by decide) (by omega) (by omega) (fun h4 => ?_) (fun h4 => ?_)
        · skip
          refine lv_iconst (v := nI 0) hx hb dX9_reduces_28 (by decide) ?_
          exact ar_zret C hr (nI_z0.1) hW dX9_reduces_29 (⟨congrArg (fun z => some (Value.int z)) (bI_f (by simp [zRd]; omega)), rfl⟩)
        · skip
          refine lv_iconst (v := nI 1) hx hb dX9_reduces_24 (by decide) ?_
          refine lv_goto (tgt := 29) hx hb dX9_reduces_25 (by decide) ?_
          exact ar_zret C hr (nI_z1.1) hW dX9_reduces_29 (⟨congrArg (fun z => some (Value.int z)) (bI_t (by simp [zRd]; omega)), rfl⟩)
end
section
def zHas (i : Int32) (n : Nat) : Bool := decide (0 ≤ i ∧ i < nI n)
theorem zHas_nat {i : Int32} {n : Nat} (hn : n < 2 ^ 31) (h : zHas i n = true) : ∃ j : Nat, j < n ∧ i = nI j := by
  simp only [zHas, decide_eq_true_eq] at h
  obtain ⟨j, hj, rfl⟩ := nI_of (x := i) (fun q => absurd q (Int32.not_lt.mpr h.1))
  exact ⟨j, (nI_ltI hj hn).mp h.2, rfl⟩
theorem zCt_lt {x : Nat} (h : x < 2 ^ 20) : zCt x < 2 ^ 31 := by
  unfold zCt
  have h1 : zLn x ≤ 2 ^ 15 := by unfold zLn; split <;> omega
  have h2 := zLg_lt x
  calc zLn x * zLg x ≤ 2 ^ 15 * 31 := Nat.mul_le_mul h1 (by omega)
    _ < 2 ^ 31 := by decide
theorem hd_X1_count : yX1_count.cls ≠ "java/lang/invoke/MethodHandle" ∧ yX1_count.cls ≠ "java/lang/invoke/VarHandle" ∧ (parseMethodDescriptor yX1_count.desc).map (fun d => d.parameters.length) = some 0 := by decide +kernel
set_option maxHeartbeats 4000000 in
set_option maxRecDepth 100000 in
theorem c_X1_count {l : Launch} (hl9 : l.stackTraces = false) {D : va_G} {ct : Nat → ClassId} {ad : Nat → Nat} (sc sg sh : Nat → Int32) (el : Nat → Nat → UInt64) (nf : Nat → Nat → Int32) (lr : Nat → Nat → Option Nat) (j : Nat) (hj : j < 49) (x : Nat) (hx9 : x < 2 ^ 31) (hsh : sh j = nI x) : ar_M l yX1_count cX1_count 1 (some .int) 2 40 D ct (xL ad ct) [.ref (ad (6 + j))] (sc, sg, sh, el, nf, lr) (fun v9 u9 => v9 = some (.int (nI (zCt x))) ∧ u9 = (sc, sg, sh, el, nf, lr)) (fun _ _ => False) := by
  refine ar_ofW hl9 (by decide) (Nat.le_of_ble_eq_true rfl) ?_
  intro p e s m below meth c A ls C hr hnm hW hl
  have hx := C.1
  have hb := C.2.1
  have hown := C.2.2.2.1
  have hts := C.2.2.2.2.1
  have hl : lv_has ls 1 [(0, .ref (ad (6 + j)))] := hl
  refine lv_aload_n hx hb dX1_count_0 rfl (lv_at hl 0 rfl) ?_
  refine xg_shape (j := j) C hW q36 (by omega) dX1_count_1 ?_
  refine ln_top (hsh) ?_
  refine ar_callS (As := [.int (nI x)]) (rest := []) C hW (c_X4_elements hl9 _ x (by omega)) q217 q218 q7 q219 hd_X4_elements ⟨Nat.le_of_ble_eq_true rfl, Nat.le_of_ble_eq_true rfl⟩ hl.1 (Nat.le_of_ble_eq_true rfl) rfl dX1_count_4 (fun _ _ _ _ _ _ hp => hp.elim) (fun v9 u9 H locs hp hW => ?_)
  obtain ⟨rfl, hu9⟩ := hp
  rw [hu9] at hW
  refine W.eq (g2 := F0 m 7 ls [.int (nI (zCt x))]) rfl ?_
  exact ar_iret C hr hW dX1_count_7 (⟨rfl, rfl⟩)
theorem hd_X1_hasElement : yX1_hasElement.cls ≠ "java/lang/invoke/MethodHandle" ∧ yX1_hasElement.cls ≠ "java/lang/invoke/VarHandle" ∧ (parseMethodDescriptor yX1_hasElement.desc).map (fun d => d.parameters.length) = some 1 := by decide +kernel
set_option maxHeartbeats 4000000 in
set_option maxRecDepth 100000 in
theorem c_X1_hasElement {l : Launch} (hl9 : l.stackTraces = false) {D : va_G} {ct : Nat → ClassId} {ad : Nat → Nat} (sc sg sh : Nat → Int32) (el : Nat → Nat → UInt64) (nf : Nat → Nat → Int32) (lr : Nat → Nat → Option Nat) (j : Nat) (hj : j < 49) (x : Nat) (hx9 : x < 2 ^ 20) (hsh : sh j = nI x) (i : Int32) : ar_M l yX1_hasElement cX1_hasElement 2 (some .boolean) 3 60 D ct (xL ad ct) [.ref (ad (6 + j)), .int i] (sc, sg, sh, el, nf, lr) (fun v9 u9 => v9 = some (.int (bI (zHas i (zCt x)))) ∧ u9 = (sc, sg, sh, el, nf, lr)) (fun _ _ => False) := by
  refine ar_ofW hl9 (by decide) (Nat.le_of_ble_eq_true rfl) ?_
  intro p e s m below meth c A ls C hr hnm hW hl
  have hx := C.1
  have hb := C.2.1
  have hown := C.2.2.2.1
  have hts := C.2.2.2.2.1
  have hl : lv_has ls 2 [(0, .ref (ad (6 + j))), (1, .int i)] := hl
  refine lv_iload_n hx hb dX1_hasElement_0 rfl (lv_at hl 1 rfl) ?_
  refine lv_if_lt (tgt := 16) hx hb dX1_hasElement_1 (by decide) (fun h1 => ?_) (fun h1 => ?_)
  · skip
    refine lv_iconst (v := nI 0) hx hb dX1_hasElement_16 (by decide) ?_
    exact ar_zret C hr (nI_z0.1) hW dX1_hasElement_17 (⟨congrArg (fun z => some (Value.int z)) (bI_f (by simp only [zHas, decide_eq_true_eq, decide_eq_false_iff_not]; first | exact ⟨Int32.not_lt.mp h1, Int32.not_le.mp h2⟩ | exact (fun q => absurd q.2 (Int32.not_lt.mpr h2)) | exact (fun q => absurd q.1 (Int32.not_le.mpr h1)))), rfl⟩)
  · skip
    refine lv_iload_n hx hb dX1_hasElement_4 rfl (lv_at hl 1 rfl) ?_
    refine lv_aload_n hx hb dX1_hasElement_5 rfl (lv_at hl 0 rfl) ?_
    refine ar_callV (As := []) (rest := [.int i]) C hW (c_X1_count hl9 sc sg sh el nf lr j (by omega) x (by omega) (hsh)) (xl_at (by omega) (xc_na (j := j) (by omega))) rfl q213 q214 q215 q2 q216 hd_X1_count ⟨Nat.le_of_ble_eq_true rfl, Nat.le_of_ble_eq_true rfl⟩ hl.1 (Nat.le_of_ble_eq_true rfl) rfl dX1_hasElement_6 (fun _ _ _ _ _ _ hp => hp.elim) (fun v9 u9 H locs hp hW => ?_)
    obtain ⟨rfl, hu9⟩ := hp
    rw [hu9] at hW
    refine W.eq (g2 := F0 m 9 ls [.int (nI (zCt x)), .int i]) rfl ?_
    refine lv_icmp_ge (tgt := 16) hx hb dX1_hasElement_9 (by decide) (fun h2 => ?_) (fun h2 => ?_)
    · skip
      refine lv_iconst (v := nI 0) hx hb dX1_hasElement_16 (by decide) ?_
      exact ar_zret C hr (nI_z0.1) hW dX1_hasElement_17 (⟨congrArg (fun z => some (Value.int z)) (bI_f (by simp only [zHas, decide_eq_true_eq, decide_eq_false_iff_not]; first | exact ⟨Int32.not_lt.mp h1, Int32.not_le.mp h2⟩ | exact (fun q => absurd q.2 (Int32.not_lt.mpr h2)) | exact (fun q => absurd q.1 (Int32.not_le.mpr h1)))), rfl⟩)
    · skip
      refine lv_iconst (v := nI 1) hx hb dX1_hasElement_12 (by decide) ?_
      refine lv_goto (tgt := 17) hx hb dX1_hasElement_13 (by decide) ?_
      exact ar_zret C hr (nI_z1.1) hW dX1_hasElement_17 (⟨congrArg (fun z => some (Value.int z)) (bI_t (by simp only [zHas, decide_eq_true_eq, decide_eq_false_iff_not]; first | exact ⟨Int32.not_lt.mp h1, Int32.not_le.mp h2⟩ | exact (fun q => absurd q.2 (Int32.not_lt.mpr h2)) | exact (fun q => absurd q.1 (Int32.not_le.mpr h1)))), rfl⟩)
theorem va_up_id {α : Type} (f : Nat → α) (k : Nat) : va_up f k (f k) = f := by
  funext i
  unfold va_up
  by_cases h : i = k
  · rw [if_pos h, h]
  · rw [if_neg h]
def zZ (f : Nat → UInt64) : Nat → UInt64 := fun i => if i < 24 then FP.dconst0 else f i
def zCp (f g : Nat → UInt64) : Nat → UInt64 := fun i => if i < 24 then g i else f i
theorem hd_X1_becomeZeros : yX1_becomeZeros.cls ≠ "java/lang/invoke/MethodHandle" ∧ yX1_becomeZeros.cls ≠ "java/lang/invoke/VarHandle" ∧ (parseMethodDescriptor yX1_becomeZeros.desc).map (fun d => d.parameters.length) = some 1 := by decide +kernel
set_option maxHeartbeats 4000000 in
set_option maxRecDepth 100000 in
theorem c_X1_becomeZeros {l : Launch} (hl9 : l.stackTraces = false) {D : va_G} {ct : Nat → ClassId} {ad : Nat → Nat} (sc sg sh : Nat → Int32) (el : Nat → Nat → UInt64) (nf : Nat → Nat → Int32) (lr : Nat → Nat → Option Nat) (j : Nat) (hj : j < 49) (x : Int32) : ar_M l yX1_becomeZeros cX1_becomeZeros 3 none 0 0 D ct (xL ad ct) [.ref (ad (6 + j)), .int x] (sc, sg, sh, el, nf, lr) (fun v9 u9 => v9 = none ∧ u9 = (sc, sg, va_up sh j x, va_up el j (zZ (el j)), nf, lr)) (fun _ _ => False) := by
  refine ar_ofW hl9 (by decide) (Nat.le_of_ble_eq_true rfl) ?_
  intro p e s m below meth c A ls C hr hnm hW hl
  have hx := C.1
  have hb := C.2.1
  have hown := C.2.2.2.1
  have hts := C.2.2.2.2.1
  have hl : lv_has ls 3 [(0, .ref (ad (6 + j))), (1, .int x)] := hl
  refine lv_aload_n hx hb dX1_becomeZeros_0 rfl (lv_at hl 0 rfl) ?_
  refine lv_iload_n hx hb dX1_becomeZeros_1 rfl (lv_at hl 1 rfl) ?_
  refine xp_shape (j := j) C hW q36 (by omega) dX1_becomeZeros_2 (fun H locs hW => ?_)
  refine lv_iconst (v := nI 0) hx hb dX1_becomeZeros_5 (by decide) ?_
  refine lv_istore_n (lv' := [(2, .int (nI 0)), (0, .ref (ad (6 + j))), (1, .int x)]) hx hb dX1_becomeZeros_6 rfl hl (by decide) rfl (fun ls hl => ?_)
  have lp : ∀ (N9 : Nat) (k : Nat) (f : Nat → UInt64) (H : Heap) (locs : List Loc) (ls : Array Slot), 24 - k < N9 → (k ≤ 24) → (∀ i, f i = if i < k then FP.dconst0 else el j i) → ar_W D A s.heap H locs (xL ad ct (sc, sg, va_up sh j x, va_up el j f, nf, lr)) → lv_has ls 3 [(0, .ref (ad (6 + j))), (1, .int x), (2, .int (nI k))] → W p l e (ar_rm 0 0) s m [.ref (ad (6 + j)), .int x].toArray below meth c H locs 0 0 (ar_E below (ar_Q D ct (xL ad ct) A (fun v9 u9 => v9 = none ∧ u9 = (sc, sg, va_up sh j x, va_up el j (zZ (el j)), nf, lr)) (fun _ _ => False)) [.ref (ad (6 + j)), .int x].toArray s) (F0 m 7 ls []) := by
    intro N9
    induction N9 with
    | zero =>
      intro k f H locs ls hN9
      exact absurd hN9 (Nat.not_lt_zero _)
    | succ N9 ihlp =>
      intro k f H locs ls hN9 hk hf hW hl
      refine lv_iload_n hx hb dX1_becomeZeros_7 rfl (lv_at hl 2 rfl) ?_
      refine lv_bipush (v := nI 24) hx hb dX1_becomeZeros_8 (by decide) ?_
      refine ln_icmp_ge (tgt := 26) hx hb dX1_becomeZeros_10 (by decide) (by omega) (by omega) (fun h1 => ?_) (fun h1 => ?_)
      · skip
        exact ar_vret C hr hW dX1_becomeZeros_26 (⟨rfl, by rw [show f = zZ (el j) from funext fun i => by rw [hf i, show k = 24 by omega]; rfl]⟩)
      · skip
        refine lv_aload_n hx hb dX1_becomeZeros_13 rfl (lv_at hl 0 rfl) ?_
        refine xg_elements (j := j) C hW q41 (by omega) dX1_becomeZeros_14 ?_
        refine lv_iload_n hx hb dX1_becomeZeros_17 rfl (lv_at hl 2 rfl) ?_
        refine lv_dconst0 hx hb dX1_becomeZeros_18 ?_
        refine xs_elements (j := j) (i := k) C hW (by omega) (by omega) dX1_becomeZeros_19 (fun H locs hW => ?_)
        simp only [bx_uu, va_up_self] at hW
        refine ln_iinc (k := 2) (n := 1) (lv' := [(2, .int (nI (k + 1))), (0, .ref (ad (6 + j))), (1, .int x)]) hx hb dX1_becomeZeros_20 hl rfl (by decide) rfl (fun ls hl => ?_)
        refine lv_goto (tgt := 7) hx hb dX1_becomeZeros_23 (by decide) ?_
        exact ihlp (k + 1) (va_up f k FP.dconst0) _ _ _ (by omega) (by omega) (fill_s (g := fun _ => FP.dconst0) hf) (hW) (lv_sub hl [1, 2, 0] rfl)
  exact lp _ 0 (el j) _ _ _ (Nat.lt_succ_self _) (by omega) (fill_0) (by rw [va_up_id]; exact hW) (lv_sub hl [1, 2, 0] rfl)
theorem hd_X1_becomeCopy : yX1_becomeCopy.cls ≠ "java/lang/invoke/MethodHandle" ∧ yX1_becomeCopy.cls ≠ "java/lang/invoke/VarHandle" ∧ (parseMethodDescriptor yX1_becomeCopy.desc).map (fun d => d.parameters.length) = some 1 := by decide +kernel
set_option maxHeartbeats 4000000 in
set_option maxRecDepth 100000 in
theorem c_X1_becomeCopy {l : Launch} (hl9 : l.stackTraces = false) {D : va_G} {ct : Nat → ClassId} {ad : Nat → Nat} (sc sg sh : Nat → Int32) (el : Nat → Nat → UInt64) (nf : Nat → Nat → Int32) (lr : Nat → Nat → Option Nat) (j i : Nat) (hj : j < 49) (hi : i < 49) (hne : i ≠ j) : ar_M l yX1_becomeCopy cX1_becomeCopy 3 none 0 0 D ct (xL ad ct) [.ref (ad (6 + j)), .ref (ad (6 + i))] (sc, sg, sh, el, nf, lr) (fun v9 u9 => v9 = none ∧ u9 = (sc, sg, va_up sh j (sh i), va_up el j (zCp (el j) (el i)), nf, lr)) (fun _ _ => False) := by
  refine ar_ofW hl9 (by decide) (Nat.le_of_ble_eq_true rfl) ?_
  intro p e s m below meth c A ls C hr hnm hW hl
  have hx := C.1
  have hb := C.2.1
  have hown := C.2.2.2.1
  have hts := C.2.2.2.2.1
  have hl : lv_has ls 3 [(0, .ref (ad (6 + j))), (1, .ref (ad (6 + i)))] := hl
  refine lv_aload_n hx hb dX1_becomeCopy_0 rfl (lv_at hl 0 rfl) ?_
  refine lv_aload_n hx hb dX1_becomeCopy_1 rfl (lv_at hl 1 rfl) ?_
  refine xg_shape (j := i) C hW q36 (by omega) dX1_becomeCopy_2 ?_
  refine xp_shape (j := j) C hW q36 (by omega) dX1_becomeCopy_5 (fun H locs hW => ?_)
  refine lv_iconst (v := nI 0) hx hb dX1_becomeCopy_8 (by decide) ?_
  refine lv_istore_n (lv' := [(2, .int (nI 0)), (0, .ref (ad (6 + j))), (1, .ref (ad (6 + i)))]) hx hb dX1_becomeCopy_9 rfl hl (by decide) rfl (fun ls hl => ?_)
  have lp : ∀ (N9 : Nat) (k : Nat) (f : Nat → UInt64) (H : Heap) (locs : List Loc) (ls : Array Slot), 24 - k < N9 → (k ≤ 24) → (∀ z, f z = if z < k then el i z else el j z) → ar_W D A s.heap H locs (xL ad ct (sc, sg, va_up sh j (sh i), va_up el j f, nf, lr)) → lv_has ls 3 [(0, .ref (ad (6 + j))), (1, .ref (ad (6 + i))), (2, .int (nI k))] → W p l e (ar_rm 0 0) s m [.ref (ad (6 + j)), .ref (ad (6 + i))].toArray below meth c H locs 0 0 (ar_E below (ar_Q D ct (xL ad ct) A (fun v9 u9 => v9 = none ∧ u9 = (sc, sg, va_up sh j (sh i), va_up el j (zCp (el j) (el i)), nf, lr)) (fun _ _ => False)) [.ref (ad (6 + j)), .ref (ad (6 + i))].toArray s) (F0 m 10 ls []) := by
    intro N9
    induction N9 with
    | zero =>
      intro k f H locs ls hN9
      exact absurd hN9 (Nat.not_lt_zero _)
    | succ N9 ihlp =>
      intro k f H locs ls hN9 hk hf hW hl
      refine lv_iload_n hx hb dX1_becomeCopy_10 rfl (lv_at hl 2 rfl) ?_
      refine lv_bipush (v := nI 24) hx hb dX1_becomeCopy_11 (by decide) ?_
      refine ln_icmp_ge (tgt := 34) hx hb dX1_becomeCopy_13 (by decide) (by omega) (by omega) (fun h1 => ?_) (fun h1 => ?_)
      · skip
        exact ar_vret C hr hW dX1_becomeCopy_34 (⟨rfl, by rw [show f = zCp (el j) (el i) from funext fun z => by rw [hf z, show k = 24 by omega]; rfl]⟩)
      · skip
        refine lv_aload_n hx hb dX1_becomeCopy_16 rfl (lv_at hl 0 rfl) ?_
        refine xg_elements (j := j) C hW q41 (by omega) dX1_becomeCopy_17 ?_
        refine lv_iload_n hx hb dX1_becomeCopy_20 rfl (lv_at hl 2 rfl) ?_
        refine lv_aload_n hx hb dX1_becomeCopy_21 rfl (lv_at hl 1 rfl) ?_
        refine xg_elements (j := i) C hW q41 (by omega) dX1_becomeCopy_22 ?_
        refine lv_iload_n hx hb dX1_becomeCopy_25 rfl (lv_at hl 2 rfl) ?_
        refine xl_elements (j := i) (i := k) C hW (by omega) (by omega) dX1_becomeCopy_26 ?_
        rw [va_up_ne _ _ (by omega)]
        refine xs_elements (j := j) (i := k) C hW (by omega) (by omega) dX1_becomeCopy_27 (fun H locs hW => ?_)
        simp only [bx_uu, va_up_self] at hW
        refine ln_iinc (k := 2) (n := 1) (lv' := [(2, .int (nI (k + 1))), (0, .ref (ad (6 + j))), (1, .ref (ad (6 + i)))]) hx hb dX1_becomeCopy_28 hl rfl (by decide) rfl (fun ls hl => ?_)
        refine lv_goto (tgt := 10) hx hb dX1_becomeCopy_31 (by decide) ?_
        exact ihlp (k + 1) (va_up f k (el i k)) _ _ _ (by omega) (by omega) (fill_s hf) (hW) (lv_sub hl [1, 2, 0] rfl)
  exact lp _ 0 (el j) _ _ _ (Nat.lt_succ_self _) (by omega) (fill_0) (by rw [va_up_id]; exact hW) (lv_sub hl [1, 2, 0] rfl)
end
section
/-- character k of a long -/
def zBy (x : Int64) (k : Nat) : Nat := x.toBitVec.toNat / 2 ^ (8 * k) % 256
theorem zBy_lt (x : Int64) (k : Nat) : zBy x k < 256 := Nat.mod_lt _ (by decide)
theorem zBy_t (y : Int64) : y.toInt32.toBitVec.toNat = y.toBitVec.toNat % 2 ^ 32 := by
  show (y.toBitVec.signExtend 32).toNat = _
  rw [BitVec.signExtend_eq_setWidth_of_le _ (by decide), BitVec.toNat_setWidth]
theorem zBy_l (x : Int64) (k : Nat) (hk : k < 8) : (x.toUInt64 >>> ((nI (8 * k)).toInt64.toUInt64 &&& Int64.toUInt64 63)).toInt64.toInt32 &&& nI 255 = nI (zBy x k) := by
  rw [pk_and _ 8 (by decide)]
  have e : ((nI (8 * k)).toInt64.toUInt64 &&& Int64.toUInt64 63).toNat = 8 * k := by
    rcases (show k = 0 ∨ k = 1 ∨ k = 2 ∨ k = 3 ∨ k = 4 ∨ k = 5 ∨ k = 6 ∨ k = 7 by omega) with rfl | rfl | rfl | rfl | rfl | rfl | rfl | rfl <;> decide
  have h1 : (x.toUInt64 >>> ((nI (8 * k)).toInt64.toUInt64 &&& Int64.toUInt64 63)).toNat = x.toBitVec.toNat / 2 ^ (8 * k) := by
    rw [UInt64.toNat_shiftRight, e, Nat.mod_eq_of_lt (by omega), Nat.shiftRight_eq_div_pow]
    rfl
  have h2 : (x.toUInt64 >>> ((nI (8 * k)).toInt64.toUInt64 &&& Int64.toUInt64 63)).toInt64.toInt32.toBitVec.toNat = x.toBitVec.toNat / 2 ^ (8 * k) % 2 ^ 32 := by
    rw [← h1, zBy_t]
    rfl
  rw [h2, zBy]
  congr 1
  omega
theorem zBy_s (x : BitVec 64) (n : Nat) (hn : n + 8 ≤ 64) : (x.sshiftRight n).toNat % 256 = x.toNat / 2 ^ n % 256 := by
  have h : (x.sshiftRight n).setWidth 8 = (x >>> n).setWidth 8 := by
    apply BitVec.eq_of_getLsbD_eq
    intro i hi
    rw [BitVec.getLsbD_setWidth, BitVec.getLsbD_setWidth, BitVec.getLsbD_sshiftRight, BitVec.getLsbD_ushiftRight]
    have h1 : n + i < 64 := by omega
    have h2 : ¬ 64 ≤ i := by omega
    simp [h1, h2, hi]
  have h3 := congrArg BitVec.toNat h
  rw [BitVec.toNat_setWidth, BitVec.toNat_setWidth, BitVec.toNat_ushiftRight, Nat.shiftRight_eq_div_pow] at h3
  exact h3
theorem zBy_e (x : Int64) (k : Nat) (hk : k < 8) : (x >>> ((nI (8 * k)).toInt64 &&& 63)).toInt32.toBitVec.toNat % 256 = zBy x k := by
  have e : (((nI (8 * k)).toInt64 &&& 63).toBitVec.smod 64).toNat = 8 * k := by
    rcases (show k = 0 ∨ k = 1 ∨ k = 2 ∨ k = 3 ∨ k = 4 ∨ k = 5 ∨ k = 6 ∨ k = 7 by omega) with rfl | rfl | rfl | rfl | rfl | rfl | rfl | rfl <;> decide
  have h1 : (x >>> ((nI (8 * k)).toInt64 &&& 63)).toBitVec = x.toBitVec.sshiftRight (8 * k) := by
    show x.toBitVec.sshiftRight' _ = _
    rw [BitVec.sshiftRight', e]
  have h2 : (x >>> ((nI (8 * k)).toInt64 &&& 63)).toInt32.toBitVec.toNat = (x.toBitVec.sshiftRight (8 * k)).toNat % 2 ^ 32 := by
    rw [← h1, zBy_t]
  rw [h2, zBy, ← zBy_s _ _ (by omega)]
  omega
theorem zBy_a (x : Int64) (k : Nat) (hk : k < 8) : (x >>> ((nI (8 * k)).toInt64 &&& 63)).toInt32 &&& nI 255 = nI (zBy x k) := by
  rw [pk_and _ 8 (by decide), zBy_e x k hk]
theorem zBy_b (x : Int64) (k : Nat) (hk : k < 8) (h : zBy x k ≤ 127) : (x >>> ((nI (8 * k)).toInt64 &&& 63)).toInt32 &&& nI 127 = nI (zBy x k) := by
  rw [pk_and _ 7 (by decide)]
  have := zBy_e x k hk
  congr 1
  omega
/-- the character at a place of the text, 0 behind its end -/
def zCh (tx : Nat → Nat) (n q : Nat) : Nat := if q < n then tx q else 0
theorem zCh_in {tx : Nat → Nat} {n q : Nat} (h : q < n) : zCh tx n q = tx q := if_pos h
theorem zCh_out {tx : Nat → Nat} {n q : Nat} (h : n ≤ q) : zCh tx n q = 0 := if_neg (by omega)
theorem zCh_lt {tx : Nat → Nat} {n q : Nat} (h : ∀ j, j < n → 1 ≤ tx j ∧ tx j ≤ 127) : zCh tx n q ≤ 127 := by
  unfold zCh
  split
  · exact (h q (by assumption)).2
  · omega
theorem zCh_pos {tx : Nat → Nat} {n q : Nat} (h : zCh tx n q ≠ 0) : q < n := by
  unfold zCh at h
  split at h
  · assumption
  · exact absurd rfl h
/-- how many characters a long has, from k on with room f; none: one is too high -/
def zCn (x : Int64) : Nat → Nat → Option Nat
  | 0, k => some k
  | f + 1, k => if zBy x k = 0 then some k else if 127 < zBy x k then none else zCn x f (k + 1)
end
section
def zCnI (o : Option Nat) : Int32 := match o with
  | none => -1
  | some k => nI k
theorem zCn_s {x : Int64} {k : Nat} (hk : k < 8) : zCn x (8 - k) k = if zBy x k = 0 then some k else if 127 < zBy x k then none else zCn x (8 - (k + 1)) (k + 1) := by
  obtain ⟨f, hf⟩ : ∃ f, 8 - k = f + 1 := ⟨7 - k, by omega⟩
  rw [hf, show 8 - (k + 1) = f by omega, zCn]
theorem zCn_ok {x : Int64} : ∀ (f k c : Nat), zCn x f k = some c → k ≤ c ∧ c ≤ k + f ∧ ∀ i, k ≤ i → i < c → 1 ≤ zBy x i ∧ zBy x i ≤ 127 := by
  intro f
  induction f with
  | zero =>
    intro k c h
    cases h
    exact ⟨Nat.le_refl _, Nat.le_refl _, fun i h1 h2 => by omega⟩
  | succ f ih =>
    intro k c h
    rw [zCn] at h
    split at h
    · cases h
      exact ⟨Nat.le_refl _, by omega, fun i h1 h2 => by omega⟩
    · split at h
      · cases h
      · obtain ⟨h1, h2, h3⟩ := ih (k + 1) c h
        refine ⟨by omega, by omega, fun i h4 h5 => ?_⟩
        by_cases h6 : i = k
        · subst h6
          omega
        · exact h3 i (by omega) h5
def zWr (x : Int64) (n : Nat) : Option Nat := match zCn x 8 0 with
  | none => none
  | some c => if n + c ≤ 40 then some c else none
def zAp (f : Nat → Int32) (x : Int64) (n c : Nat) : Nat → Int32 := fun i => if n ≤ i ∧ i < n + c then nI (zBy x (i - n)) else f i
theorem zAp_s {f g : Nat → Int32} {x : Int64} {n k : Nat} (hf : f = zAp g x n k) : va_up f (n + k) (nI (zBy x k)) = zAp g x n (k + 1) := by
  funext i
  rw [hf]
  unfold va_up zAp
  by_cases h : i = n + k
  · rw [if_pos h, if_pos (by omega), h, Nat.add_sub_cancel_left]
  · rw [if_neg h]
    by_cases h2 : n ≤ i ∧ i < n + k
    · rw [if_pos h2, if_pos (by omega)]
    · rw [if_neg h2, if_neg (by omega)]
theorem zAp_0 {f : Nat → Int32} {x : Int64} {n : Nat} : f = zAp f x n 0 := by
  funext i
  unfold zAp
  rw [if_neg (by omega)]
theorem i2c_nI {a : Nat} (h : a < 65536) : ((nI a).toUInt32 % 65536).toInt32 = nI a := by
  rw [pk_char, pk_tn (by omega), Nat.mod_eq_of_lt h]
theorem nar_nI {a : Nat} (h : a < 65536) : vp_nar .char (nI a) = nI a := by
  have := (pk_charN h).1
  unfold vp_nar
  rw [this]
theorem va_up_s {α : Type} {f : Nat → α} {k : Nat} {v : α} (h : f k = v) : va_up f k v = f := by rw [← h, va_up_id]
theorem hd_X5_startReading : yX5_startReading.cls ≠ "java/lang/invoke/MethodHandle" ∧ yX5_startReading.cls ≠ "java/lang/invoke/VarHandle" ∧ (parseMethodDescriptor yX5_startReading.desc).map (fun d => d.parameters.length) = some 0 := by decide +kernel
set_option maxHeartbeats 4000000 in
set_option maxRecDepth 100000 in
theorem c_X5_startReading {l : Launch} (hl9 : l.stackTraces = false) {D : va_G} {ct : Nat → ClassId} {ad : Nat → Nat} (sc sg sh : Nat → Int32) (el : Nat → Nat → UInt64) (nf : Nat → Nat → Int32) (lr : Nat → Nat → Option Nat)  : ar_M l yX5_startReading cX5_startReading 1 none 0 0 D ct (xL ad ct) [.ref (ad 2)] (sc, sg, sh, el, nf, lr) (fun v9 u9 => v9 = none ∧ u9 = (va_up sc 3 (nI 0), sg, sh, el, nf, lr)) (fun _ _ => False) := by
  refine ar_ofW hl9 (by decide) (Nat.le_of_ble_eq_true rfl) ?_
  intro p e s m below meth c A ls C hr hnm hW hl
  have hx := C.1
  have hb := C.2.1
  have hown := C.2.2.2.1
  have hts := C.2.2.2.2.1
  have hl : lv_has ls 1 [(0, .ref (ad 2))] := hl
  refine lv_aload_n hx hb dX5_startReading_0 rfl (lv_at hl 0 rfl) ?_
  refine lv_iconst (v := nI 0) hx hb dX5_startReading_1 (by decide) ?_
  refine xp_place C hW q60 dX5_startReading_2 (fun H locs hW => ?_)
  exact ar_vret C hr hW dX5_startReading_5 (⟨rfl, rfl⟩)
theorem hd_X5_clear : yX5_clear.cls ≠ "java/lang/invoke/MethodHandle" ∧ yX5_clear.cls ≠ "java/lang/invoke/VarHandle" ∧ (parseMethodDescriptor yX5_clear.desc).map (fun d => d.parameters.length) = some 0 := by decide +kernel
set_option maxHeartbeats 4000000 in
set_option maxRecDepth 100000 in
theorem c_X5_clear {l : Launch} (hl9 : l.stackTraces = false) {D : va_G} {ct : Nat → ClassId} {ad : Nat → Nat} (sc sg sh : Nat → Int32) (el : Nat → Nat → UInt64) (nf : Nat → Nat → Int32) (lr : Nat → Nat → Option Nat) (n : Nat) (hlen : sc 2 = nI n) : ar_M l yX5_clear cX5_clear 2 (some .int) 0 0 D ct (xL ad ct) [.ref (ad 2)] (sc, sg, sh, el, nf, lr) (fun v9 u9 => v9 = some (.int (nI n)) ∧ u9 = (va_up sc 2 (nI 0), sg, sh, el, nf, lr)) (fun _ _ => False) := by
  refine ar_ofW hl9 (by decide) (Nat.le_of_ble_eq_true rfl) ?_
  intro p e s m below meth c A ls C hr hnm hW hl
  have hx := C.1
  have hb := C.2.1
  have hown := C.2.2.2.1
  have hts := C.2.2.2.2.1
  have hl : lv_has ls 2 [(0, .ref (ad 2))] := hl
  refine lv_aload_n hx hb dX5_clear_0 rfl (lv_at hl 0 rfl) ?_
  refine xg_length C hW q59 dX5_clear_1 ?_
  refine ln_top (hlen) ?_
  refine lv_istore_n (lv' := [(1, .int (nI n)), (0, .ref (ad 2))]) hx hb dX5_clear_4 rfl hl (by decide) rfl (fun ls hl => ?_)
  refine lv_aload_n hx hb dX5_clear_5 rfl (lv_at hl 1 rfl) ?_
  refine lv_iconst (v := nI 0) hx hb dX5_clear_6 (by decide) ?_
  refine xp_length C hW q59 dX5_clear_7 (fun H locs hW => ?_)
  refine lv_iload_n hx hb dX5_clear_10 rfl (lv_at hl 0 rfl) ?_
  exact ar_iret C hr hW dX5_clear_11 (⟨rfl, rfl⟩)
theorem hd_X5_next : yX5_next.cls ≠ "java/lang/invoke/MethodHandle" ∧ yX5_next.cls ≠ "java/lang/invoke/VarHandle" ∧ (parseMethodDescriptor yX5_next.desc).map (fun d => d.parameters.length) = some 0 := by decide +kernel
set_option maxHeartbeats 4000000 in
set_option maxRecDepth 100000 in
theorem c_X5_next {l : Launch} (hl9 : l.stackTraces = false) {D : va_G} {ct : Nat → ClassId} {ad : Nat → Nat} (sc sg sh : Nat → Int32) (el : Nat → Nat → UInt64) (nf : Nat → Nat → Int32) (lr : Nat → Nat → Option Nat) (n q : Nat) (tx : Nat → Nat) (hn : n ≤ 40) (hlen : sc 2 = nI n) (hq : q ≤ n) (hpl : sc 3 = nI q) (htx : ∀ j, j < n → sg j = nI (tx j)) (hcx : ∀ j, j < n → 1 ≤ tx j ∧ tx j ≤ 127) : ar_M l yX5_next cX5_next 1 (some .char) 0 0 D ct (xL ad ct) [.ref (ad 2)] (sc, sg, sh, el, nf, lr) (fun v9 u9 => v9 = some (.int (nI (zCh tx n q))) ∧ u9 = (sc, sg, sh, el, nf, lr)) (fun _ _ => False) := by
  refine ar_ofW hl9 (by decide) (Nat.le_of_ble_eq_true rfl) ?_
  intro p e s m below meth c A ls C hr hnm hW hl
  have hx := C.1
  have hb := C.2.1
  have hown := C.2.2.2.1
  have hts := C.2.2.2.2.1
  have hl : lv_has ls 1 [(0, .ref (ad 2))] := hl
  refine lv_aload_n hx hb dX5_next_0 rfl (lv_at hl 0 rfl) ?_
  refine xg_place C hW q60 dX5_next_1 ?_
  refine ln_top (hpl) ?_
  refine lv_aload_n hx hb dX5_next_4 rfl (lv_at hl 0 rfl) ?_
  refine xg_length C hW q59 dX5_next_5 ?_
  refine ln_top (hlen) ?_
  refine ln_icmp_ge (tgt := 23) hx hb dX5_next_8 (by decide) (by omega) (by omega) (fun h1 => ?_) (fun h1 => ?_)
  · skip
    refine lv_iconst (v := nI 0) hx hb dX5_next_23 (by decide) ?_
    exact ar_zret C hr ((pk_charN (by first | decide | (have := hcx q (by omega); omega))).1) hW dX5_next_24 (⟨congrArg (fun z => some (Value.int (nI z))) ((zCh_out h1).symm), rfl⟩)
  · skip
    refine lv_aload_n hx hb dX5_next_11 rfl (lv_at hl 0 rfl) ?_
    refine xg_signs C hW q58 dX5_next_12 ?_
    refine lv_aload_n hx hb dX5_next_15 rfl (lv_at hl 0 rfl) ?_
    refine xg_place C hW q60 dX5_next_16 ?_
    refine ln_top (hpl) ?_
    refine xl_signs (j := q) C hW (by omega) dX5_next_19 ?_
    refine ln_top (htx q (by omega)) ?_
    refine lv_goto (tgt := 24) hx hb dX5_next_20 (by decide) ?_
    exact ar_zret C hr ((pk_charN (by first | decide | (have := hcx q (by omega); omega))).1) hW dX5_next_24 (⟨congrArg (fun z => some (Value.int (nI z))) ((zCh_in h1).symm), rfl⟩)
theorem hd_X5_pass : yX5_pass.cls ≠ "java/lang/invoke/MethodHandle" ∧ yX5_pass.cls ≠ "java/lang/invoke/VarHandle" ∧ (parseMethodDescriptor yX5_pass.desc).map (fun d => d.parameters.length) = some 0 := by decide +kernel
set_option maxHeartbeats 4000000 in
set_option maxRecDepth 100000 in
theorem c_X5_pass {l : Launch} (hl9 : l.stackTraces = false) {D : va_G} {ct : Nat → ClassId} {ad : Nat → Nat} (sc sg sh : Nat → Int32) (el : Nat → Nat → UInt64) (nf : Nat → Nat → Int32) (lr : Nat → Nat → Option Nat) (n q : Nat) (hn : n ≤ 40) (hlen : sc 2 = nI n) (hq : q ≤ n) (hpl : sc 3 = nI q) : ar_M l yX5_pass cX5_pass 1 none 0 0 D ct (xL ad ct) [.ref (ad 2)] (sc, sg, sh, el, nf, lr) (fun v9 u9 => v9 = none ∧ u9 = (va_up sc 3 (nI (if q < n then q + 1 else q)), sg, sh, el, nf, lr)) (fun _ _ => False) := by
  refine ar_ofW hl9 (by decide) (Nat.le_of_ble_eq_true rfl) ?_
  intro p e s m below meth c A ls C hr hnm hW hl
  have hx := C.1
  have hb := C.2.1
  have hown := C.2.2.2.1
  have hts := C.2.2.2.2.1
  have hl : lv_has ls 1 [(0, .ref (ad 2))] := hl
  refine lv_aload_n hx hb dX5_pass_0 rfl (lv_at hl 0 rfl) ?_
  refine xg_place C hW q60 dX5_pass_1 ?_
  refine ln_top (hpl) ?_
  refine lv_aload_n hx hb dX5_pass_4 rfl (lv_at hl 0 rfl) ?_
  refine xg_length C hW q59 dX5_pass_5 ?_
  refine ln_top (hlen) ?_
  refine ln_icmp_ge (tgt := 21) hx hb dX5_pass_8 (by decide) (by omega) (by omega) (fun h1 => ?_) (fun h1 => ?_)
  · skip
    exact ar_vret C hr hW dX5_pass_21 (⟨rfl, by rw [if_neg (by omega), va_up_s hpl]⟩)
  · skip
    refine lv_aload_n hx hb dX5_pass_11 rfl (lv_at hl 0 rfl) ?_
    refine lv_dup hx hb dX5_pass_12 rfl ?_
    refine xg_place C hW q60 dX5_pass_13 ?_
    refine ln_top (hpl) ?_
    refine lv_iconst (v := nI 1) hx hb dX5_pass_16 (by decide) ?_
    refine ln_iadd hx hb dX5_pass_17 ?_
    refine xp_place C hW q60 dX5_pass_18 (fun H locs hW => ?_)
    exact ar_vret C hr hW dX5_pass_21 (⟨rfl, by rw [if_pos h1]⟩)
theorem hd_X5_passIfNext : yX5_passIfNext.cls ≠ "java/lang/invoke/MethodHandle" ∧ yX5_passIfNext.cls ≠ "java/lang/invoke/VarHandle" ∧ (parseMethodDescriptor yX5_passIfNext.desc).map (fun d => d.parameters.length) = some 1 := by decide +kernel
set_option maxHeartbeats 4000000 in
set_option maxRecDepth 100000 in
theorem c_X5_passIfNext {l : Launch} (hl9 : l.stackTraces = false) {D : va_G} {ct : Nat → ClassId} {ad : Nat → Nat} (sc sg sh : Nat → Int32) (el : Nat → Nat → UInt64) (nf : Nat → Nat → Int32) (lr : Nat → Nat → Option Nat) (n q : Nat) (tx : Nat → Nat) (hn : n ≤ 40) (hlen : sc 2 = nI n) (hq : q ≤ n) (hpl : sc 3 = nI q) (htx : ∀ j, j < n → sg j = nI (tx j)) (hcx : ∀ j, j < n → 1 ≤ tx j ∧ tx j ≤ 127) (ch : Nat) (h0 : 0 < ch) (hc9 : ch < 65536) : ar_M l yX5_passIfNext cX5_passIfNext 2 (some .boolean) 1 20 D ct (xL ad ct) [.ref (ad 2), .int (nI ch)] (sc, sg, sh, el, nf, lr) (fun v9 u9 => v9 = some (.int (bI (decide (zCh tx n q = ch)))) ∧ u9 = (va_up sc 3 (nI (if zCh tx n q = ch then q + 1 else q)), sg, sh, el, nf, lr)) (fun _ _ => False) := by
  refine ar_ofW hl9 (by decide) (Nat.le_of_ble_eq_true rfl) ?_
  intro p e s m below meth c A ls C hr hnm hW hl
  have hx := C.1
  have hb := C.2.1
  have hown := C.2.2.2.1
  have hts := C.2.2.2.2.1
  have hl : lv_has ls 2 [(0, .ref (ad 2)), (1, .int (nI ch))] := hl
  refine lv_aload_n hx hb dX5_passIfNext_0 rfl (lv_at hl 0 rfl) ?_
  refine ar_callV (As := []) (rest := []) C hW (c_X5_next hl9 sc sg sh el nf lr n q tx hn hlen hq hpl htx hcx) (xl_at (by decide) rfl) rfl q423 q402 q403 q3 q404 hd_X5_next ⟨Nat.le_of_ble_eq_true rfl, Nat.le_of_ble_eq_true rfl⟩ hl.1 (Nat.le_of_ble_eq_true rfl) rfl dX5_passIfNext_1 (fun _ _ _ _ _ _ hp => hp.elim) (fun v9 u9 H locs hp hW => ?_)
  obtain ⟨rfl, hu9⟩ := hp
  rw [hu9] at hW
  refine W.eq (g2 := F0 m 4 ls [.int (nI (zCh tx n q))]) rfl ?_
  refine lv_iload_n hx hb dX5_passIfNext_4 rfl (lv_at hl 1 rfl) ?_
  refine ln_icmp_eq (tgt := 10) hx hb dX5_passIfNext_5 (by decide) (by have := zCh_lt (q := q) hcx; omega) (by omega) (fun h1 => ?_) (fun h1 => ?_)
  · skip
    refine lv_aload_n hx hb dX5_passIfNext_10 rfl (lv_at hl 0 rfl) ?_
    refine ar_callV (As := []) (rest := []) C hW (c_X5_pass hl9 sc sg sh el nf lr n q hn hlen hq hpl) (xl_at (by decide) rfl) rfl q424 q409 q410 q3 q411 hd_X5_pass ⟨Nat.le_of_ble_eq_true rfl, Nat.le_of_ble_eq_true rfl⟩ hl.1 (Nat.le_of_ble_eq_true rfl) rfl dX5_passIfNext_11 (fun _ _ _ _ _ _ hp => hp.elim) (fun v9 u9 H locs hp hW => ?_)
    obtain ⟨rfl, hu9⟩ := hp
    rw [hu9] at hW
    refine W.eq (g2 := F0 m 14 ls []) rfl ?_
    refine lv_iconst (v := nI 1) hx hb dX5_passIfNext_14 (by decide) ?_
    exact ar_zret C hr (nI_z1.1) hW dX5_passIfNext_15 (⟨congrArg (fun z => some (Value.int z)) (bI_t (by simp [h1])), by rw [if_pos h1, if_pos (zCh_pos (by rw [h1]; omega))]⟩)
  · skip
    refine lv_iconst (v := nI 0) hx hb dX5_passIfNext_8 (by decide) ?_
    exact ar_zret C hr (nI_z0.1) hW dX5_passIfNext_9 (⟨congrArg (fun z => some (Value.int z)) (bI_f (by simp [h1])), by rw [if_neg h1, va_up_s hpl]⟩)
theorem hd_X5_signOf : yX5_signOf.cls ≠ "java/lang/invoke/MethodHandle" ∧ yX5_signOf.cls ≠ "java/lang/invoke/VarHandle" ∧ (parseMethodDescriptor yX5_signOf.desc).map (fun d => d.parameters.length) = some 2 := by decide +kernel
set_option maxHeartbeats 4000000 in
set_option maxRecDepth 100000 in
theorem c_X5_signOf {l : Launch} (hl9 : l.stackTraces = false) {D : va_G} {ct : Nat → ClassId} {S : Type} {wl : S → va_W} (u0 : S) (x : Int64) (k : Nat) (hk : k < 8) : ar_M l yX5_signOf cX5_signOf 3 (some .int) 0 0 D ct wl [.long x, .int (nI k)] u0 (fun v9 u9 => v9 = some (.int (nI (zBy x k))) ∧ u9 = u0) (fun _ _ => False) := by
  refine ar_ofW hl9 (by decide) (Nat.le_of_ble_eq_true rfl) ?_
  intro p e s m below meth c A ls C hr hnm hW hl
  have hx := C.1
  have hb := C.2.1
  have hown := C.2.2.2.1
  have hts := C.2.2.2.2.1
  have hl : lv_has ls 3 [(0, .long x), (2, .int (nI k))] := hl
  refine lv_lload_n hx hb dX5_signOf_0 rfl (lv_at hl 0 rfl) ?_
  refine lv_bipush (v := nI 8) hx hb dX5_signOf_1 (by decide) ?_
  refine lv_iload_n hx hb dX5_signOf_3 rfl (lv_at hl 1 rfl) ?_
  refine ln_imul hx hb dX5_signOf_4 ?_
  refine lv_lushr hx hb dX5_signOf_5 rfl ?_
  refine lv_l2i hx hb dX5_signOf_6 rfl ?_
  refine lv_sipush (v := nI 255) hx hb dX5_signOf_7 (by decide) ?_
  refine lv_iand hx hb dX5_signOf_10 ?_
  rw [zBy_l x k (by omega)]
  exact ar_iret C hr hW dX5_signOf_11 (⟨rfl, rfl⟩)
theorem hd_X5_signsIn : yX5_signsIn.cls ≠ "java/lang/invoke/MethodHandle" ∧ yX5_signsIn.cls ≠ "java/lang/invoke/VarHandle" ∧ (parseMethodDescriptor yX5_signsIn.desc).map (fun d => d.parameters.length) = some 1 := by decide +kernel
set_option maxHeartbeats 4000000 in
set_option maxRecDepth 100000 in
theorem c_X5_signsIn {l : Launch} (hl9 : l.stackTraces = false) {D : va_G} {ct : Nat → ClassId} {S : Type} {wl : S → va_W} (u0 : S) (x : Int64) : ar_M l yX5_signsIn cX5_signsIn 4 (some .int) 1 22 D ct wl [.long x] u0 (fun v9 u9 => v9 = some (.int (zCnI (zCn x 8 0))) ∧ u9 = u0) (fun _ _ => False) := by
  refine ar_ofW hl9 (by decide) (Nat.le_of_ble_eq_true rfl) ?_
  intro p e s m below meth c A ls C hr hnm hW hl
  have hx := C.1
  have hb := C.2.1
  have hown := C.2.2.2.1
  have hts := C.2.2.2.2.1
  have hl : lv_has ls 4 [(0, .long x)] := hl
  refine lv_iconst (v := nI 0) hx hb dX5_signsIn_0 (by decide) ?_
  refine lv_istore_n (lv' := [(2, .int (nI 0)), (0, .long x)]) hx hb dX5_signsIn_1 rfl hl (by decide) rfl (fun ls hl => ?_)
  have lp : ∀ (N9 : Nat) (k : Nat) (H : Heap) (locs : List Loc) (ls : Array Slot), 8 - k < N9 → (k ≤ 8) → (zCn x 8 0 = zCn x (8 - k) k) → ar_W D A s.heap H locs (wl u0) → lv_has ls 4 [(0, .long x), (2, .int (nI k))] → W p l e (ar_rm 1 22) s m [.long x].toArray below meth c H locs 0 0 (ar_E below (ar_Q D ct (wl) A (fun v9 u9 => v9 = some (.int (zCnI (zCn x 8 0))) ∧ u9 = u0) (fun _ _ => False)) [.long x].toArray s) (F0 m 2 ls []) := by
    intro N9
    induction N9 with
    | zero =>
      intro k H locs ls hN9
      exact absurd hN9 (Nat.not_lt_zero _)
    | succ N9 ihlp =>
      intro k H locs ls hN9 hk hc hW hl
      refine lv_iload_n hx hb dX5_signsIn_2 rfl (lv_at hl 1 rfl) ?_
      refine lv_bipush (v := nI 8) hx hb dX5_signsIn_3 (by decide) ?_
      refine ln_icmp_ge (tgt := 34) hx hb dX5_signsIn_5 (by decide) (by have := zBy_lt x k; omega) (by have := zBy_lt x k; omega) (fun h1 => ?_) (fun h1 => ?_)
      · skip
        refine lv_bipush (v := nI 8) hx hb dX5_signsIn_34 (by decide) ?_
        exact ar_iret C hr hW dX5_signsIn_36 (⟨congrArg (fun z => some (Value.int (zCnI z))) (show some 8 = zCn x 8 0 by rw [hc, show k = 8 by omega]; rfl), rfl⟩)
      · skip
        refine lv_lload_n hx hb dX5_signsIn_8 rfl (lv_at hl 0 rfl) ?_
        refine lv_iload_n hx hb dX5_signsIn_9 rfl (lv_at hl 1 rfl) ?_
        refine ar_callS (As := [.long x, .int (nI k)]) (rest := []) C hW (c_X5_signOf hl9 _ x k (by omega)) q159 q160 q3 q161 hd_X5_signOf ⟨Nat.le_of_ble_eq_true rfl, Nat.le_of_ble_eq_true rfl⟩ hl.1 (Nat.le_of_ble_eq_true rfl) rfl dX5_signsIn_10 (fun _ _ _ _ _ _ hp => hp.elim) (fun v9 u9 H locs hp hW => ?_)
        obtain ⟨rfl, hu9⟩ := hp
        rw [hu9] at hW
        refine W.eq (g2 := F0 m 13 ls [.int (nI (zBy x k))]) rfl ?_
        refine lv_istore_n (lv' := [(3, .int (nI (zBy x k))), (0, .long x), (2, .int (nI k))]) hx hb dX5_signsIn_13 rfl hl (by decide) rfl (fun ls hl => ?_)
        refine lv_iload_n hx hb dX5_signsIn_14 rfl (lv_at hl 0 rfl) ?_
        refine ln_if_ne (tgt := 20) hx hb dX5_signsIn_15 (by decide) (by have := zBy_lt x k; omega) (fun h2 => ?_) (fun h2 => ?_)
        · skip
          refine lv_iload_n hx hb dX5_signsIn_20 rfl (lv_at hl 0 rfl) ?_
          refine lv_bipush (v := nI 127) hx hb dX5_signsIn_21 (by decide) ?_
          refine ln_icmp_le (tgt := 28) hx hb dX5_signsIn_23 (by decide) (by have := zBy_lt x k; omega) (by have := zBy_lt x k; omega) (fun h3 => ?_) (fun h3 => ?_)
          · skip
            refine ln_iinc (k := 2) (n := 1) (lv' := [(2, .int (nI (k + 1))), (3, .int (nI (zBy x k))), (0, .long x)]) hx hb dX5_signsIn_28 hl rfl (by decide) rfl (fun ls hl => ?_)
            refine lv_goto (tgt := 2) hx hb dX5_signsIn_31 (by decide) ?_
            exact ihlp (k + 1) _ _ _ (by omega) (by omega) (by rw [hc, zCn_s h1, if_neg h2, if_neg (by omega)]) (hW) (lv_sub hl [2, 0] rfl)
          · skip
            refine lv_iconst (v := -1) hx hb dX5_signsIn_26 (by decide) ?_
            exact ar_iret C hr hW dX5_signsIn_27 (⟨congrArg (fun z => some (Value.int (zCnI z))) (show none = zCn x 8 0 by rw [hc, zCn_s h1, if_neg h2, if_pos h3]), rfl⟩)
        · skip
          refine lv_iload_n hx hb dX5_signsIn_18 rfl (lv_at hl 2 rfl) ?_
          exact ar_iret C hr hW dX5_signsIn_19 (⟨congrArg (fun z => some (Value.int (zCnI z))) (show some k = zCn x 8 0 by rw [hc, zCn_s h1, if_pos h2]), rfl⟩)
  exact lp _ 0 _ _ _ (Nat.lt_succ_self _) (by omega) (rfl) (hW) (lv_sub hl [1, 0] rfl)
theorem hd_X5_append : yX5_append.cls ≠ "java/lang/invoke/MethodHandle" ∧ yX5_append.cls ≠ "java/lang/invoke/VarHandle" ∧ (parseMethodDescriptor yX5_append.desc).map (fun d => d.parameters.length) = some 1 := by decide +kernel
set_option maxHeartbeats 4000000 in
set_option maxRecDepth 100000 in
theorem c_X5_append {l : Launch} (hl9 : l.stackTraces = false) {D : va_G} {ct : Nat → ClassId} {ad : Nat → Nat} (sc sg sh : Nat → Int32) (el : Nat → Nat → UInt64) (nf : Nat → Nat → Int32) (lr : Nat → Nat → Option Nat) (x : Int64) (n : Nat) (hn : n ≤ 40) (hlen : sc 2 = nI n) : ar_M l yX5_append cX5_append 5 (some .int) 2 45 D ct (xL ad ct) [.ref (ad 2), .long x] (sc, sg, sh, el, nf, lr) (fun v9 u9 => (zWr x n = none ∧ v9 = some (.int (-1)) ∧ u9 = (sc, sg, sh, el, nf, lr)) ∨ (∃ cnt : Nat, zWr x n = some cnt ∧ v9 = some (.int (nI cnt)) ∧ u9 = (va_up sc 2 (nI (n + cnt)), zAp sg x n cnt, sh, el, nf, lr))) (fun _ _ => False) := by
  refine ar_ofW hl9 (by decide) (Nat.le_of_ble_eq_true rfl) ?_
  intro p e s m below meth c A ls C hr hnm hW hl
  have hx := C.1
  have hb := C.2.1
  have hown := C.2.2.2.1
  have hts := C.2.2.2.2.1
  have hl : lv_has ls 5 [(0, .ref (ad 2)), (1, .long x)] := hl
  refine lv_lload_n hx hb dX5_append_0 rfl (lv_at hl 1 rfl) ?_
  refine ar_callS (As := [.long x]) (rest := []) C hW (c_X5_signsIn hl9 _ x) q156 q157 q3 q158 hd_X5_signsIn ⟨Nat.le_of_ble_eq_true rfl, Nat.le_of_ble_eq_true rfl⟩ hl.1 (Nat.le_of_ble_eq_true rfl) rfl dX5_append_1 (fun _ _ _ _ _ _ hp => hp.elim) (fun v9 u9 H locs hp hW => ?_)
  obtain ⟨rfl, hu9⟩ := hp
  rw [hu9] at hW
  refine W.eq (g2 := F0 m 4 ls [.int (zCnI (zCn x 8 0))]) rfl ?_
  rcases ho : zCn x 8 0 with _ | cnt
  · skip
    refine W.eq (g2 := F0 m 4 ls [.int ((-1))]) rfl ?_
    refine lv_istore_n (lv' := [(3, .int ((-1))), (0, .ref (ad 2)), (1, .long x)]) hx hb dX5_append_4 rfl hl (by decide) rfl (fun ls hl => ?_)
    refine lv_iload_n hx hb dX5_append_5 rfl (lv_at hl 0 rfl) ?_
    refine lv_if_lt (tgt := 20) hx hb dX5_append_6 (by decide) (fun h1 => ?_) (fun h1 => ?_)
    · skip
      refine lv_iconst (v := -1) hx hb dX5_append_20 (by decide) ?_
      exact ar_iret C hr hW dX5_append_21 (Or.inl ⟨by unfold zWr; rw [ho], rfl, rfl⟩)
    · skip
      exact absurd (by decide) h1
  · skip
    refine W.eq (g2 := F0 m 4 ls [.int (nI cnt)]) rfl ?_
    obtain ⟨-, hcl, hby⟩ := zCn_ok 8 0 cnt ho
    refine lv_istore_n (lv' := [(3, .int (nI cnt)), (0, .ref (ad 2)), (1, .long x)]) hx hb dX5_append_4 rfl hl (by decide) rfl (fun ls hl => ?_)
    refine lv_iload_n hx hb dX5_append_5 rfl (lv_at hl 0 rfl) ?_
    refine ln_if_lt (tgt := 20) hx hb dX5_append_6 (by decide) (by omega) ?_
    refine lv_aload_n hx hb dX5_append_9 rfl (lv_at hl 1 rfl) ?_
    refine xg_length C hW q59 dX5_append_10 ?_
    refine ln_top (hlen) ?_
    refine lv_iload_n hx hb dX5_append_13 rfl (lv_at hl 0 rfl) ?_
    refine ln_iadd hx hb dX5_append_14 ?_
    refine lv_bipush (v := nI 40) hx hb dX5_append_15 (by decide) ?_
    refine ln_icmp_le (tgt := 22) hx hb dX5_append_17 (by decide) (by omega) (by omega) (fun h3 => ?_) (fun h3 => ?_)
    · skip
      refine lv_iconst (v := nI 0) hx hb dX5_append_22 (by decide) ?_
      refine lv_istore (lv' := [(4, .int (nI 0)), (3, .int (nI cnt)), (0, .ref (ad 2)), (1, .long x)]) hx hb dX5_append_23 hl (by decide) rfl (fun ls hl => ?_)
      have lp : ∀ (N9 : Nat) (k : Nat) (f : Nat → Int32) (H : Heap) (locs : List Loc) (ls : Array Slot), cnt - k < N9 → (k ≤ cnt) → (f = zAp sg x n k) → ar_W D A s.heap H locs (xL ad ct (sc, f, sh, el, nf, lr)) → lv_has ls 5 [(0, .ref (ad 2)), (1, .long x), (3, .int (nI cnt)), (4, .int (nI k))] → W p l e (ar_rm 2 45) s m [.ref (ad 2), .long x].toArray below meth c H locs 0 0 (ar_E below (ar_Q D ct (xL ad ct) A (fun v9 u9 => (zWr x n = none ∧ v9 = some (.int (-1)) ∧ u9 = (sc, sg, sh, el, nf, lr)) ∨ (∃ cnt : Nat, zWr x n = some cnt ∧ v9 = some (.int (nI cnt)) ∧ u9 = (va_up sc 2 (nI (n + cnt)), zAp sg x n cnt, sh, el, nf, lr))) (fun _ _ => False)) [.ref (ad 2), .long x].toArray s) (F0 m 25 ls []) := by
        intro N9
        induction N9 with
        | zero =>
          intro k f H locs ls hN9
          exact absurd hN9 (Nat.not_lt_zero _)
        | succ N9 ihlp =>
          intro k f H locs ls hN9 hk hf hW hl
          refine lv_iload hx hb dX5_append_25 (lv_at hl 3 rfl) ?_
          refine lv_iload_n hx hb dX5_append_27 rfl (lv_at hl 2 rfl) ?_
          refine ln_icmp_ge (tgt := 56) hx hb dX5_append_28 (by decide) (by omega) (by omega) (fun h4 => ?_) (fun h4 => ?_)
          · skip
            refine lv_aload_n hx hb dX5_append_56 rfl (lv_at hl 0 rfl) ?_
            refine lv_dup hx hb dX5_append_57 rfl ?_
            refine xg_length C hW q59 dX5_append_58 ?_
            refine ln_top (hlen) ?_
            refine lv_iload_n hx hb dX5_append_61 rfl (lv_at hl 2 rfl) ?_
            refine ln_iadd hx hb dX5_append_62 ?_
            refine xp_length C hW q59 dX5_append_63 (fun H locs hW => ?_)
            refine lv_iload_n hx hb dX5_append_66 rfl (lv_at hl 2 rfl) ?_
            exact ar_iret C hr hW dX5_append_67 (Or.inr ⟨cnt, by unfold zWr; rw [ho]; exact if_pos (by omega), rfl, by rw [hf, show k = cnt by omega]⟩)
          · skip
            refine lv_aload_n hx hb dX5_append_31 rfl (lv_at hl 0 rfl) ?_
            refine xg_signs C hW q58 dX5_append_32 ?_
            refine lv_aload_n hx hb dX5_append_35 rfl (lv_at hl 0 rfl) ?_
            refine xg_length C hW q59 dX5_append_36 ?_
            refine ln_top (hlen) ?_
            refine lv_iload hx hb dX5_append_39 (lv_at hl 3 rfl) ?_
            refine ln_iadd hx hb dX5_append_41 ?_
            refine lv_lload_n hx hb dX5_append_42 rfl (lv_at hl 1 rfl) ?_
            refine lv_iload hx hb dX5_append_43 (lv_at hl 3 rfl) ?_
            refine ar_callS (As := [.long x, .int (nI k)]) (rest := [.int (nI (n + k)), .ref (ad 3)]) C hW (c_X5_signOf hl9 _ x k (by omega)) q159 q160 q3 q161 hd_X5_signOf ⟨Nat.le_of_ble_eq_true rfl, Nat.le_of_ble_eq_true rfl⟩ hl.1 (Nat.le_of_ble_eq_true rfl) rfl dX5_append_45 (fun _ _ _ _ _ _ hp => hp.elim) (fun v9 u9 H locs hp hW => ?_)
            obtain ⟨rfl, hu9⟩ := hp
            rw [hu9] at hW
            refine W.eq (g2 := F0 m 48 ls [.int (nI (zBy x k)), .int (nI (n + k)), .ref (ad 3)]) rfl ?_
            refine lv_i2c (v := nI (zBy x k)) hx hb dX5_append_48 (i2c_nI (by have := zBy_lt x k; omega)) ?_
            refine xs_signs (j := n + k) (nar_nI (by have := zBy_lt x k; omega)) C hW (by omega) dX5_append_49 (fun H locs hW => ?_)
            refine ln_iinc (k := 3) (n := 1) (lv' := [(4, .int (nI (k + 1))), (0, .ref (ad 2)), (1, .long x), (3, .int (nI cnt))]) hx hb dX5_append_50 hl rfl (by decide) rfl (fun ls hl => ?_)
            refine lv_goto (tgt := 25) hx hb dX5_append_53 (by decide) ?_
            exact ihlp (k + 1) (va_up f (n + k) (nI (zBy x k))) _ _ _ (by omega) (by omega) (zAp_s hf) (hW) (lv_sub hl [1, 2, 3, 0] rfl)
      exact lp _ 0 sg _ _ _ (Nat.lt_succ_self _) (by omega) (zAp_0) (hW) (lv_sub hl [2, 3, 1, 0] rfl)
    · skip
      refine lv_iconst (v := -1) hx hb dX5_append_20 (by decide) ?_
      exact ar_iret C hr hW dX5_append_21 (Or.inl ⟨by unfold zWr; rw [ho]; exact if_neg (by omega), rfl, rfl⟩)
end
section
set_option maxRecDepth 20000 in
theorem ar_X_X6_24 : ar_X "ArrayText$Tree" 22 24 26 "java/lang/IllegalArgumentException" "more parts than a text can hold" := ⟨by decide +kernel, by decide +kernel, by decide +kernel, by decide +kernel, by decide +kernel, by decide +kernel, by decide +kernel, by decide +kernel⟩
def zN0 (nf : Nat → Nat → Int32) (k : Nat) : Nat → Nat → Int32 := va_up (va_up (va_up nf 0 (va_up (nf 0) k (nI 0))) 1 (va_up (nf 1) k (nI 0))) 2 (va_up (nf 2) k (nI 0))
def zL0 (lr : Nat → Nat → Option Nat) (k : Nat) : Nat → Nat → Option Nat := va_up (va_up lr 0 (va_up (lr 0) k none)) 1 (va_up (lr 1) k none)
/-- a join, a turn, a reduction, a run -/
def zMk (k : Nat) : Bool := decide (k = 9 ∨ k = 5 ∨ k = 6 ∨ k = 7)
def zMkC (kd : Nat → Nat) : Nat → Nat
  | 0 => 0
  | n + 1 => zMkC kd n + (if zMk (kd n) = true then 1 else 0)
theorem zMkC_le (kd : Nat → Nat) (n : Nat) : zMkC kd n ≤ n := by
  induction n with
  | zero => exact Nat.le_refl _
  | succ n ih =>
    rw [zMkC]
    split <;> omega
abbrev IAE : String := "java/lang/IllegalArgumentException"
abbrev ISE : String := "java/lang/IllegalStateException"
abbrev UOE : String := "java/lang/UnsupportedOperationException"
abbrev IOB : String := "java/lang/IndexOutOfBoundsException"
abbrev ARE : String := "java/lang/ArithmeticException"
theorem hd_X0_clear : yX0_clear.cls ≠ "java/lang/invoke/MethodHandle" ∧ yX0_clear.cls ≠ "java/lang/invoke/VarHandle" ∧ (parseMethodDescriptor yX0_clear.desc).map (fun d => d.parameters.length) = some 0 := by decide +kernel
set_option maxHeartbeats 4000000 in
set_option maxRecDepth 100000 in
theorem c_X0_clear {l : Launch} (hl9 : l.stackTraces = false) {D : va_G} {ct : Nat → ClassId} {ad : Nat → Nat} (sc sg sh : Nat → Int32) (el : Nat → Nat → UInt64) (nf : Nat → Nat → Int32) (lr : Nat → Nat → Option Nat) (k : Nat) (hk : k < 41) : ar_M l yX0_clear cX0_clear 1 none 0 0 D ct (xL ad ct) [.ref (ad (104 + k))] (sc, sg, sh, el, nf, lr) (fun v9 u9 => v9 = none ∧ u9 = (sc, sg, sh, el, zN0 nf k, zL0 lr k)) (fun _ _ => False) := by
  refine ar_ofW hl9 (by decide) (Nat.le_of_ble_eq_true rfl) ?_
  intro p e s m below meth c A ls C hr hnm hW hl
  have hx := C.1
  have hb := C.2.1
  have hown := C.2.2.2.1
  have hts := C.2.2.2.2.1
  have hl : lv_has ls 1 [(0, .ref (ad (104 + k)))] := hl
  refine lv_aload_n hx hb dX0_clear_0 rfl (lv_at hl 0 rfl) ?_
  refine lv_iconst (v := nI 0) hx hb dX0_clear_1 (by decide) ?_
  refine xp_kind (k := k) C hW q84 (by omega) dX0_clear_2 (fun H locs hW => ?_)
  refine lv_aload_n hx hb dX0_clear_5 rfl (lv_at hl 0 rfl) ?_
  refine lv_iconst (v := nI 0) hx hb dX0_clear_6 (by decide) ?_
  refine xp_sign (k := k) (by decide) C hW q88 (by omega) dX0_clear_7 (fun H locs hW => ?_)
  refine lv_aload_n hx hb dX0_clear_10 rfl (lv_at hl 0 rfl) ?_
  refine lv_iconst (v := nI 0) hx hb dX0_clear_11 (by decide) ?_
  refine xp_number (k := k) C hW q91 (by omega) dX0_clear_12 (fun H locs hW => ?_)
  refine lv_aload_n hx hb dX0_clear_15 rfl (lv_at hl 0 rfl) ?_
  refine lv_null hx hb dX0_clear_16 ?_
  refine xp_left (k := k) (v := none) C hW q95 (by omega) dX0_clear_17 (fun H locs hW => ?_)
  refine lv_aload_n hx hb dX0_clear_20 rfl (lv_at hl 0 rfl) ?_
  refine lv_null hx hb dX0_clear_21 ?_
  refine xp_right (k := k) (v := none) C hW q99 (by omega) dX0_clear_22 (fun H locs hW => ?_)
  exact ar_vret C hr hW dX0_clear_25 (⟨rfl, rfl⟩)
theorem hd_X0_makesArray : yX0_makesArray.cls ≠ "java/lang/invoke/MethodHandle" ∧ yX0_makesArray.cls ≠ "java/lang/invoke/VarHandle" ∧ (parseMethodDescriptor yX0_makesArray.desc).map (fun d => d.parameters.length) = some 0 := by decide +kernel
set_option maxHeartbeats 4000000 in
set_option maxRecDepth 100000 in
theorem c_X0_makesArray {l : Launch} (hl9 : l.stackTraces = false) {D : va_G} {ct : Nat → ClassId} {ad : Nat → Nat} (sc sg sh : Nat → Int32) (el : Nat → Nat → UInt64) (nf : Nat → Nat → Int32) (lr : Nat → Nat → Option Nat) (k : Nat) (hk : k < 41) (x : Nat) (hx9 : x < 2 ^ 31) (hkd : nf 0 k = nI x) : ar_M l yX0_makesArray cX0_makesArray 1 (some .boolean) 0 0 D ct (xL ad ct) [.ref (ad (104 + k))] (sc, sg, sh, el, nf, lr) (fun v9 u9 => v9 = some (.int (bI (zMk x))) ∧ u9 = (sc, sg, sh, el, nf, lr)) (fun _ _ => False) := by
  refine ar_ofW hl9 (by decide) (Nat.le_of_ble_eq_true rfl) ?_
  intro p e s m below meth c A ls C hr hnm hW hl
  have hx := C.1
  have hb := C.2.1
  have hown := C.2.2.2.1
  have hts := C.2.2.2.2.1
  have hl : lv_has ls 1 [(0, .ref (ad (104 + k)))] := hl
  refine lv_aload_n hx hb dX0_makesArray_0 rfl (lv_at hl 0 rfl) ?_
  refine xg_kind (k := k) C hW q84 (by omega) dX0_makesArray_1 ?_
  refine ln_top (hkd) ?_
  refine lv_bipush (v := nI 9) hx hb dX0_makesArray_4 (by decide) ?_
  refine ln_icmp_eq (tgt := 35) hx hb dX0_makesArray_6 (by decide) (by omega) (by omega) (fun h1 => ?_) (fun h1 => ?_)
  · skip
    refine lv_iconst (v := nI 1) hx hb dX0_makesArray_35 (by decide) ?_
    refine lv_goto (tgt := 40) hx hb dX0_makesArray_36 (by decide) ?_
    exact ar_zret C hr (nI_z1.1) hW dX0_makesArray_40 (⟨congrArg (fun z => some (Value.int z)) (bI_t (by simp [zMk]; omega)), rfl⟩)
  · skip
    refine lv_aload_n hx hb dX0_makesArray_9 rfl (lv_at hl 0 rfl) ?_
    refine xg_kind (k := k) C hW q84 (by omega) dX0_makesArray_10 ?_
    refine ln_top (hkd) ?_
    refine lv_iconst (v := nI 5) hx hb dX0_makesArray_13 (by decide) ?_
    refine ln_icmp_eq (tgt := 35) hx hb dX0_makesArray_14 (by decide) (by omega) (by omega) (fun h2 => ?_) (fun h2 => ?_)
    · skip
      refine lv_iconst (v := nI 1) hx hb dX0_makesArray_35 (by decide) ?_
      refine lv_goto (tgt := 40) hx hb dX0_makesArray_36 (by decide) ?_
      exact ar_zret C hr (nI_z1.1) hW dX0_makesArray_40 (⟨congrArg (fun z => some (Value.int z)) (bI_t (by simp [zMk]; omega)), rfl⟩)
    · skip
      refine lv_aload_n hx hb dX0_makesArray_17 rfl (lv_at hl 0 rfl) ?_
      refine xg_kind (k := k) C hW q84 (by omega) dX0_makesArray_18 ?_
      refine ln_top (hkd) ?_
      refine lv_bipush (v := nI 6) hx hb dX0_makesArray_21 (by decide) ?_
      refine ln_icmp_eq (tgt := 35) hx hb dX0_makesArray_23 (by decide) (by omega) (by omega) (fun h3 => ?_) (fun h3 => ?_)
      · skip
        refine lv_iconst (v := nI 1) hx hb dX0_makesArray_35 (by decide) ?_
        refine lv_goto (tgt := 40) hx hb dX0_makesArray_36 (by decide) ?_
        exact ar_zret C hr (nI_z1.1) hW dX0_makesArray_40 (⟨congrArg (fun z => some (Value.int z)) (bI_t (by simp [zMk]; omega)), rfl⟩)
      · skip
        refine lv_aload_n hx hb dX0_makesArray_26 rfl (lv_at hl 0 rfl) ?_
        refine xg_kind (k := k) C hW q84 (by omega) dX0_makesArray_27 ?_
        refine ln_top (hkd) ?_
        refine lv_bipush (v := nI 7) hx hb dX0_makesArray_30 (by decide) ?_
        refine ln_icmp_ne (tgt := 39) hx hb dX0_makesArray_32 (by decide) (by omega) (by omega) (fun h4 => ?_) (fun h4 => ?_)
        · skip
          refine lv_iconst (v := nI 0) hx hb dX0_makesArray_39 (by decide) ?_
          exact ar_zret C hr (nI_z0.1) hW dX0_makesArray_40 (⟨congrArg (fun z => some (Value.int z)) (bI_f (by simp [zMk]; omega)), rfl⟩)
        · skip
          refine lv_iconst (v := nI 1) hx hb dX0_makesArray_35 (by decide) ?_
          refine lv_goto (tgt := 40) hx hb dX0_makesArray_36 (by decide) ?_
          exact ar_zret C hr (nI_z1.1) hW dX0_makesArray_40 (⟨congrArg (fun z => some (Value.int z)) (bI_t (by simp [zMk]; omega)), rfl⟩)
theorem hd_X6_clear : yX6_clear.cls ≠ "java/lang/invoke/MethodHandle" ∧ yX6_clear.cls ≠ "java/lang/invoke/VarHandle" ∧ (parseMethodDescriptor yX6_clear.desc).map (fun d => d.parameters.length) = some 0 := by decide +kernel
set_option maxHeartbeats 4000000 in
set_option maxRecDepth 100000 in
theorem c_X6_clear {l : Launch} (hl9 : l.stackTraces = false) {D : va_G} {ct : Nat → ClassId} {ad : Nat → Nat} (sc sg sh : Nat → Int32) (el : Nat → Nat → UInt64) (nf : Nat → Nat → Int32) (lr : Nat → Nat → Option Nat)  : ar_M l yX6_clear cX6_clear 1 none 0 0 D ct (xL ad ct) [.ref (ad 4)] (sc, sg, sh, el, nf, lr) (fun v9 u9 => v9 = none ∧ u9 = (va_up sc 4 (nI 0), sg, sh, el, nf, lr)) (fun _ _ => False) := by
  refine ar_ofW hl9 (by decide) (Nat.le_of_ble_eq_true rfl) ?_
  intro p e s m below meth c A ls C hr hnm hW hl
  have hx := C.1
  have hb := C.2.1
  have hown := C.2.2.2.1
  have hts := C.2.2.2.2.1
  have hl : lv_has ls 1 [(0, .ref (ad 4))] := hl
  refine lv_aload_n hx hb dX6_clear_0 rfl (lv_at hl 0 rfl) ?_
  refine lv_iconst (v := nI 0) hx hb dX6_clear_1 (by decide) ?_
  refine xp_count C hW q126 dX6_clear_2 (fun H locs hW => ?_)
  exact ar_vret C hr hW dX6_clear_5 (⟨rfl, rfl⟩)
theorem hd_X6_add : yX6_add.cls ≠ "java/lang/invoke/MethodHandle" ∧ yX6_add.cls ≠ "java/lang/invoke/VarHandle" ∧ (parseMethodDescriptor yX6_add.desc).map (fun d => d.parameters.length) = some 0 := by decide +kernel
set_option maxHeartbeats 4000000 in
set_option maxRecDepth 100000 in
theorem c_X6_add {l : Launch} (hl9 : l.stackTraces = false) {D : va_G} {ct : Nat → ClassId} {ad : Nat → Nat} (sc sg sh : Nat → Int32) (el : Nat → Nat → UInt64) (nf : Nat → Nat → Int32) (lr : Nat → Nat → Option Nat) (b : Nat) (hb9 : b ≤ 41) (hct : sc 4 = nI b) : ar_M l yX6_add cX6_add 2 (some (.object "ArrayText$Node")) 6 90 D ct (xL ad ct) [.ref (ad 4)] (sc, sg, sh, el, nf, lr) (fun v9 u9 => b < 41 ∧ v9 = some (.ref (ad (104 + b))) ∧ u9 = (va_up sc 4 (nI (b + 1)), sg, sh, el, zN0 nf b, zL0 lr b)) (fun E9 u9 => E9 = IAE ∧ 41 ≤ b ∧ u9 = (sc, sg, sh, el, nf, lr)) := by
  refine ar_ofW hl9 (by decide) (Nat.le_of_ble_eq_true rfl) ?_
  intro p e s m below meth c A ls C hr hnm hW hl
  have hx := C.1
  have hb := C.2.1
  have hown := C.2.2.2.1
  have hts := C.2.2.2.2.1
  have hl : lv_has ls 2 [(0, .ref (ad 4))] := hl
  refine lv_aload_n hx hb dX6_add_0 rfl (lv_at hl 0 rfl) ?_
  refine xg_count C hW q126 dX6_add_1 ?_
  refine ln_top (hct) ?_
  refine lv_bipush (v := nI 41) hx hb dX6_add_4 (by decide) ?_
  refine ln_icmp_lt (tgt := 19) hx hb dX6_add_6 (by decide) (by omega) (by omega) (fun h1 => ?_) (fun h1 => ?_)
  · skip
    refine lv_aload_n hx hb dX6_add_19 rfl (lv_at hl 0 rfl) ?_
    refine xg_nodes C hW q121 dX6_add_20 ?_
    refine lv_aload_n hx hb dX6_add_23 rfl (lv_at hl 0 rfl) ?_
    refine xg_count C hW q126 dX6_add_24 ?_
    refine ln_top (hct) ?_
    refine xl_nodes (j := b) C hW (by omega) dX6_add_27 ?_
    refine lv_astore_n (lv' := [(1, .ref (ad (104 + b))), (0, .ref (ad 4))]) hx hb dX6_add_28 rfl hl (by decide) rfl (fun ls hl => ?_)
    refine lv_aload_n hx hb dX6_add_29 rfl (lv_at hl 1 rfl) ?_
    refine lv_dup hx hb dX6_add_30 rfl ?_
    refine xg_count C hW q126 dX6_add_31 ?_
    refine ln_top (hct) ?_
    refine lv_iconst (v := nI 1) hx hb dX6_add_34 (by decide) ?_
    refine ln_iadd hx hb dX6_add_35 ?_
    refine xp_count C hW q126 dX6_add_36 (fun H locs hW => ?_)
    refine lv_aload_n hx hb dX6_add_39 rfl (lv_at hl 0 rfl) ?_
    refine ar_callV (As := []) (rest := []) C hW (c_X0_clear hl9 (va_up sc 4 (nI (b + 1))) sg sh el nf lr b (by omega)) (xl_at (by omega) (xc_nd (k := b))) rfl q394 q395 q396 q5 q397 hd_X0_clear ⟨Nat.le_of_ble_eq_true rfl, Nat.le_of_ble_eq_true rfl⟩ hl.1 (Nat.le_of_ble_eq_true rfl) rfl dX6_add_40 (fun _ _ _ _ _ _ hp => hp.elim) (fun v9 u9 H locs hp hW => ?_)
    obtain ⟨rfl, hu9⟩ := hp
    rw [hu9] at hW
    refine W.eq (g2 := F0 m 43 ls []) rfl ?_
    refine lv_aload_n hx hb dX6_add_43 rfl (lv_at hl 0 rfl) ?_
    exact ar_aret C hr hW dX6_add_44 (⟨by omega, rfl, rfl⟩)
  · skip
    exact ar_throw C hW ar_X_X6_24 hl.1 dX6_add_9 dX6_add_12 dX6_add_13 dX6_add_15 dX6_add_18 (Nat.le_of_ble_eq_true rfl) (Nat.le_of_ble_eq_true rfl) (⟨rfl, by omega, rfl⟩)
theorem hd_X6_arraysMade : yX6_arraysMade.cls ≠ "java/lang/invoke/MethodHandle" ∧ yX6_arraysMade.cls ≠ "java/lang/invoke/VarHandle" ∧ (parseMethodDescriptor yX6_arraysMade.desc).map (fun d => d.parameters.length) = some 1 := by decide +kernel
set_option maxHeartbeats 4000000 in
set_option maxRecDepth 100000 in
theorem c_X6_arraysMade {l : Launch} (hl9 : l.stackTraces = false) {D : va_G} {ct : Nat → ClassId} {ad : Nat → Nat} (sc sg sh : Nat → Int32) (el : Nat → Nat → UInt64) (nf : Nat → Nat → Int32) (lr : Nat → Nat → Option Nat) (r : Nat) (hr8 : r < 41) (x : Nat) (hx9 : x < 2 ^ 31) (hr9 : nf 0 r = nI x) (b : Nat) (hb9 : b ≤ 41) (hct : sc 4 = nI b) (kd : Nat → Nat) (hkd : ∀ k, k < b → nf 0 k = nI (kd k)) (hk10 : ∀ k, k < b → kd k ≤ 10) : ar_M l yX6_arraysMade cX6_arraysMade 4 (some .int) 1 20 D ct (xL ad ct) [.ref (ad 4), .ref (ad (104 + r))] (sc, sg, sh, el, nf, lr) (fun v9 u9 => v9 = some (.int (nI ((if zMk x = true then 0 else 1) + zMkC kd b))) ∧ u9 = (sc, sg, sh, el, nf, lr)) (fun _ _ => False) := by
  refine ar_ofW hl9 (by decide) (Nat.le_of_ble_eq_true rfl) ?_
  intro p e s m below meth c A ls C hr hnm hW hl
  have hx := C.1
  have hb := C.2.1
  have hown := C.2.2.2.1
  have hts := C.2.2.2.2.1
  have hl : lv_has ls 4 [(0, .ref (ad 4)), (1, .ref (ad (104 + r)))] := hl
  refine lv_aload_n hx hb dX6_arraysMade_0 rfl (lv_at hl 1 rfl) ?_
  refine ar_callV (As := []) (rest := []) C hW (c_X0_makesArray hl9 sc sg sh el nf lr r (by omega) x (by omega) (hr9)) (xl_at (by omega) (xc_nd (k := r))) rfl q570 q571 q572 q5 q573 hd_X0_makesArray ⟨Nat.le_of_ble_eq_true rfl, Nat.le_of_ble_eq_true rfl⟩ hl.1 (Nat.le_of_ble_eq_true rfl) rfl dX6_arraysMade_1 (fun _ _ _ _ _ _ hp => hp.elim) (fun v9 u9 H locs hp hW => ?_)
  obtain ⟨rfl, hu9⟩ := hp
  rw [hu9] at hW
  refine W.eq (g2 := F0 m 4 ls [.int (bI (zMk x))]) rfl ?_
  refine lb_if_eq (tgt := 11) hx hb dX6_arraysMade_4 (by decide) (fun h1 => ?_) (fun h1 => ?_)
  · skip
    refine lv_iconst (v := nI 1) hx hb dX6_arraysMade_11 (by decide) ?_
    refine lv_istore_n (lv' := [(2, .int (nI 1)), (0, .ref (ad 4)), (1, .ref (ad (104 + r)))]) hx hb dX6_arraysMade_12 rfl hl (by decide) rfl (fun ls hl => ?_)
    refine lv_iconst (v := nI 0) hx hb dX6_arraysMade_13 (by decide) ?_
    refine lv_istore_n (lv' := [(3, .int (nI 0)), (2, .int (nI 1)), (0, .ref (ad 4)), (1, .ref (ad (104 + r)))]) hx hb dX6_arraysMade_14 rfl hl (by decide) rfl (fun ls hl => ?_)
    have lp : ∀ (N9 : Nat) (k : Nat) (mm : Nat) (H : Heap) (locs : List Loc) (ls : Array Slot), b - k < N9 → (k ≤ b) → (mm = 1 + zMkC kd k) → ar_W D A s.heap H locs (xL ad ct (sc, sg, sh, el, nf, lr)) → lv_has ls 4 [(0, .ref (ad 4)), (1, .ref (ad (104 + r))), (2, .int (nI mm)), (3, .int (nI k))] → W p l e (ar_rm 1 20) s m [.ref (ad 4), .ref (ad (104 + r))].toArray below meth c H locs 0 0 (ar_E below (ar_Q D ct (xL ad ct) A (fun v9 u9 => v9 = some (.int (nI ((if zMk x = true then 0 else 1) + zMkC kd b))) ∧ u9 = (sc, sg, sh, el, nf, lr)) (fun _ _ => False)) [.ref (ad 4), .ref (ad (104 + r))].toArray s) (F0 m 15 ls []) := by
      intro N9
      induction N9 with
      | zero =>
        intro k mm H locs ls hN9
        exact absurd hN9 (Nat.not_lt_zero _)
      | succ N9 ihlp =>
        intro k mm H locs ls hN9 hk hm hW hl
        refine lv_iload_n hx hb dX6_arraysMade_15 rfl (lv_at hl 3 rfl) ?_
        refine lv_aload_n hx hb dX6_arraysMade_16 rfl (lv_at hl 0 rfl) ?_
        refine xg_count C hW q126 dX6_arraysMade_17 ?_
        refine ln_top (hct) ?_
        refine ln_icmp_ge (tgt := 44) hx hb dX6_arraysMade_20 (by decide) (by omega) (by omega) (fun h2 => ?_) (fun h2 => ?_)
        · skip
          refine lv_iload_n hx hb dX6_arraysMade_44 rfl (lv_at hl 2 rfl) ?_
          exact ar_iret C hr hW dX6_arraysMade_45 (⟨congrArg (fun z => some (Value.int (nI z))) (by rw [hm, show k = b by omega]; simp [h1]), rfl⟩)
        · skip
          refine lv_aload_n hx hb dX6_arraysMade_23 rfl (lv_at hl 0 rfl) ?_
          refine xg_nodes C hW q121 dX6_arraysMade_24 ?_
          refine lv_iload_n hx hb dX6_arraysMade_27 rfl (lv_at hl 3 rfl) ?_
          refine xl_nodes (j := k) C hW (by omega) dX6_arraysMade_28 ?_
          refine ar_callV (As := []) (rest := []) C hW (c_X0_makesArray hl9 sc sg sh el nf lr k (by omega) (kd k) (by have := hk10 k (by omega); omega) (hkd k (by omega))) (xl_at (by omega) (xc_nd (k := k))) rfl q570 q571 q572 q5 q573 hd_X0_makesArray ⟨Nat.le_of_ble_eq_true rfl, Nat.le_of_ble_eq_true rfl⟩ hl.1 (Nat.le_of_ble_eq_true rfl) rfl dX6_arraysMade_29 (fun _ _ _ _ _ _ hp => hp.elim) (fun v9 u9 H locs hp hW => ?_)
          obtain ⟨rfl, hu9⟩ := hp
          rw [hu9] at hW
          refine W.eq (g2 := F0 m 32 ls [.int (bI (zMk (kd k)))]) rfl ?_
          refine lb_if_eq (tgt := 38) hx hb dX6_arraysMade_32 (by decide) (fun h3 => ?_) (fun h3 => ?_)
          · skip
            refine ln_iinc (k := 3) (n := 1) (lv' := [(3, .int (nI (k + 1))), (0, .ref (ad 4)), (1, .ref (ad (104 + r))), (2, .int (nI mm))]) hx hb dX6_arraysMade_38 hl rfl (by decide) rfl (fun ls hl => ?_)
            refine lv_goto (tgt := 15) hx hb dX6_arraysMade_41 (by decide) ?_
            exact ihlp (k + 1) mm _ _ _ (by omega) (by omega) (by rw [zMkC, hm]; rw [if_neg (by rw [h3]; decide)]; omega) (hW) (lv_sub hl [1, 2, 3, 0] rfl)
          · skip
            refine ln_iinc (k := 2) (n := 1) (lv' := [(2, .int (nI (mm + 1))), (0, .ref (ad 4)), (1, .ref (ad (104 + r))), (3, .int (nI k))]) hx hb dX6_arraysMade_35 hl rfl (by decide) rfl (fun ls hl => ?_)
            refine ln_iinc (k := 3) (n := 1) (lv' := [(3, .int (nI (k + 1))), (2, .int (nI (mm + 1))), (0, .ref (ad 4)), (1, .ref (ad (104 + r)))]) hx hb dX6_arraysMade_38 hl rfl (by decide) rfl (fun ls hl => ?_)
            refine lv_goto (tgt := 15) hx hb dX6_arraysMade_41 (by decide) ?_
            exact ihlp (k + 1) (mm + 1) _ _ _ (by omega) (by omega) (by rw [zMkC, hm]; rw [if_pos h3]; omega) (hW) (lv_sub hl [2, 3, 1, 0] rfl)
    exact lp _ 0 1 _ _ _ (Nat.lt_succ_self _) (by omega) (rfl) (hW) (lv_sub hl [2, 3, 1, 0] rfl)
  · skip
    refine lv_iconst (v := nI 0) hx hb dX6_arraysMade_7 (by decide) ?_
    refine lv_goto (tgt := 12) hx hb dX6_arraysMade_8 (by decide) ?_
    refine lv_istore_n (lv' := [(2, .int (nI 0)), (0, .ref (ad 4)), (1, .ref (ad (104 + r)))]) hx hb dX6_arraysMade_12 rfl hl (by decide) rfl (fun ls hl => ?_)
    refine lv_iconst (v := nI 0) hx hb dX6_arraysMade_13 (by decide) ?_
    refine lv_istore_n (lv' := [(3, .int (nI 0)), (2, .int (nI 0)), (0, .ref (ad 4)), (1, .ref (ad (104 + r)))]) hx hb dX6_arraysMade_14 rfl hl (by decide) rfl (fun ls hl => ?_)
    have lp : ∀ (N9 : Nat) (k : Nat) (mm : Nat) (H : Heap) (locs : List Loc) (ls : Array Slot), b - k < N9 → (k ≤ b) → (mm = 0 + zMkC kd k) → ar_W D A s.heap H locs (xL ad ct (sc, sg, sh, el, nf, lr)) → lv_has ls 4 [(0, .ref (ad 4)), (1, .ref (ad (104 + r))), (2, .int (nI mm)), (3, .int (nI k))] → W p l e (ar_rm 1 20) s m [.ref (ad 4), .ref (ad (104 + r))].toArray below meth c H locs 0 0 (ar_E below (ar_Q D ct (xL ad ct) A (fun v9 u9 => v9 = some (.int (nI ((if zMk x = true then 0 else 1) + zMkC kd b))) ∧ u9 = (sc, sg, sh, el, nf, lr)) (fun _ _ => False)) [.ref (ad 4), .ref (ad (104 + r))].toArray s) (F0 m 15 ls []) := by
      intro N9
      induction N9 with
      | zero =>
        intro k mm H locs ls hN9
        exact absurd hN9 (Nat.not_lt_zero _)
      | succ N9 ihlp =>
        intro k mm H locs ls hN9 hk hm hW hl
        refine lv_iload_n hx hb dX6_arraysMade_15 rfl (lv_at hl 3 rfl) ?_
        refine lv_aload_n hx hb dX6_arraysMade_16 rfl (lv_at hl 0 rfl) ?_
        refine xg_count C hW q126 dX6_arraysMade_17 ?_
        refine ln_top (hct) ?_
        refine ln_icmp_ge (tgt := 44) hx hb dX6_arraysMade_20 (by decide) (by omega) (by omega) (fun h4 => ?_) (fun h4 => ?_)
        · skip
          refine lv_iload_n hx hb dX6_arraysMade_44 rfl (lv_at hl 2 rfl) ?_
          exact ar_iret C hr hW dX6_arraysMade_45 (⟨congrArg (fun z => some (Value.int (nI z))) (by rw [hm, show k = b by omega]; simp [h1]), rfl⟩)
        · skip
          refine lv_aload_n hx hb dX6_arraysMade_23 rfl (lv_at hl 0 rfl) ?_
          refine xg_nodes C hW q121 dX6_arraysMade_24 ?_
          refine lv_iload_n hx hb dX6_arraysMade_27 rfl (lv_at hl 3 rfl) ?_
          refine xl_nodes (j := k) C hW (by omega) dX6_arraysMade_28 ?_
          refine ar_callV (As := []) (rest := []) C hW (c_X0_makesArray hl9 sc sg sh el nf lr k (by omega) (kd k) (by have := hk10 k (by omega); omega) (hkd k (by omega))) (xl_at (by omega) (xc_nd (k := k))) rfl q570 q571 q572 q5 q573 hd_X0_makesArray ⟨Nat.le_of_ble_eq_true rfl, Nat.le_of_ble_eq_true rfl⟩ hl.1 (Nat.le_of_ble_eq_true rfl) rfl dX6_arraysMade_29 (fun _ _ _ _ _ _ hp => hp.elim) (fun v9 u9 H locs hp hW => ?_)
          obtain ⟨rfl, hu9⟩ := hp
          rw [hu9] at hW
          refine W.eq (g2 := F0 m 32 ls [.int (bI (zMk (kd k)))]) rfl ?_
          refine lb_if_eq (tgt := 38) hx hb dX6_arraysMade_32 (by decide) (fun h5 => ?_) (fun h5 => ?_)
          · skip
            refine ln_iinc (k := 3) (n := 1) (lv' := [(3, .int (nI (k + 1))), (0, .ref (ad 4)), (1, .ref (ad (104 + r))), (2, .int (nI mm))]) hx hb dX6_arraysMade_38 hl rfl (by decide) rfl (fun ls hl => ?_)
            refine lv_goto (tgt := 15) hx hb dX6_arraysMade_41 (by decide) ?_
            exact ihlp (k + 1) mm _ _ _ (by omega) (by omega) (by rw [zMkC, hm]; rw [if_neg (by rw [h5]; decide)]; omega) (hW) (lv_sub hl [1, 2, 3, 0] rfl)
          · skip
            refine ln_iinc (k := 2) (n := 1) (lv' := [(2, .int (nI (mm + 1))), (0, .ref (ad 4)), (1, .ref (ad (104 + r))), (3, .int (nI k))]) hx hb dX6_arraysMade_35 hl rfl (by decide) rfl (fun ls hl => ?_)
            refine ln_iinc (k := 3) (n := 1) (lv' := [(3, .int (nI (k + 1))), (2, .int (nI (mm + 1))), (0, .ref (ad 4)), (1, .ref (ad (104 + r)))]) hx hb dX6_arraysMade_38 hl rfl (by decide) rfl (fun ls hl => ?_)
            refine lv_goto (tgt := 15) hx hb dX6_arraysMade_41 (by decide) ?_
            exact ihlp (k + 1) (mm + 1) _ _ _ (by omega) (by omega) (by rw [zMkC, hm]; rw [if_pos h5]; omega) (hW) (lv_sub hl [2, 3, 1, 0] rfl)
    exact lp _ 0 0 _ _ _ (Nat.lt_succ_self _) (by omega) (rfl) (hW) (lv_sub hl [2, 3, 1, 0] rfl)
theorem hd_X8_made : yX8_made.cls ≠ "java/lang/invoke/MethodHandle" ∧ yX8_made.cls ≠ "java/lang/invoke/VarHandle" ∧ (parseMethodDescriptor yX8_made.desc).map (fun d => d.parameters.length) = some 0 := by decide +kernel
set_option maxHeartbeats 4000000 in
set_option maxRecDepth 100000 in
theorem c_X8_made {l : Launch} (hl9 : l.stackTraces = false) {D : va_G} {ct : Nat → ClassId} {ad : Nat → Nat} (sc sg sh : Nat → Int32) (el : Nat → Nat → UInt64) (nf : Nat → Nat → Int32) (lr : Nat → Nat → Option Nat)  : ar_M l yX8_made cX8_made 1 (some .int) 0 0 D ct (xL ad ct) [.ref (ad 0)] (sc, sg, sh, el, nf, lr) (fun v9 u9 => v9 = some (.int (sc 0)) ∧ u9 = (sc, sg, sh, el, nf, lr)) (fun _ _ => False) := by
  refine ar_ofW hl9 (by decide) (Nat.le_of_ble_eq_true rfl) ?_
  intro p e s m below meth c A ls C hr hnm hW hl
  have hx := C.1
  have hb := C.2.1
  have hown := C.2.2.2.1
  have hts := C.2.2.2.2.1
  have hl : lv_has ls 1 [(0, .ref (ad 0))] := hl
  refine lv_aload_n hx hb dX8_made_0 rfl (lv_at hl 0 rfl) ?_
  refine xg_madeByLatest C hW q135 dX8_made_1 ?_
  exact ar_iret C hr hW dX8_made_4 (⟨rfl, rfl⟩)
theorem hd_X8_runs : yX8_runs.cls ≠ "java/lang/invoke/MethodHandle" ∧ yX8_runs.cls ≠ "java/lang/invoke/VarHandle" ∧ (parseMethodDescriptor yX8_runs.desc).map (fun d => d.parameters.length) = some 0 := by decide +kernel
set_option maxHeartbeats 4000000 in
set_option maxRecDepth 100000 in
theorem c_X8_runs {l : Launch} (hl9 : l.stackTraces = false) {D : va_G} {ct : Nat → ClassId} {ad : Nat → Nat} (sc sg sh : Nat → Int32) (el : Nat → Nat → UInt64) (nf : Nat → Nat → Int32) (lr : Nat → Nat → Option Nat)  : ar_M l yX8_runs cX8_runs 1 (some .int) 0 0 D ct (xL ad ct) [.ref (ad 0)] (sc, sg, sh, el, nf, lr) (fun v9 u9 => v9 = some (.int (sc 1)) ∧ u9 = (sc, sg, sh, el, nf, lr)) (fun _ _ => False) := by
  refine ar_ofW hl9 (by decide) (Nat.le_of_ble_eq_true rfl) ?_
  intro p e s m below meth c A ls C hr hnm hW hl
  have hx := C.1
  have hb := C.2.1
  have hown := C.2.2.2.1
  have hts := C.2.2.2.2.1
  have hl : lv_has ls 1 [(0, .ref (ad 0))] := hl
  refine lv_aload_n hx hb dX8_runs_0 rfl (lv_at hl 0 rfl) ?_
  refine xg_runsSoFar C hW q136 dX8_runs_1 ?_
  exact ar_iret C hr hW dX8_runs_4 (⟨rfl, rfl⟩)
theorem hd_X8_shapeOf : yX8_shapeOf.cls ≠ "java/lang/invoke/MethodHandle" ∧ yX8_shapeOf.cls ≠ "java/lang/invoke/VarHandle" ∧ (parseMethodDescriptor yX8_shapeOf.desc).map (fun d => d.parameters.length) = some 1 := by decide +kernel
set_option maxHeartbeats 4000000 in
set_option maxRecDepth 100000 in
theorem c_X8_shapeOf {l : Launch} (hl9 : l.stackTraces = false) {D : va_G} {ct : Nat → ClassId} {ad : Nat → Nat} (sc sg sh : Nat → Int32) (el : Nat → Nat → UInt64) (nf : Nat → Nat → Int32) (lr : Nat → Nat → Option Nat) (v : Int32) (vs : Nat → Nat) (hvs : ∀ j, j < 8 → sh j = nI (vs j)) (hvl : ∀ j, j < 8 → vs j < 2 ^ 20) : ar_M l yX8_shapeOf cX8_shapeOf 2 (some .int) 1 20 D ct (xL ad ct) [.ref (ad 0), .int v] (sc, sg, sh, el, nf, lr) (fun v9 u9 => u9 = (sc, sg, sh, el, nf, lr) ∧ ((vOk v = false ∧ v9 = some (.int (-1))) ∨ ∃ j : Nat, j < 8 ∧ v = nI j ∧ v9 = some (.int (nI (vs j))))) (fun _ _ => False) := by
  refine ar_ofW hl9 (by decide) (Nat.le_of_ble_eq_true rfl) ?_
  intro p e s m below meth c A ls C hr hnm hW hl
  have hx := C.1
  have hb := C.2.1
  have hown := C.2.2.2.1
  have hts := C.2.2.2.2.1
  have hl : lv_has ls 2 [(0, .ref (ad 0)), (1, .int v)] := hl
  refine lv_iload_n hx hb dX8_shapeOf_0 rfl (lv_at hl 1 rfl) ?_
  refine ar_callS (As := [.int v]) (rest := []) C hW (c_X8_isVariable hl9 _ v) q174 q175 q1 q176 hd_X8_isVariable ⟨Nat.le_of_ble_eq_true rfl, Nat.le_of_ble_eq_true rfl⟩ hl.1 (Nat.le_of_ble_eq_true rfl) rfl dX8_shapeOf_1 (fun _ _ _ _ _ _ hp => hp.elim) (fun v9 u9 H locs hp hW => ?_)
  obtain ⟨rfl, hu9⟩ := hp
  rw [hu9] at hW
  refine W.eq (g2 := F0 m 4 ls [.int (bI (vOk v))]) rfl ?_
  refine lb_if_eq (tgt := 19) hx hb dX8_shapeOf_4 (by decide) (fun h1 => ?_) (fun h1 => ?_)
  · skip
    refine lv_iconst (v := -1) hx hb dX8_shapeOf_19 (by decide) ?_
    exact ar_iret C hr hW dX8_shapeOf_20 (⟨rfl, Or.inl ⟨h1, rfl⟩⟩)
  · skip
    obtain ⟨j, hj8, rfl⟩ := vOk_nat h1
    refine lv_aload_n hx hb dX8_shapeOf_7 rfl (lv_at hl 0 rfl) ?_
    refine xg_variables C hW q132 dX8_shapeOf_8 ?_
    refine lv_iload_n hx hb dX8_shapeOf_11 rfl (lv_at hl 1 rfl) ?_
    refine xl_variables (j := j) C hW (by omega) dX8_shapeOf_12 ?_
    refine xg_shape (j := j) C hW q38 (by omega) dX8_shapeOf_13 ?_
    refine ln_top (hvs j hj8) ?_
    refine lv_goto (tgt := 20) hx hb dX8_shapeOf_16 (by decide) ?_
    exact ar_iret C hr hW dX8_shapeOf_20 (⟨rfl, Or.inr ⟨j, hj8, rfl, rfl⟩⟩)
theorem hd_X8_size : yX8_size.cls ≠ "java/lang/invoke/MethodHandle" ∧ yX8_size.cls ≠ "java/lang/invoke/VarHandle" ∧ (parseMethodDescriptor yX8_size.desc).map (fun d => d.parameters.length) = some 1 := by decide +kernel
set_option maxHeartbeats 4000000 in
set_option maxRecDepth 100000 in
theorem c_X8_size {l : Launch} (hl9 : l.stackTraces = false) {D : va_G} {ct : Nat → ClassId} {ad : Nat → Nat} (sc sg sh : Nat → Int32) (el : Nat → Nat → UInt64) (nf : Nat → Nat → Int32) (lr : Nat → Nat → Option Nat) (v : Int32) (vs : Nat → Nat) (hvs : ∀ j, j < 8 → sh j = nI (vs j)) (hvl : ∀ j, j < 8 → vs j < 2 ^ 20) : ar_M l yX8_size cX8_size 2 (some .int) 3 60 D ct (xL ad ct) [.ref (ad 0), .int v] (sc, sg, sh, el, nf, lr) (fun v9 u9 => u9 = (sc, sg, sh, el, nf, lr) ∧ ((vOk v = false ∧ v9 = some (.int (-1))) ∨ ∃ j : Nat, j < 8 ∧ v = nI j ∧ v9 = some (.int (nI (zCt (vs j)))))) (fun _ _ => False) := by
  refine ar_ofW hl9 (by decide) (Nat.le_of_ble_eq_true rfl) ?_
  intro p e s m below meth c A ls C hr hnm hW hl
  have hx := C.1
  have hb := C.2.1
  have hown := C.2.2.2.1
  have hts := C.2.2.2.2.1
  have hl : lv_has ls 2 [(0, .ref (ad 0)), (1, .int v)] := hl
  refine lv_iload_n hx hb dX8_size_0 rfl (lv_at hl 1 rfl) ?_
  refine ar_callS (As := [.int v]) (rest := []) C hW (c_X8_isVariable hl9 _ v) q174 q175 q1 q176 hd_X8_isVariable ⟨Nat.le_of_ble_eq_true rfl, Nat.le_of_ble_eq_true rfl⟩ hl.1 (Nat.le_of_ble_eq_true rfl) rfl dX8_size_1 (fun _ _ _ _ _ _ hp => hp.elim) (fun v9 u9 H locs hp hW => ?_)
  obtain ⟨rfl, hu9⟩ := hp
  rw [hu9] at hW
  refine W.eq (g2 := F0 m 4 ls [.int (bI (vOk v))]) rfl ?_
  refine lb_if_eq (tgt := 19) hx hb dX8_size_4 (by decide) (fun h1 => ?_) (fun h1 => ?_)
  · skip
    refine lv_iconst (v := -1) hx hb dX8_size_19 (by decide) ?_
    exact ar_iret C hr hW dX8_size_20 (⟨rfl, Or.inl ⟨h1, rfl⟩⟩)
  · skip
    obtain ⟨j, hj8, rfl⟩ := vOk_nat h1
    refine lv_aload_n hx hb dX8_size_7 rfl (lv_at hl 0 rfl) ?_
    refine xg_variables C hW q132 dX8_size_8 ?_
    refine lv_iload_n hx hb dX8_size_11 rfl (lv_at hl 1 rfl) ?_
    refine xl_variables (j := j) C hW (by omega) dX8_size_12 ?_
    refine ar_callV (As := []) (rest := []) C hW (c_X1_count hl9 sc sg sh el nf lr j (by omega) (vs j) (by have := hvl j hj8; omega) (hvs j hj8)) (xl_at (by omega) (xc_na (j := j) (by omega))) rfl q228 q214 q215 q2 q216 hd_X1_count ⟨Nat.le_of_ble_eq_true rfl, Nat.le_of_ble_eq_true rfl⟩ hl.1 (Nat.le_of_ble_eq_true rfl) rfl dX8_size_13 (fun _ _ _ _ _ _ hp => hp.elim) (fun v9 u9 H locs hp hW => ?_)
    obtain ⟨rfl, hu9⟩ := hp
    rw [hu9] at hW
    refine W.eq (g2 := F0 m 16 ls [.int (nI (zCt (vs j)))]) rfl ?_
    refine lv_goto (tgt := 20) hx hb dX8_size_16 (by decide) ?_
    exact ar_iret C hr hW dX8_size_20 (⟨rfl, Or.inr ⟨j, hj8, rfl, rfl⟩⟩)
theorem hd_X8_at : yX8_at.cls ≠ "java/lang/invoke/MethodHandle" ∧ yX8_at.cls ≠ "java/lang/invoke/VarHandle" ∧ (parseMethodDescriptor yX8_at.desc).map (fun d => d.parameters.length) = some 2 := by decide +kernel
set_option maxHeartbeats 4000000 in
set_option maxRecDepth 100000 in
theorem c_X8_at {l : Launch} (hl9 : l.stackTraces = false) {D : va_G} {ct : Nat → ClassId} {ad : Nat → Nat} (sc sg sh : Nat → Int32) (el : Nat → Nat → UInt64) (nf : Nat → Nat → Int32) (lr : Nat → Nat → Option Nat) (v i : Int32) (vs : Nat → Nat) (hvs : ∀ j, j < 8 → sh j = nI (vs j)) (hvl : ∀ j, j < 8 → vs j < 2 ^ 20) (hvc : ∀ j, j < 8 → zCt (vs j) ≤ 24) : ar_M l yX8_at cX8_at 3 (some .double) 4 81 D ct (xL ad ct) [.ref (ad 0), .int v, .int i] (sc, sg, sh, el, nf, lr) (fun v9 u9 => u9 = (sc, sg, sh, el, nf, lr) ∧ (((vOk v = false ∨ ∃ j : Nat, j < 8 ∧ v = nI j ∧ zHas i (zCt (vs j)) = false) ∧ v9 = some (.double FP.dconst0)) ∨ ∃ j i9 : Nat, j < 8 ∧ v = nI j ∧ i9 < zCt (vs j) ∧ i = nI i9 ∧ v9 = some (.double (el j i9)))) (fun _ _ => False) := by
  refine ar_ofW hl9 (by decide) (Nat.le_of_ble_eq_true rfl) ?_
  intro p e s m below meth c A ls C hr hnm hW hl
  have hx := C.1
  have hb := C.2.1
  have hown := C.2.2.2.1
  have hts := C.2.2.2.2.1
  have hl : lv_has ls 3 [(0, .ref (ad 0)), (1, .int v), (2, .int i)] := hl
  refine lv_iload_n hx hb dX8_at_0 rfl (lv_at hl 1 rfl) ?_
  refine ar_callS (As := [.int v]) (rest := []) C hW (c_X8_isVariable hl9 _ v) q174 q175 q1 q176 hd_X8_isVariable ⟨Nat.le_of_ble_eq_true rfl, Nat.le_of_ble_eq_true rfl⟩ hl.1 (Nat.le_of_ble_eq_true rfl) rfl dX8_at_1 (fun _ _ _ _ _ _ hp => hp.elim) (fun v9 u9 H locs hp hW => ?_)
  obtain ⟨rfl, hu9⟩ := hp
  rw [hu9] at hW
  refine W.eq (g2 := F0 m 4 ls [.int (bI (vOk v))]) rfl ?_
  refine lb_if_eq (tgt := 34) hx hb dX8_at_4 (by decide) (fun h1 => ?_) (fun h1 => ?_)
  · skip
    refine lv_dconst0 hx hb dX8_at_34 ?_
    exact ar_dret C hr hW dX8_at_35 (⟨rfl, Or.inl ⟨by first | exact Or.inl h1 | exact Or.inr ⟨j, hj8, rfl, h2⟩, rfl⟩⟩)
  · skip
    obtain ⟨j, hj8, rfl⟩ := vOk_nat h1
    refine lv_aload_n hx hb dX8_at_7 rfl (lv_at hl 0 rfl) ?_
    refine xg_variables C hW q132 dX8_at_8 ?_
    refine lv_iload_n hx hb dX8_at_11 rfl (lv_at hl 1 rfl) ?_
    refine xl_variables (j := j) C hW (by omega) dX8_at_12 ?_
    refine lv_iload_n hx hb dX8_at_13 rfl (lv_at hl 2 rfl) ?_
    refine ar_callV (As := [.int i]) (rest := []) C hW (c_X1_hasElement hl9 sc sg sh el nf lr j (by omega) (vs j) (hvl j hj8) (hvs j hj8) i) (xl_at (by omega) (xc_na (j := j) (by omega))) rfl q209 q210 q211 q2 q212 hd_X1_hasElement ⟨Nat.le_of_ble_eq_true rfl, Nat.le_of_ble_eq_true rfl⟩ hl.1 (Nat.le_of_ble_eq_true rfl) rfl dX8_at_14 (fun _ _ _ _ _ _ hp => hp.elim) (fun v9 u9 H locs hp hW => ?_)
    obtain ⟨rfl, hu9⟩ := hp
    rw [hu9] at hW
    refine W.eq (g2 := F0 m 17 ls [.int (bI (zHas i (zCt (vs j))))]) rfl ?_
    refine lb_if_eq (tgt := 34) hx hb dX8_at_17 (by decide) (fun h2 => ?_) (fun h2 => ?_)
    · skip
      refine lv_dconst0 hx hb dX8_at_34 ?_
      exact ar_dret C hr hW dX8_at_35 (⟨rfl, Or.inl ⟨by first | exact Or.inl h1 | exact Or.inr ⟨j, hj8, rfl, h2⟩, rfl⟩⟩)
    · skip
      have hct9 : zCt (vs j) ≤ 24 := hvc j hj8
      obtain ⟨i9, hi9, rfl⟩ := zHas_nat (by omega) h2
      refine lv_aload_n hx hb dX8_at_20 rfl (lv_at hl 0 rfl) ?_
      refine xg_variables C hW q132 dX8_at_21 ?_
      refine lv_iload_n hx hb dX8_at_24 rfl (lv_at hl 1 rfl) ?_
      refine xl_variables (j := j) C hW (by omega) dX8_at_25 ?_
      refine xg_elements (j := j) C hW q43 (by omega) dX8_at_26 ?_
      refine lv_iload_n hx hb dX8_at_29 rfl (lv_at hl 2 rfl) ?_
      refine xl_elements (j := j) (i := i9) C hW (by omega) (by omega) dX8_at_30 ?_
      refine lv_goto (tgt := 35) hx hb dX8_at_31 (by decide) ?_
      exact ar_dret C hr hW dX8_at_35 (⟨rfl, Or.inr ⟨j, i9, hj8, rfl, hi9, rfl, rfl⟩⟩)
theorem hd_X8_put : yX8_put.cls ≠ "java/lang/invoke/MethodHandle" ∧ yX8_put.cls ≠ "java/lang/invoke/VarHandle" ∧ (parseMethodDescriptor yX8_put.desc).map (fun d => d.parameters.length) = some 2 := by decide +kernel
set_option maxHeartbeats 4000000 in
set_option maxRecDepth 100000 in
theorem c_X8_put {l : Launch} (hl9 : l.stackTraces = false) {D : va_G} {ct : Nat → ClassId} {ad : Nat → Nat} (sc sg sh : Nat → Int32) (el : Nat → Nat → UInt64) (nf : Nat → Nat → Int32) (lr : Nat → Nat → Option Nat) (v : Int32) (x : UInt64) : ar_M l yX8_put cX8_put 4 (some .boolean) 1 21 D ct (xL ad ct) [.ref (ad 0), .int v, .double x] (sc, sg, sh, el, nf, lr) (fun v9 u9 => ((vOk v = false ∨ zRg x = false) ∧ v9 = some (.int (nI 0)) ∧ u9 = (sc, sg, sh, el, nf, lr)) ∨ ∃ j : Nat, j < 8 ∧ v = nI j ∧ zRg x = true ∧ v9 = some (.int (nI 1)) ∧ u9 = (sc, sg, va_up sh j (nI 0), va_up el j (va_up (el j) 0 x), nf, lr)) (fun _ _ => False) := by
  refine ar_ofW hl9 (by decide) (Nat.le_of_ble_eq_true rfl) ?_
  intro p e s m below meth c A ls C hr hnm hW hl
  have hx := C.1
  have hb := C.2.1
  have hown := C.2.2.2.1
  have hts := C.2.2.2.2.1
  have hl : lv_has ls 4 [(0, .ref (ad 0)), (1, .int v), (2, .double x)] := hl
  refine lv_iload_n hx hb dX8_put_0 rfl (lv_at hl 1 rfl) ?_
  refine ar_callS (As := [.int v]) (rest := []) C hW (c_X8_isVariable hl9 _ v) q174 q175 q1 q176 hd_X8_isVariable ⟨Nat.le_of_ble_eq_true rfl, Nat.le_of_ble_eq_true rfl⟩ hl.1 (Nat.le_of_ble_eq_true rfl) rfl dX8_put_1 (fun _ _ _ _ _ _ hp => hp.elim) (fun v9 u9 H locs hp hW => ?_)
  obtain ⟨rfl, hu9⟩ := hp
  rw [hu9] at hW
  refine W.eq (g2 := F0 m 4 ls [.int (bI (vOk v))]) rfl ?_
  refine lb_if_eq (tgt := 14) hx hb dX8_put_4 (by decide) (fun h1 => ?_) (fun h1 => ?_)
  · skip
    refine lv_iconst (v := nI 0) hx hb dX8_put_14 (by decide) ?_
    exact ar_zret C hr (nI_z0.1) hW dX8_put_15 (Or.inl ⟨by first | exact Or.inl h1 | exact Or.inr h2, rfl, rfl⟩)
  · skip
    obtain ⟨j, hj8, rfl⟩ := vOk_nat h1
    refine lv_dload_n hx hb dX8_put_7 rfl (lv_at hl 2 rfl) ?_
    refine ar_callS (As := [.double x]) (rest := []) C hW (c_X8_isInRange hl9 _ x) q177 q178 q1 q179 hd_X8_isInRange ⟨Nat.le_of_ble_eq_true rfl, Nat.le_of_ble_eq_true rfl⟩ hl.1 (Nat.le_of_ble_eq_true rfl) rfl dX8_put_8 (fun _ _ _ _ _ _ hp => hp.elim) (fun v9 u9 H locs hp hW => ?_)
    obtain ⟨rfl, hu9⟩ := hp
    rw [hu9] at hW
    refine W.eq (g2 := F0 m 11 ls [.int (bI (zRg x))]) rfl ?_
    refine lb_if_ne (tgt := 16) hx hb dX8_put_11 (by decide) (fun h2 => ?_) (fun h2 => ?_)
    · skip
      refine lv_aload_n hx hb dX8_put_16 rfl (lv_at hl 0 rfl) ?_
      refine xg_variables C hW q132 dX8_put_17 ?_
      refine lv_iload_n hx hb dX8_put_20 rfl (lv_at hl 1 rfl) ?_
      refine xl_variables (j := j) C hW (by omega) dX8_put_21 ?_
      refine lv_iconst (v := nI 0) hx hb dX8_put_22 (by decide) ?_
      refine xp_shape (j := j) C hW q38 (by omega) dX8_put_23 (fun H locs hW => ?_)
      refine lv_aload_n hx hb dX8_put_26 rfl (lv_at hl 0 rfl) ?_
      refine xg_variables C hW q132 dX8_put_27 ?_
      refine lv_iload_n hx hb dX8_put_30 rfl (lv_at hl 1 rfl) ?_
      refine xl_variables (j := j) C hW (by omega) dX8_put_31 ?_
      refine xg_elements (j := j) C hW q43 (by omega) dX8_put_32 ?_
      refine lv_iconst (v := nI 0) hx hb dX8_put_35 (by decide) ?_
      refine lv_dload_n hx hb dX8_put_36 rfl (lv_at hl 2 rfl) ?_
      refine xs_elements (j := j) (i := 0) C hW (by omega) (by omega) dX8_put_37 (fun H locs hW => ?_)
      refine lv_iconst (v := nI 1) hx hb dX8_put_38 (by decide) ?_
      exact ar_zret C hr (nI_z1.1) hW dX8_put_39 (Or.inr ⟨j, hj8, rfl, h2, rfl, rfl⟩)
    · skip
      refine lv_iconst (v := nI 0) hx hb dX8_put_14 (by decide) ?_
      exact ar_zret C hr (nI_z0.1) hW dX8_put_15 (Or.inl ⟨by first | exact Or.inl h1 | exact Or.inr h2, rfl, rfl⟩)
theorem hd_X8_shape : yX8_shape.cls ≠ "java/lang/invoke/MethodHandle" ∧ yX8_shape.cls ≠ "java/lang/invoke/VarHandle" ∧ (parseMethodDescriptor yX8_shape.desc).map (fun d => d.parameters.length) = some 2 := by decide +kernel
set_option maxHeartbeats 4000000 in
set_option maxRecDepth 100000 in
theorem c_X8_shape {l : Launch} (hl9 : l.stackTraces = false) {D : va_G} {ct : Nat → ClassId} {ad : Nat → Nat} (sc sg sh : Nat → Int32) (el : Nat → Nat → UInt64) (nf : Nat → Nat → Int32) (lr : Nat → Nat → Option Nat) (v x : Int32) : ar_M l yX8_shape cX8_shape 3 (some .boolean) 2 41 D ct (xL ad ct) [.ref (ad 0), .int v, .int x] (sc, sg, sh, el, nf, lr) (fun v9 u9 => ((vOk v = false ∨ zEx x = false) ∧ v9 = some (.int (nI 0)) ∧ u9 = (sc, sg, sh, el, nf, lr)) ∨ ∃ j : Nat, j < 8 ∧ v = nI j ∧ zEx x = true ∧ v9 = some (.int (nI 1)) ∧ u9 = (sc, sg, va_up sh j x, va_up el j (zZ (el j)), nf, lr)) (fun _ _ => False) := by
  refine ar_ofW hl9 (by decide) (Nat.le_of_ble_eq_true rfl) ?_
  intro p e s m below meth c A ls C hr hnm hW hl
  have hx := C.1
  have hb := C.2.1
  have hown := C.2.2.2.1
  have hts := C.2.2.2.2.1
  have hl : lv_has ls 3 [(0, .ref (ad 0)), (1, .int v), (2, .int x)] := hl
  refine lv_iload_n hx hb dX8_shape_0 rfl (lv_at hl 1 rfl) ?_
  refine ar_callS (As := [.int v]) (rest := []) C hW (c_X8_isVariable hl9 _ v) q174 q175 q1 q176 hd_X8_isVariable ⟨Nat.le_of_ble_eq_true rfl, Nat.le_of_ble_eq_true rfl⟩ hl.1 (Nat.le_of_ble_eq_true rfl) rfl dX8_shape_1 (fun _ _ _ _ _ _ hp => hp.elim) (fun v9 u9 H locs hp hW => ?_)
  obtain ⟨rfl, hu9⟩ := hp
  rw [hu9] at hW
  refine W.eq (g2 := F0 m 4 ls [.int (bI (vOk v))]) rfl ?_
  refine lb_if_eq (tgt := 14) hx hb dX8_shape_4 (by decide) (fun h1 => ?_) (fun h1 => ?_)
  · skip
    refine lv_iconst (v := nI 0) hx hb dX8_shape_14 (by decide) ?_
    exact ar_zret C hr (nI_z0.1) hW dX8_shape_15 (Or.inl ⟨by first | exact Or.inl h1 | exact Or.inr h2, rfl, rfl⟩)
  · skip
    obtain ⟨j, hj8, rfl⟩ := vOk_nat h1
    refine lv_iload_n hx hb dX8_shape_7 rfl (lv_at hl 2 rfl) ?_
    refine ar_callS (As := [.int x]) (rest := []) C hW (c_X4_exists hl9 _ x) q186 q187 q7 q188 hd_X4_exists ⟨Nat.le_of_ble_eq_true rfl, Nat.le_of_ble_eq_true rfl⟩ hl.1 (Nat.le_of_ble_eq_true rfl) rfl dX8_shape_8 (fun _ _ _ _ _ _ hp => hp.elim) (fun v9 u9 H locs hp hW => ?_)
    obtain ⟨rfl, hu9⟩ := hp
    rw [hu9] at hW
    refine W.eq (g2 := F0 m 11 ls [.int (bI (zEx x))]) rfl ?_
    refine lb_if_ne (tgt := 16) hx hb dX8_shape_11 (by decide) (fun h2 => ?_) (fun h2 => ?_)
    · skip
      refine lv_aload_n hx hb dX8_shape_16 rfl (lv_at hl 0 rfl) ?_
      refine xg_variables C hW q132 dX8_shape_17 ?_
      refine lv_iload_n hx hb dX8_shape_20 rfl (lv_at hl 1 rfl) ?_
      refine xl_variables (j := j) C hW (by omega) dX8_shape_21 ?_
      refine lv_iload_n hx hb dX8_shape_22 rfl (lv_at hl 2 rfl) ?_
      refine ar_callV (As := [.int x]) (rest := []) C hW (c_X1_becomeZeros hl9 sc sg sh el nf lr j (by omega) x) (xl_at (by omega) (xc_na (j := j) (by omega))) rfl q201 q202 q203 q2 q204 hd_X1_becomeZeros ⟨Nat.le_of_ble_eq_true rfl, Nat.le_of_ble_eq_true rfl⟩ hl.1 (Nat.le_of_ble_eq_true rfl) rfl dX8_shape_23 (fun _ _ _ _ _ _ hp => hp.elim) (fun v9 u9 H locs hp hW => ?_)
      obtain ⟨rfl, hu9⟩ := hp
      rw [hu9] at hW
      refine W.eq (g2 := F0 m 26 ls []) rfl ?_
      refine lv_iconst (v := nI 1) hx hb dX8_shape_26 (by decide) ?_
      exact ar_zret C hr (nI_z1.1) hW dX8_shape_27 (Or.inr ⟨j, hj8, rfl, h2, rfl, rfl⟩)
    · skip
      refine lv_iconst (v := nI 0) hx hb dX8_shape_14 (by decide) ?_
      exact ar_zret C hr (nI_z0.1) hW dX8_shape_15 (Or.inl ⟨by first | exact Or.inl h1 | exact Or.inr h2, rfl, rfl⟩)
theorem hd_X8_set : yX8_set.cls ≠ "java/lang/invoke/MethodHandle" ∧ yX8_set.cls ≠ "java/lang/invoke/VarHandle" ∧ (parseMethodDescriptor yX8_set.desc).map (fun d => d.parameters.length) = some 3 := by decide +kernel
set_option maxHeartbeats 4000000 in
set_option maxRecDepth 100000 in
theorem c_X8_set {l : Launch} (hl9 : l.stackTraces = false) {D : va_G} {ct : Nat → ClassId} {ad : Nat → Nat} (sc sg sh : Nat → Int32) (el : Nat → Nat → UInt64) (nf : Nat → Nat → Int32) (lr : Nat → Nat → Option Nat) (v i : Int32) (x : UInt64) (vs : Nat → Nat) (hvs : ∀ j, j < 8 → sh j = nI (vs j)) (hvl : ∀ j, j < 8 → vs j < 2 ^ 20) (hvc : ∀ j, j < 8 → zCt (vs j) ≤ 24) : ar_M l yX8_set cX8_set 5 (some .boolean) 4 81 D ct (xL ad ct) [.ref (ad 0), .int v, .int i, .double x] (sc, sg, sh, el, nf, lr) (fun v9 u9 => ((vOk v = false ∨ (∃ j : Nat, j < 8 ∧ v = nI j ∧ zHas i (zCt (vs j)) = false) ∨ zRg x = false) ∧ v9 = some (.int (nI 0)) ∧ u9 = (sc, sg, sh, el, nf, lr)) ∨ ∃ j i9 : Nat, j < 8 ∧ v = nI j ∧ i9 < zCt (vs j) ∧ i = nI i9 ∧ zRg x = true ∧ v9 = some (.int (nI 1)) ∧ u9 = (sc, sg, sh, va_up el j (va_up (el j) i9 x), nf, lr)) (fun _ _ => False) := by
  refine ar_ofW hl9 (by decide) (Nat.le_of_ble_eq_true rfl) ?_
  intro p e s m below meth c A ls C hr hnm hW hl
  have hx := C.1
  have hb := C.2.1
  have hown := C.2.2.2.1
  have hts := C.2.2.2.2.1
  have hl : lv_has ls 5 [(0, .ref (ad 0)), (1, .int v), (2, .int i), (3, .double x)] := hl
  refine lv_iload_n hx hb dX8_set_0 rfl (lv_at hl 1 rfl) ?_
  refine ar_callS (As := [.int v]) (rest := []) C hW (c_X8_isVariable hl9 _ v) q174 q175 q1 q176 hd_X8_isVariable ⟨Nat.le_of_ble_eq_true rfl, Nat.le_of_ble_eq_true rfl⟩ hl.1 (Nat.le_of_ble_eq_true rfl) rfl dX8_set_1 (fun _ _ _ _ _ _ hp => hp.elim) (fun v9 u9 H locs hp hW => ?_)
  obtain ⟨rfl, hu9⟩ := hp
  rw [hu9] at hW
  refine W.eq (g2 := F0 m 4 ls [.int (bI (vOk v))]) rfl ?_
  refine lb_if_eq (tgt := 27) hx hb dX8_set_4 (by decide) (fun h1 => ?_) (fun h1 => ?_)
  · skip
    refine lv_iconst (v := nI 0) hx hb dX8_set_27 (by decide) ?_
    exact ar_zret C hr (nI_z0.1) hW dX8_set_28 (Or.inl ⟨by first | exact Or.inl h1 | exact Or.inr (Or.inl ⟨j, hj8, rfl, h2⟩) | exact Or.inr (Or.inr h3), rfl, rfl⟩)
  · skip
    obtain ⟨j, hj8, rfl⟩ := vOk_nat h1
    refine lv_aload_n hx hb dX8_set_7 rfl (lv_at hl 0 rfl) ?_
    refine xg_variables C hW q132 dX8_set_8 ?_
    refine lv_iload_n hx hb dX8_set_11 rfl (lv_at hl 1 rfl) ?_
    refine xl_variables (j := j) C hW (by omega) dX8_set_12 ?_
    refine lv_iload_n hx hb dX8_set_13 rfl (lv_at hl 2 rfl) ?_
    refine ar_callV (As := [.int i]) (rest := []) C hW (c_X1_hasElement hl9 sc sg sh el nf lr j (by omega) (vs j) (hvl j hj8) (hvs j hj8) i) (xl_at (by omega) (xc_na (j := j) (by omega))) rfl q209 q210 q211 q2 q212 hd_X1_hasElement ⟨Nat.le_of_ble_eq_true rfl, Nat.le_of_ble_eq_true rfl⟩ hl.1 (Nat.le_of_ble_eq_true rfl) rfl dX8_set_14 (fun _ _ _ _ _ _ hp => hp.elim) (fun v9 u9 H locs hp hW => ?_)
    obtain ⟨rfl, hu9⟩ := hp
    rw [hu9] at hW
    refine W.eq (g2 := F0 m 17 ls [.int (bI (zHas i (zCt (vs j))))]) rfl ?_
    refine lb_if_eq (tgt := 27) hx hb dX8_set_17 (by decide) (fun h2 => ?_) (fun h2 => ?_)
    · skip
      refine lv_iconst (v := nI 0) hx hb dX8_set_27 (by decide) ?_
      exact ar_zret C hr (nI_z0.1) hW dX8_set_28 (Or.inl ⟨by first | exact Or.inl h1 | exact Or.inr (Or.inl ⟨j, hj8, rfl, h2⟩) | exact Or.inr (Or.inr h3), rfl, rfl⟩)
    · skip
      have hct9 : zCt (vs j) ≤ 24 := hvc j hj8
      obtain ⟨i9, hi9, rfl⟩ := zHas_nat (by omega) h2
      refine lv_dload_n hx hb dX8_set_20 rfl (lv_at hl 3 rfl) ?_
      refine ar_callS (As := [.double x]) (rest := []) C hW (c_X8_isInRange hl9 _ x) q177 q178 q1 q179 hd_X8_isInRange ⟨Nat.le_of_ble_eq_true rfl, Nat.le_of_ble_eq_true rfl⟩ hl.1 (Nat.le_of_ble_eq_true rfl) rfl dX8_set_21 (fun _ _ _ _ _ _ hp => hp.elim) (fun v9 u9 H locs hp hW => ?_)
      obtain ⟨rfl, hu9⟩ := hp
      rw [hu9] at hW
      refine W.eq (g2 := F0 m 24 ls [.int (bI (zRg x))]) rfl ?_
      refine lb_if_ne (tgt := 29) hx hb dX8_set_24 (by decide) (fun h3 => ?_) (fun h3 => ?_)
      · skip
        refine lv_aload_n hx hb dX8_set_29 rfl (lv_at hl 0 rfl) ?_
        refine xg_variables C hW q132 dX8_set_30 ?_
        refine lv_iload_n hx hb dX8_set_33 rfl (lv_at hl 1 rfl) ?_
        refine xl_variables (j := j) C hW (by omega) dX8_set_34 ?_
        refine xg_elements (j := j) C hW q43 (by omega) dX8_set_35 ?_
        refine lv_iload_n hx hb dX8_set_38 rfl (lv_at hl 2 rfl) ?_
        refine lv_dload_n hx hb dX8_set_39 rfl (lv_at hl 3 rfl) ?_
        refine xs_elements (j := j) (i := i9) C hW (by omega) (by omega) dX8_set_40 (fun H locs hW => ?_)
        refine lv_iconst (v := nI 1) hx hb dX8_set_41 (by decide) ?_
        exact ar_zret C hr (nI_z1.1) hW dX8_set_42 (Or.inr ⟨j, i9, hj8, rfl, hi9, rfl, h3, rfl, rfl⟩)
      · skip
        refine lv_iconst (v := nI 0) hx hb dX8_set_27 (by decide) ?_
        exact ar_zret C hr (nI_z0.1) hW dX8_set_28 (Or.inl ⟨by first | exact Or.inl h1 | exact Or.inr (Or.inl ⟨j, hj8, rfl, h2⟩) | exact Or.inr (Or.inr h3), rfl, rfl⟩)
theorem hd_X8_erase : yX8_erase.cls ≠ "java/lang/invoke/MethodHandle" ∧ yX8_erase.cls ≠ "java/lang/invoke/VarHandle" ∧ (parseMethodDescriptor yX8_erase.desc).map (fun d => d.parameters.length) = some 0 := by decide +kernel
set_option maxHeartbeats 4000000 in
set_option maxRecDepth 100000 in
theorem c_X8_erase {l : Launch} (hl9 : l.stackTraces = false) {D : va_G} {ct : Nat → ClassId} {ad : Nat → Nat} (sc sg sh : Nat → Int32) (el : Nat → Nat → UInt64) (nf : Nat → Nat → Int32) (lr : Nat → Nat → Option Nat) (n : Nat) (hlen : sc 2 = nI n) : ar_M l yX8_erase cX8_erase 1 (some .int) 1 21 D ct (xL ad ct) [.ref (ad 0)] (sc, sg, sh, el, nf, lr) (fun v9 u9 => v9 = some (.int (nI n)) ∧ u9 = (va_up sc 2 (nI 0), sg, sh, el, nf, lr)) (fun _ _ => False) := by
  refine ar_ofW hl9 (by decide) (Nat.le_of_ble_eq_true rfl) ?_
  intro p e s m below meth c A ls C hr hnm hW hl
  have hx := C.1
  have hb := C.2.1
  have hown := C.2.2.2.1
  have hts := C.2.2.2.2.1
  have hl : lv_has ls 1 [(0, .ref (ad 0))] := hl
  refine lv_aload_n hx hb dX8_erase_0 rfl (lv_at hl 0 rfl) ?_
  refine xg_text C hW q133 dX8_erase_1 ?_
  refine ar_callV (As := []) (rest := []) C hW (c_X5_clear hl9 sc sg sh el nf lr n hlen) (xl_at (by decide) rfl) rfl q166 q167 q168 q3 q169 hd_X5_clear ⟨Nat.le_of_ble_eq_true rfl, Nat.le_of_ble_eq_true rfl⟩ hl.1 (Nat.le_of_ble_eq_true rfl) rfl dX8_erase_4 (fun _ _ _ _ _ _ hp => hp.elim) (fun v9 u9 H locs hp hW => ?_)
  obtain ⟨rfl, hu9⟩ := hp
  rw [hu9] at hW
  refine W.eq (g2 := F0 m 7 ls [.int (nI n)]) rfl ?_
  exact ar_iret C hr hW dX8_erase_7 (⟨rfl, rfl⟩)
theorem hd_X8_write : yX8_write.cls ≠ "java/lang/invoke/MethodHandle" ∧ yX8_write.cls ≠ "java/lang/invoke/VarHandle" ∧ (parseMethodDescriptor yX8_write.desc).map (fun d => d.parameters.length) = some 1 := by decide +kernel
set_option maxHeartbeats 4000000 in
set_option maxRecDepth 100000 in
theorem c_X8_write {l : Launch} (hl9 : l.stackTraces = false) {D : va_G} {ct : Nat → ClassId} {ad : Nat → Nat} (sc sg sh : Nat → Int32) (el : Nat → Nat → UInt64) (nf : Nat → Nat → Int32) (lr : Nat → Nat → Option Nat) (x : Int64) (n : Nat) (hn : n ≤ 40) (hlen : sc 2 = nI n) : ar_M l yX8_write cX8_write 3 (some .int) 3 69 D ct (xL ad ct) [.ref (ad 0), .long x] (sc, sg, sh, el, nf, lr) (fun v9 u9 => (zWr x n = none ∧ v9 = some (.int (-1)) ∧ u9 = (sc, sg, sh, el, nf, lr)) ∨ (∃ cnt : Nat, zWr x n = some cnt ∧ v9 = some (.int (nI cnt)) ∧ u9 = (va_up sc 2 (nI (n + cnt)), zAp sg x n cnt, sh, el, nf, lr))) (fun _ _ => False) := by
  refine ar_ofW hl9 (by decide) (Nat.le_of_ble_eq_true rfl) ?_
  intro p e s m below meth c A ls C hr hnm hW hl
  have hx := C.1
  have hb := C.2.1
  have hown := C.2.2.2.1
  have hts := C.2.2.2.2.1
  have hl : lv_has ls 3 [(0, .ref (ad 0)), (1, .long x)] := hl
  refine lv_aload_n hx hb dX8_write_0 rfl (lv_at hl 0 rfl) ?_
  refine xg_text C hW q133 dX8_write_1 ?_
  refine lv_lload_n hx hb dX8_write_4 rfl (lv_at hl 1 rfl) ?_
  refine ar_callV (As := [.long x]) (rest := []) C hW (c_X5_append hl9 sc sg sh el nf lr x n hn hlen) (xl_at (by decide) rfl) rfl q152 q153 q154 q3 q155 hd_X5_append ⟨Nat.le_of_ble_eq_true rfl, Nat.le_of_ble_eq_true rfl⟩ hl.1 (Nat.le_of_ble_eq_true rfl) rfl dX8_write_5 (fun _ _ _ _ _ _ hp => hp.elim) (fun v9 u9 H locs hp hW => ?_)
  obtain ⟨r9, rfl⟩ : ∃ r9, v9 = some (.int r9) := by rcases hp with ⟨-, h, -⟩ | ⟨cnt, -, h, -⟩ <;> exact ⟨_, h⟩
  refine W.eq (g2 := F0 m 8 ls [.int r9]) rfl ?_
  exact ar_iret C hr hW dX8_write_8 (hp)
end
section
theorem zIn_v (v : Int32) : zIn v (nI 0) (nI 7) = vOk v := by
  unfold zIn vOk
  refine decide_eq_decide.mpr ⟨fun h => ⟨h.1, Int32.lt_of_le_of_lt h.2 (by decide)⟩, fun h => ⟨h.1, ?_⟩⟩
  obtain ⟨j, hj, rfl⟩ := nI_of (x := v) (fun q => absurd q (Int32.not_lt.mpr h.1))
  have := (nI_ltI hj (by decide)).mp h.2
  exact (nI_leI hj (by decide)).mpr (by omega)
theorem zIn_has {i : Int32} {n : Nat} (h0 : 1 ≤ n) (hn : n < 2 ^ 31) : zIn i (nI 0) (nI (n - 1)) = zHas i n := by
  unfold zIn zHas
  refine decide_eq_decide.mpr ⟨fun h => ⟨h.1, Int32.lt_of_le_of_lt h.2 (nI_lt (by omega) hn)⟩, fun h => ⟨h.1, ?_⟩⟩
  obtain ⟨j, hj, rfl⟩ := nI_of (x := i) (fun q => absurd q (Int32.not_lt.mpr h.1))
  have := (nI_ltI hj hn).mp h.2
  exact (nI_leI hj (by omega)).mpr (by omega)
theorem zIn_nat {a b d : Nat} (ha : a < 2 ^ 31) (hb : b < 2 ^ 31) (hd : d < 2 ^ 31) : zIn (nI a) (nI b) (nI d) = decide (b ≤ a ∧ a ≤ d) := by
  unfold zIn
  refine decide_eq_decide.mpr ⟨fun h => ⟨(nI_leI hb ha).mp h.1, (nI_leI ha hd).mp h.2⟩, fun h => ⟨(nI_leI hb ha).mpr h.1, (nI_leI ha hd).mpr h.2⟩⟩
theorem zEx_neg {x : Int32} (h : x < 0) : zEx x = false := by unfold zEx; rw [if_pos (Or.inl h)]
theorem zEx_nat {j : Nat} (hj : j < 2 ^ 31) : zEx (nI j) = decide (j ≤ 24 ∨ (1 ≤ j / 32 ∧ j / 32 ≤ 24 ∧ 1 ≤ j % 32 ∧ j % 32 ≤ 24 ∧ j / 32 * (j % 32) ≤ 24)) := by
  unfold zEx
  by_cases h : j ≤ 792
  · rw [if_neg (by rintro (q | q)
                   · exact nI_pos hj q
                   · exact absurd ((nI_ltI (by decide) hj).mp q) (by omega)), nI_clamp hj]
    unfold zOk zFit zLn zLg
    by_cases h0 : j = 0
    · subst h0
      decide
    · by_cases h1 : 31 < j
      · rw [if_pos h1, if_neg h0, show (j == 0) = false by simpa using h0, Bool.false_or]
        refine decide_eq_decide.mpr ⟨fun q => Or.inr q, ?_⟩
        rintro (q | q)
        · omega
        · exact q
      · rw [if_neg h1, if_neg h0, show (j == 0) = false by simpa using h0, Bool.false_or, Nat.mod_eq_of_lt (show j < 32 by omega), Nat.div_eq_of_lt (show j < 32 by omega)]
        refine decide_eq_decide.mpr ⟨fun q => Or.inl q.2.2.2.1, ?_⟩
        rintro (q | q)
        · exact ⟨by omega, by omega, by omega, q, by omega⟩
        · omega
  · rw [if_pos (Or.inr ((nI_ltI (by decide) hj).mpr (by omega)))]
    symm
    rw [decide_eq_false_iff_not]
    omega
theorem hd_X9_isShape : yX9_isShape.cls ≠ "java/lang/invoke/MethodHandle" ∧ yX9_isShape.cls ≠ "java/lang/invoke/VarHandle" ∧ (parseMethodDescriptor yX9_isShape.desc).map (fun d => d.parameters.length) = some 1 := by decide +kernel
set_option maxHeartbeats 4000000 in
set_option maxRecDepth 100000 in
theorem c_X9_isShape {l : Launch} (hl9 : l.stackTraces = false) {D : va_G} {ct : Nat → ClassId} {S : Type} {wl : S → va_W} (u0 : S) (x : Int32) : ar_M l yX9_isShape cX9_isShape 3 (some .boolean) 1 22 D ct wl [.int x] u0 (fun v9 u9 => v9 = some (.int (bI (zEx x))) ∧ u9 = u0) (fun _ _ => False) := by
  refine ar_ofW hl9 (by decide) (Nat.le_of_ble_eq_true rfl) ?_
  intro p e s m below meth c A ls C hr hnm hW hl
  have hx := C.1
  have hb := C.2.1
  have hown := C.2.2.2.1
  have hts := C.2.2.2.2.1
  have hl : lv_has ls 3 [(0, .int x)] := hl
  refine lv_iload_n hx hb dX9_isShape_0 rfl (lv_at hl 0 rfl) ?_
  refine lv_iconst (v := nI 0) hx hb dX9_isShape_1 (by decide) ?_
  refine lv_bipush (v := nI 24) hx hb dX9_isShape_2 (by decide) ?_
  refine ar_callS (As := [.int x, .int (nI 0), .int (nI 24)]) (rest := []) C hW (c_X9_within hl9 _ x (nI 0) (nI 24)) q686 q687 q6 q688 hd_X9_within ⟨Nat.le_of_ble_eq_true rfl, Nat.le_of_ble_eq_true rfl⟩ hl.1 (Nat.le_of_ble_eq_true rfl) rfl dX9_isShape_4 (fun _ _ _ _ _ _ hp => hp.elim) (fun v9 u9 H locs hp hW => ?_)
  obtain ⟨rfl, hu9⟩ := hp
  rw [hu9] at hW
  refine W.eq (g2 := F0 m 7 ls [.int (bI (zIn x (nI 0) (nI 24)))]) rfl ?_
  refine lb_if_eq (tgt := 12) hx hb dX9_isShape_7 (by decide) (fun h1 => ?_) (fun h1 => ?_)
  · skip
    refine lv_iload_n hx hb dX9_isShape_12 rfl (lv_at hl 0 rfl) ?_
    refine lv_bipush (v := nI 32) hx hb dX9_isShape_13 (by decide) ?_
    refine lv_idiv hx hb dX9_isShape_15 (by decide) ?_
    refine lv_istore_n (lv' := [(1, .int (x / nI 32)), (0, .int x)]) hx hb dX9_isShape_16 rfl hl (by decide) rfl (fun ls hl => ?_)
    refine lv_iload_n hx hb dX9_isShape_17 rfl (lv_at hl 1 rfl) ?_
    refine lv_bipush (v := nI 32) hx hb dX9_isShape_18 (by decide) ?_
    refine lv_irem hx hb dX9_isShape_20 (by decide) ?_
    refine lv_istore_n (lv' := [(2, .int (x - x / nI 32 * nI 32)), (1, .int (x / nI 32)), (0, .int x)]) hx hb dX9_isShape_21 rfl hl (by decide) rfl (fun ls hl => ?_)
    refine lv_iload_n hx hb dX9_isShape_22 rfl (lv_at hl 2 rfl) ?_
    refine lv_if_le (tgt := 58) hx hb dX9_isShape_23 (by decide) (fun h2 => ?_) (fun h2 => ?_)
    · skip
      refine lv_iconst (v := nI 0) hx hb dX9_isShape_58 (by decide) ?_
      exact ar_zret C hr (nI_z0.1) hW dX9_isShape_59 (⟨congrArg (fun z => some (Value.int z)) (bI_f (by first | exact zEx_neg (Int32.lt_of_le_of_ne h2 (fun q => by subst q; exact absurd h1 (by decide))) | (rw [zIn_nat (by omega) (by decide) (by decide), decide_eq_true_eq] at h3; rw [zIn_nat (by omega) (by decide) (by decide), decide_eq_true_eq] at h4; rw [decide_eq_false_iff_not] at h1; rw [hz, decide_eq_false_iff_not]; rintro (q | q) <;> omega) | (rw [zIn_nat (by omega) (by decide) (by decide), decide_eq_true_eq] at h3; rw [zIn_nat (by omega) (by decide) (by decide), decide_eq_false_iff_not] at h4; rw [decide_eq_false_iff_not] at h1; rw [hz, decide_eq_false_iff_not]; rintro (q | q) <;> omega) | (rw [zIn_nat (by omega) (by decide) (by decide), decide_eq_false_iff_not] at h3; rw [decide_eq_false_iff_not] at h1; rw [hz, decide_eq_false_iff_not]; rintro (q | q) <;> omega))), rfl⟩)
    · skip
      obtain ⟨j, hj9, rfl⟩ := nI_of (x := x) (fun q => h2 (Int32.le_of_lt q))
      rw [pk_div hj9 (by decide) (by decide)] at hl
      have he9 : nI j - nI (j / 32) * nI 32 = nI (j % 32) := by rw [← pk_div hj9 (by decide) (by decide)]; exact pk_rem hj9 (by decide) (by decide)
      rw [he9] at hl
      have hz := zEx_nat hj9
      rw [zIn_nat hj9 (by decide) (by decide)] at h1
      refine lv_iload_n hx hb dX9_isShape_26 rfl (lv_at hl 1 rfl) ?_
      refine lv_iconst (v := nI 1) hx hb dX9_isShape_27 (by decide) ?_
      refine lv_bipush (v := nI 24) hx hb dX9_isShape_28 (by decide) ?_
      refine ar_callS (As := [.int (nI (j / 32)), .int (nI 1), .int (nI 24)]) (rest := []) C hW (c_X9_within hl9 _ (nI (j / 32)) (nI 1) (nI 24)) q686 q687 q6 q688 hd_X9_within ⟨Nat.le_of_ble_eq_true rfl, Nat.le_of_ble_eq_true rfl⟩ hl.1 (Nat.le_of_ble_eq_true rfl) rfl dX9_isShape_30 (fun _ _ _ _ _ _ hp => hp.elim) (fun v9 u9 H locs hp hW => ?_)
      obtain ⟨rfl, hu9⟩ := hp
      rw [hu9] at hW
      refine W.eq (g2 := F0 m 33 ls [.int (bI (zIn (nI (j / 32)) (nI 1) (nI 24)))]) rfl ?_
      refine lb_if_eq (tgt := 58) hx hb dX9_isShape_33 (by decide) (fun h3 => ?_) (fun h3 => ?_)
      · skip
        refine lv_iconst (v := nI 0) hx hb dX9_isShape_58 (by decide) ?_
        exact ar_zret C hr (nI_z0.1) hW dX9_isShape_59 (⟨congrArg (fun z => some (Value.int z)) (bI_f (by first | exact zEx_neg (Int32.lt_of_le_of_ne h2 (fun q => by subst q; exact absurd h1 (by decide))) | (rw [zIn_nat (by omega) (by decide) (by decide), decide_eq_true_eq] at h3; rw [zIn_nat (by omega) (by decide) (by decide), decide_eq_true_eq] at h4; rw [decide_eq_false_iff_not] at h1; rw [hz, decide_eq_false_iff_not]; rintro (q | q) <;> omega) | (rw [zIn_nat (by omega) (by decide) (by decide), decide_eq_true_eq] at h3; rw [zIn_nat (by omega) (by decide) (by decide), decide_eq_false_iff_not] at h4; rw [decide_eq_false_iff_not] at h1; rw [hz, decide_eq_false_iff_not]; rintro (q | q) <;> omega) | (rw [zIn_nat (by omega) (by decide) (by decide), decide_eq_false_iff_not] at h3; rw [decide_eq_false_iff_not] at h1; rw [hz, decide_eq_false_iff_not]; rintro (q | q) <;> omega))), rfl⟩)
      · skip
        refine lv_iload_n hx hb dX9_isShape_36 rfl (lv_at hl 0 rfl) ?_
        refine lv_iconst (v := nI 1) hx hb dX9_isShape_37 (by decide) ?_
        refine lv_bipush (v := nI 24) hx hb dX9_isShape_38 (by decide) ?_
        refine ar_callS (As := [.int (nI (j % 32)), .int (nI 1), .int (nI 24)]) (rest := []) C hW (c_X9_within hl9 _ (nI (j % 32)) (nI 1) (nI 24)) q686 q687 q6 q688 hd_X9_within ⟨Nat.le_of_ble_eq_true rfl, Nat.le_of_ble_eq_true rfl⟩ hl.1 (Nat.le_of_ble_eq_true rfl) rfl dX9_isShape_40 (fun _ _ _ _ _ _ hp => hp.elim) (fun v9 u9 H locs hp hW => ?_)
        obtain ⟨rfl, hu9⟩ := hp
        rw [hu9] at hW
        refine W.eq (g2 := F0 m 43 ls [.int (bI (zIn (nI (j % 32)) (nI 1) (nI 24)))]) rfl ?_
        refine lb_if_eq (tgt := 58) hx hb dX9_isShape_43 (by decide) (fun h4 => ?_) (fun h4 => ?_)
        · skip
          refine lv_iconst (v := nI 0) hx hb dX9_isShape_58 (by decide) ?_
          exact ar_zret C hr (nI_z0.1) hW dX9_isShape_59 (⟨congrArg (fun z => some (Value.int z)) (bI_f (by first | exact zEx_neg (Int32.lt_of_le_of_ne h2 (fun q => by subst q; exact absurd h1 (by decide))) | (rw [zIn_nat (by omega) (by decide) (by decide), decide_eq_true_eq] at h3; rw [zIn_nat (by omega) (by decide) (by decide), decide_eq_true_eq] at h4; rw [decide_eq_false_iff_not] at h1; rw [hz, decide_eq_false_iff_not]; rintro (q | q) <;> omega) | (rw [zIn_nat (by omega) (by decide) (by decide), decide_eq_true_eq] at h3; rw [zIn_nat (by omega) (by decide) (by decide), decide_eq_false_iff_not] at h4; rw [decide_eq_false_iff_not] at h1; rw [hz, decide_eq_false_iff_not]; rintro (q | q) <;> omega) | (rw [zIn_nat (by omega) (by decide) (by decide), decide_eq_false_iff_not] at h3; rw [decide_eq_false_iff_not] at h1; rw [hz, decide_eq_false_iff_not]; rintro (q | q) <;> omega))), rfl⟩)
        · skip
          refine lv_iload_n hx hb dX9_isShape_46 rfl (lv_at hl 1 rfl) ?_
          refine lv_iload_n hx hb dX9_isShape_47 rfl (lv_at hl 0 rfl) ?_
          refine ln_imul hx hb dX9_isShape_48 ?_
          refine lv_bipush (v := nI 24) hx hb dX9_isShape_49 (by decide) ?_
          refine ln_icmp_gt (tgt := 58) hx hb dX9_isShape_51 (by decide) (by have : j / 32 * (j % 32) ≤ 2 ^ 26 * 31 := Nat.mul_le_mul (by omega) (by omega); omega) (by decide) (fun h5 => ?_) (fun h5 => ?_)
          · skip
            refine lv_iconst (v := nI 0) hx hb dX9_isShape_58 (by decide) ?_
            exact ar_zret C hr (nI_z0.1) hW dX9_isShape_59 (⟨congrArg (fun z => some (Value.int z)) (bI_f (by first | exact zEx_neg (Int32.lt_of_le_of_ne h2 (fun q => by subst q; exact absurd h1 (by decide))) | (rw [zIn_nat (by omega) (by decide) (by decide), decide_eq_true_eq] at h3; rw [zIn_nat (by omega) (by decide) (by decide), decide_eq_true_eq] at h4; rw [decide_eq_false_iff_not] at h1; rw [hz, decide_eq_false_iff_not]; rintro (q | q) <;> omega) | (rw [zIn_nat (by omega) (by decide) (by decide), decide_eq_true_eq] at h3; rw [zIn_nat (by omega) (by decide) (by decide), decide_eq_false_iff_not] at h4; rw [decide_eq_false_iff_not] at h1; rw [hz, decide_eq_false_iff_not]; rintro (q | q) <;> omega) | (rw [zIn_nat (by omega) (by decide) (by decide), decide_eq_false_iff_not] at h3; rw [decide_eq_false_iff_not] at h1; rw [hz, decide_eq_false_iff_not]; rintro (q | q) <;> omega))), rfl⟩)
          · skip
            refine lv_iconst (v := nI 1) hx hb dX9_isShape_54 (by decide) ?_
            refine lv_goto (tgt := 59) hx hb dX9_isShape_55 (by decide) ?_
            exact ar_zret C hr (nI_z1.1) hW dX9_isShape_59 (⟨congrArg (fun z => some (Value.int z)) (bI_t (by rw [zIn_nat (by omega) (by decide) (by decide), decide_eq_true_eq] at h3 h4; rw [hz, decide_eq_true_eq]; exact Or.inr ⟨h3.1, h3.2, h4.1, h4.2, h5⟩)), rfl⟩)
  · skip
    refine lv_iconst (v := nI 1) hx hb dX9_isShape_10 (by decide) ?_
    exact ar_zret C hr (nI_z1.1) hW dX9_isShape_11 (⟨congrArg (fun z => some (Value.int z)) (bI_t (by simp only [zIn, decide_eq_true_eq] at h1; obtain ⟨j, hj, rfl⟩ := nI_of (x := x) (fun q => absurd q (Int32.not_lt.mpr h1.1)); rw [zEx_nat hj, decide_eq_true_eq]; exact Or.inl ((nI_leI hj (by decide)).mp h1.2))), rfl⟩)
theorem hd_X9_thrown : yX9_thrown.cls ≠ "java/lang/invoke/MethodHandle" ∧ yX9_thrown.cls ≠ "java/lang/invoke/VarHandle" ∧ (parseMethodDescriptor yX9_thrown.desc).map (fun d => d.parameters.length) = some 0 := by decide +kernel
set_option maxHeartbeats 4000000 in
set_option maxRecDepth 100000 in
theorem c_X9_thrown {l : Launch} (hl9 : l.stackTraces = false) {D : va_G} {ct : Nat → ClassId} {ad : Nat → Nat} (g : Nat → Int32) (a : Nat → Nat → Int32) (d : Nat → Nat → UInt64)  : ar_M l yX9_thrown cX9_thrown 1 (some .int) 0 0 D ct (mL ad ct) [.ref (ad 0)] (g, a, d) (fun v9 u9 => v9 = some (.int (g 26)) ∧ u9 = (g, a, d)) (fun _ _ => False) := by
  refine ar_ofW hl9 (by decide) (Nat.le_of_ble_eq_true rfl) ?_
  intro p e s m below meth c A ls C hr hnm hW hl
  have hx := C.1
  have hb := C.2.1
  have hown := C.2.2.2.1
  have hts := C.2.2.2.2.1
  have hl : lv_has ls 1 [(0, .ref (ad 0))] := hl
  refine lv_aload_n hx hb dX9_thrown_0 rfl (lv_at hl 0 rfl) ?_
  refine mg_thrown C hW q613 dX9_thrown_1 ?_
  exact ar_iret C hr hW dX9_thrown_4 (⟨rfl, rfl⟩)
theorem hd_X9_made : yX9_made.cls ≠ "java/lang/invoke/MethodHandle" ∧ yX9_made.cls ≠ "java/lang/invoke/VarHandle" ∧ (parseMethodDescriptor yX9_made.desc).map (fun d => d.parameters.length) = some 0 := by decide +kernel
set_option maxHeartbeats 4000000 in
set_option maxRecDepth 100000 in
theorem c_X9_made {l : Launch} (hl9 : l.stackTraces = false) {D : va_G} {ct : Nat → ClassId} {ad : Nat → Nat} (g : Nat → Int32) (a : Nat → Nat → Int32) (d : Nat → Nat → UInt64)  : ar_M l yX9_made cX9_made 1 (some .int) 0 0 D ct (mL ad ct) [.ref (ad 0)] (g, a, d) (fun v9 u9 => v9 = some (.int (g 24)) ∧ u9 = (va_up g 26 (nI 0), a, d)) (fun _ _ => False) := by
  refine ar_ofW hl9 (by decide) (Nat.le_of_ble_eq_true rfl) ?_
  intro p e s m below meth c A ls C hr hnm hW hl
  have hx := C.1
  have hb := C.2.1
  have hown := C.2.2.2.1
  have hts := C.2.2.2.2.1
  have hl : lv_has ls 1 [(0, .ref (ad 0))] := hl
  refine lv_aload_n hx hb dX9_made_0 rfl (lv_at hl 0 rfl) ?_
  refine lv_iconst (v := nI 0) hx hb dX9_made_1 (by decide) ?_
  refine mp_thrown C hW q613 dX9_made_2 (fun H locs hW => ?_)
  refine lv_aload_n hx hb dX9_made_5 rfl (lv_at hl 0 rfl) ?_
  refine mg_made C hW q611 dX9_made_6 ?_
  rw [va_up_ne _ _ (by decide)]
  exact ar_iret C hr hW dX9_made_9 (⟨rfl, rfl⟩)
theorem hd_X9_runs : yX9_runs.cls ≠ "java/lang/invoke/MethodHandle" ∧ yX9_runs.cls ≠ "java/lang/invoke/VarHandle" ∧ (parseMethodDescriptor yX9_runs.desc).map (fun d => d.parameters.length) = some 0 := by decide +kernel
set_option maxHeartbeats 4000000 in
set_option maxRecDepth 100000 in
theorem c_X9_runs {l : Launch} (hl9 : l.stackTraces = false) {D : va_G} {ct : Nat → ClassId} {ad : Nat → Nat} (g : Nat → Int32) (a : Nat → Nat → Int32) (d : Nat → Nat → UInt64)  : ar_M l yX9_runs cX9_runs 1 (some .int) 0 0 D ct (mL ad ct) [.ref (ad 0)] (g, a, d) (fun v9 u9 => v9 = some (.int (g 25)) ∧ u9 = (va_up g 26 (nI 0), a, d)) (fun _ _ => False) := by
  refine ar_ofW hl9 (by decide) (Nat.le_of_ble_eq_true rfl) ?_
  intro p e s m below meth c A ls C hr hnm hW hl
  have hx := C.1
  have hb := C.2.1
  have hown := C.2.2.2.1
  have hts := C.2.2.2.2.1
  have hl : lv_has ls 1 [(0, .ref (ad 0))] := hl
  refine lv_aload_n hx hb dX9_runs_0 rfl (lv_at hl 0 rfl) ?_
  refine lv_iconst (v := nI 0) hx hb dX9_runs_1 (by decide) ?_
  refine mp_thrown C hW q613 dX9_runs_2 (fun H locs hW => ?_)
  refine lv_aload_n hx hb dX9_runs_5 rfl (lv_at hl 0 rfl) ?_
  refine mg_runs C hW q612 dX9_runs_6 ?_
  rw [va_up_ne _ _ (by decide)]
  exact ar_iret C hr hW dX9_runs_9 (⟨rfl, rfl⟩)
theorem hd_X9_erase : yX9_erase.cls ≠ "java/lang/invoke/MethodHandle" ∧ yX9_erase.cls ≠ "java/lang/invoke/VarHandle" ∧ (parseMethodDescriptor yX9_erase.desc).map (fun d => d.parameters.length) = some 0 := by decide +kernel
set_option maxHeartbeats 4000000 in
set_option maxRecDepth 100000 in
theorem c_X9_erase {l : Launch} (hl9 : l.stackTraces = false) {D : va_G} {ct : Nat → ClassId} {ad : Nat → Nat} (g : Nat → Int32) (a : Nat → Nat → Int32) (d : Nat → Nat → UInt64) (n : Nat) (hlen : g 1 = nI n) : ar_M l yX9_erase cX9_erase 2 (some .int) 0 0 D ct (mL ad ct) [.ref (ad 0)] (g, a, d) (fun v9 u9 => v9 = some (.int (nI n)) ∧ u9 = (va_up (va_up g 26 (nI 0)) 1 (nI 0), a, d)) (fun _ _ => False) := by
  refine ar_ofW hl9 (by decide) (Nat.le_of_ble_eq_true rfl) ?_
  intro p e s m below meth c A ls C hr hnm hW hl
  have hx := C.1
  have hb := C.2.1
  have hown := C.2.2.2.1
  have hts := C.2.2.2.2.1
  have hl : lv_has ls 2 [(0, .ref (ad 0))] := hl
  refine lv_aload_n hx hb dX9_erase_0 rfl (lv_at hl 0 rfl) ?_
  refine lv_iconst (v := nI 0) hx hb dX9_erase_1 (by decide) ?_
  refine mp_thrown C hW q613 dX9_erase_2 (fun H locs hW => ?_)
  refine lv_aload_n hx hb dX9_erase_5 rfl (lv_at hl 0 rfl) ?_
  refine mg_length C hW q588 dX9_erase_6 ?_
  rw [va_up_ne _ _ (by decide)]
  refine ln_top (hlen) ?_
  refine lv_istore_n (lv' := [(1, .int (nI n)), (0, .ref (ad 0))]) hx hb dX9_erase_9 rfl hl (by decide) rfl (fun ls hl => ?_)
  refine lv_aload_n hx hb dX9_erase_10 rfl (lv_at hl 1 rfl) ?_
  refine lv_iconst (v := nI 0) hx hb dX9_erase_11 (by decide) ?_
  refine mp_length C hW q588 dX9_erase_12 (fun H locs hW => ?_)
  refine lv_iload_n hx hb dX9_erase_15 rfl (lv_at hl 0 rfl) ?_
  exact ar_iret C hr hW dX9_erase_16 (⟨rfl, rfl⟩)
theorem hd_X9_shapeOf : yX9_shapeOf.cls ≠ "java/lang/invoke/MethodHandle" ∧ yX9_shapeOf.cls ≠ "java/lang/invoke/VarHandle" ∧ (parseMethodDescriptor yX9_shapeOf.desc).map (fun d => d.parameters.length) = some 1 := by decide +kernel
set_option maxHeartbeats 4000000 in
set_option maxRecDepth 100000 in
theorem c_X9_shapeOf {l : Launch} (hl9 : l.stackTraces = false) {D : va_G} {ct : Nat → ClassId} {ad : Nat → Nat} (g : Nat → Int32) (a : Nat → Nat → Int32) (d : Nat → Nat → UInt64) (v : Int32) (vs : Nat → Nat) (hvs : ∀ j, j < 8 → a 2 j = nI (vs j)) (hvl : ∀ j, j < 8 → vs j < 2 ^ 20) : ar_M l yX9_shapeOf cX9_shapeOf 2 (some .int) 1 22 D ct (mL ad ct) [.ref (ad 0), .int v] (g, a, d) (fun v9 u9 => u9 = (va_up g 26 (nI 0), a, d) ∧ ((vOk v = false ∧ v9 = some (.int (-1))) ∨ ∃ j : Nat, j < 8 ∧ v = nI j ∧ v9 = some (.int (nI (vs j))))) (fun _ _ => False) := by
  refine ar_ofW hl9 (by decide) (Nat.le_of_ble_eq_true rfl) ?_
  intro p e s m below meth c A ls C hr hnm hW hl
  have hx := C.1
  have hb := C.2.1
  have hown := C.2.2.2.1
  have hts := C.2.2.2.2.1
  have hl : lv_has ls 2 [(0, .ref (ad 0)), (1, .int v)] := hl
  refine lv_aload_n hx hb dX9_shapeOf_0 rfl (lv_at hl 0 rfl) ?_
  refine lv_iconst (v := nI 0) hx hb dX9_shapeOf_1 (by decide) ?_
  refine mp_thrown C hW q613 dX9_shapeOf_2 (fun H locs hW => ?_)
  refine lv_iload_n hx hb dX9_shapeOf_5 rfl (lv_at hl 1 rfl) ?_
  refine lv_iconst (v := nI 0) hx hb dX9_shapeOf_6 (by decide) ?_
  refine lv_bipush (v := nI 7) hx hb dX9_shapeOf_7 (by decide) ?_
  refine ar_callS (As := [.int v, .int (nI 0), .int (nI 7)]) (rest := []) C hW (c_X9_within hl9 _ v (nI 0) (nI 7)) q686 q687 q6 q688 hd_X9_within ⟨Nat.le_of_ble_eq_true rfl, Nat.le_of_ble_eq_true rfl⟩ hl.1 (Nat.le_of_ble_eq_true rfl) rfl dX9_shapeOf_9 (fun _ _ _ _ _ _ hp => hp.elim) (fun v9 u9 H locs hp hW => ?_)
  obtain ⟨rfl, hu9⟩ := hp
  rw [hu9] at hW
  refine W.eq (g2 := F0 m 12 ls [.int (bI (zIn v (nI 0) (nI 7)))]) rfl ?_
  refine lb_if_eq (tgt := 24) hx hb dX9_shapeOf_12 (by decide) (fun h1 => ?_) (fun h1 => ?_)
  · skip
    refine lv_iconst (v := -1) hx hb dX9_shapeOf_24 (by decide) ?_
    exact ar_iret C hr hW dX9_shapeOf_25 (⟨rfl, Or.inl ⟨(zIn_v v).symm.trans h1, rfl⟩⟩)
  · skip
    obtain ⟨j, hj8, rfl⟩ := vOk_nat ((zIn_v v).symm.trans h1)
    refine lv_aload_n hx hb dX9_shapeOf_15 rfl (lv_at hl 0 rfl) ?_
    refine mg_shapes C hW q589 dX9_shapeOf_16 ?_
    refine lv_iload_n hx hb dX9_shapeOf_19 rfl (lv_at hl 1 rfl) ?_
    refine ml_shapes (j := j) C hW (by omega) dX9_shapeOf_20 ?_
    refine ln_top (hvs j hj8) ?_
    refine lv_goto (tgt := 25) hx hb dX9_shapeOf_21 (by decide) ?_
    exact ar_iret C hr hW dX9_shapeOf_25 (⟨rfl, Or.inr ⟨j, hj8, rfl, rfl⟩⟩)
theorem hd_X9_size : yX9_size.cls ≠ "java/lang/invoke/MethodHandle" ∧ yX9_size.cls ≠ "java/lang/invoke/VarHandle" ∧ (parseMethodDescriptor yX9_size.desc).map (fun d => d.parameters.length) = some 1 := by decide +kernel
set_option maxHeartbeats 4000000 in
set_option maxRecDepth 100000 in
theorem c_X9_size {l : Launch} (hl9 : l.stackTraces = false) {D : va_G} {ct : Nat → ClassId} {ad : Nat → Nat} (g : Nat → Int32) (a : Nat → Nat → Int32) (d : Nat → Nat → UInt64) (v : Int32) (vs : Nat → Nat) (hvs : ∀ j, j < 8 → a 2 j = nI (vs j)) (hvl : ∀ j, j < 8 → vs j < 2 ^ 20) : ar_M l yX9_size cX9_size 2 (some .int) 1 22 D ct (mL ad ct) [.ref (ad 0), .int v] (g, a, d) (fun v9 u9 => u9 = (va_up g 26 (nI 0), a, d) ∧ ((vOk v = false ∧ v9 = some (.int (-1))) ∨ ∃ j : Nat, j < 8 ∧ v = nI j ∧ v9 = some (.int (nI (zCt (vs j)))))) (fun _ _ => False) := by
  refine ar_ofW hl9 (by decide) (Nat.le_of_ble_eq_true rfl) ?_
  intro p e s m below meth c A ls C hr hnm hW hl
  have hx := C.1
  have hb := C.2.1
  have hown := C.2.2.2.1
  have hts := C.2.2.2.2.1
  have hl : lv_has ls 2 [(0, .ref (ad 0)), (1, .int v)] := hl
  refine lv_aload_n hx hb dX9_size_0 rfl (lv_at hl 0 rfl) ?_
  refine lv_iconst (v := nI 0) hx hb dX9_size_1 (by decide) ?_
  refine mp_thrown C hW q613 dX9_size_2 (fun H locs hW => ?_)
  refine lv_iload_n hx hb dX9_size_5 rfl (lv_at hl 1 rfl) ?_
  refine lv_iconst (v := nI 0) hx hb dX9_size_6 (by decide) ?_
  refine lv_bipush (v := nI 7) hx hb dX9_size_7 (by decide) ?_
  refine ar_callS (As := [.int v, .int (nI 0), .int (nI 7)]) (rest := []) C hW (c_X9_within hl9 _ v (nI 0) (nI 7)) q686 q687 q6 q688 hd_X9_within ⟨Nat.le_of_ble_eq_true rfl, Nat.le_of_ble_eq_true rfl⟩ hl.1 (Nat.le_of_ble_eq_true rfl) rfl dX9_size_9 (fun _ _ _ _ _ _ hp => hp.elim) (fun v9 u9 H locs hp hW => ?_)
  obtain ⟨rfl, hu9⟩ := hp
  rw [hu9] at hW
  refine W.eq (g2 := F0 m 12 ls [.int (bI (zIn v (nI 0) (nI 7)))]) rfl ?_
  refine lb_if_eq (tgt := 27) hx hb dX9_size_12 (by decide) (fun h1 => ?_) (fun h1 => ?_)
  · skip
    refine lv_iconst (v := -1) hx hb dX9_size_27 (by decide) ?_
    exact ar_iret C hr hW dX9_size_28 (⟨rfl, Or.inl ⟨(zIn_v v).symm.trans h1, rfl⟩⟩)
  · skip
    obtain ⟨j, hj8, rfl⟩ := vOk_nat ((zIn_v v).symm.trans h1)
    refine lv_aload_n hx hb dX9_size_15 rfl (lv_at hl 0 rfl) ?_
    refine mg_shapes C hW q589 dX9_size_16 ?_
    refine lv_iload_n hx hb dX9_size_19 rfl (lv_at hl 1 rfl) ?_
    refine ml_shapes (j := j) C hW (by omega) dX9_size_20 ?_
    refine ln_top (hvs j hj8) ?_
    refine ar_callS (As := [.int (nI (vs j))]) (rest := []) C hW (c_X9_count hl9 _ (vs j) (by have := hvl j hj8; omega)) q709 q710 q6 q711 hd_X9_count ⟨Nat.le_of_ble_eq_true rfl, Nat.le_of_ble_eq_true rfl⟩ hl.1 (Nat.le_of_ble_eq_true rfl) rfl dX9_size_21 (fun _ _ _ _ _ _ hp => hp.elim) (fun v9 u9 H locs hp hW => ?_)
    obtain ⟨rfl, hu9⟩ := hp
    rw [hu9] at hW
    refine W.eq (g2 := F0 m 24 ls [.int (nI (zCt (vs j)))]) rfl ?_
    refine lv_goto (tgt := 28) hx hb dX9_size_24 (by decide) ?_
    exact ar_iret C hr hW dX9_size_28 (⟨rfl, Or.inr ⟨j, hj8, rfl, rfl⟩⟩)
theorem hd_X9_put : yX9_put.cls ≠ "java/lang/invoke/MethodHandle" ∧ yX9_put.cls ≠ "java/lang/invoke/VarHandle" ∧ (parseMethodDescriptor yX9_put.desc).map (fun d => d.parameters.length) = some 2 := by decide +kernel
set_option maxHeartbeats 4000000 in
set_option maxRecDepth 100000 in
theorem c_X9_put {l : Launch} (hl9 : l.stackTraces = false) {D : va_G} {ct : Nat → ClassId} {ad : Nat → Nat} (g : Nat → Int32) (a : Nat → Nat → Int32) (d : Nat → Nat → UInt64) (v : Int32) (x : UInt64) : ar_M l yX9_put cX9_put 4 (some .boolean) 1 22 D ct (mL ad ct) [.ref (ad 0), .int v, .double x] (g, a, d) (fun v9 u9 => ((vOk v = false ∨ zRg x = false) ∧ v9 = some (.int (nI 0)) ∧ u9 = (va_up g 26 (nI 0), a, d)) ∨ ∃ j : Nat, j < 8 ∧ v = nI j ∧ zRg x = true ∧ v9 = some (.int (nI 1)) ∧ u9 = (va_up g 26 (nI 0), va_up a 2 (va_up (a 2) j (nI 0)), va_up d 3 (va_up (d 3) (24 * j) x))) (fun _ _ => False) := by
  refine ar_ofW hl9 (by decide) (Nat.le_of_ble_eq_true rfl) ?_
  intro p e s m below meth c A ls C hr hnm hW hl
  have hx := C.1
  have hb := C.2.1
  have hown := C.2.2.2.1
  have hts := C.2.2.2.2.1
  have hl : lv_has ls 4 [(0, .ref (ad 0)), (1, .int v), (2, .double x)] := hl
  refine lv_aload_n hx hb dX9_put_0 rfl (lv_at hl 0 rfl) ?_
  refine lv_iconst (v := nI 0) hx hb dX9_put_1 (by decide) ?_
  refine mp_thrown C hW q613 dX9_put_2 (fun H locs hW => ?_)
  refine lv_iload_n hx hb dX9_put_5 rfl (lv_at hl 1 rfl) ?_
  refine lv_iconst (v := nI 0) hx hb dX9_put_6 (by decide) ?_
  refine lv_bipush (v := nI 7) hx hb dX9_put_7 (by decide) ?_
  refine ar_callS (As := [.int v, .int (nI 0), .int (nI 7)]) (rest := []) C hW (c_X9_within hl9 _ v (nI 0) (nI 7)) q686 q687 q6 q688 hd_X9_within ⟨Nat.le_of_ble_eq_true rfl, Nat.le_of_ble_eq_true rfl⟩ hl.1 (Nat.le_of_ble_eq_true rfl) rfl dX9_put_9 (fun _ _ _ _ _ _ hp => hp.elim) (fun v9 u9 H locs hp hW => ?_)
  obtain ⟨rfl, hu9⟩ := hp
  rw [hu9] at hW
  refine W.eq (g2 := F0 m 12 ls [.int (bI (zIn v (nI 0) (nI 7)))]) rfl ?_
  refine lb_if_eq (tgt := 22) hx hb dX9_put_12 (by decide) (fun h1 => ?_) (fun h1 => ?_)
  · skip
    refine lv_iconst (v := nI 0) hx hb dX9_put_22 (by decide) ?_
    exact ar_zret C hr (nI_z0.1) hW dX9_put_23 (Or.inl ⟨by first | exact Or.inl ((zIn_v v).symm.trans h1) | exact Or.inr h2, rfl, rfl⟩)
  · skip
    obtain ⟨j, hj8, rfl⟩ := vOk_nat ((zIn_v v).symm.trans h1)
    refine lv_dload_n hx hb dX9_put_15 rfl (lv_at hl 2 rfl) ?_
    refine ar_callS (As := [.double x]) (rest := []) C hW (c_X9_fits hl9 _ x) q689 q690 q6 q691 hd_X9_fits ⟨Nat.le_of_ble_eq_true rfl, Nat.le_of_ble_eq_true rfl⟩ hl.1 (Nat.le_of_ble_eq_true rfl) rfl dX9_put_16 (fun _ _ _ _ _ _ hp => hp.elim) (fun v9 u9 H locs hp hW => ?_)
    obtain ⟨rfl, hu9⟩ := hp
    rw [hu9] at hW
    refine W.eq (g2 := F0 m 19 ls [.int (bI (zRg x))]) rfl ?_
    refine lb_if_ne (tgt := 24) hx hb dX9_put_19 (by decide) (fun h2 => ?_) (fun h2 => ?_)
    · skip
      refine lv_aload_n hx hb dX9_put_24 rfl (lv_at hl 0 rfl) ?_
      refine mg_shapes C hW q589 dX9_put_25 ?_
      refine lv_iload_n hx hb dX9_put_28 rfl (lv_at hl 1 rfl) ?_
      refine lv_iconst (v := nI 0) hx hb dX9_put_29 (by decide) ?_
      refine ms_shapes (j := j) C hW (by omega) dX9_put_30 (fun H locs hW => ?_)
      refine lv_aload_n hx hb dX9_put_31 rfl (lv_at hl 0 rfl) ?_
      refine mg_cells C hW q590 dX9_put_32 ?_
      refine lv_bipush (v := nI 24) hx hb dX9_put_35 (by decide) ?_
      refine lv_iload_n hx hb dX9_put_37 rfl (lv_at hl 1 rfl) ?_
      refine ln_imul hx hb dX9_put_38 ?_
      refine lv_dload_n hx hb dX9_put_39 rfl (lv_at hl 2 rfl) ?_
      refine ms_cells (j := 24 * j) C hW (by omega) dX9_put_40 (fun H locs hW => ?_)
      refine lv_iconst (v := nI 1) hx hb dX9_put_41 (by decide) ?_
      exact ar_zret C hr (nI_z1.1) hW dX9_put_42 (Or.inr ⟨j, hj8, rfl, h2, rfl, rfl⟩)
    · skip
      refine lv_iconst (v := nI 0) hx hb dX9_put_22 (by decide) ?_
      exact ar_zret C hr (nI_z0.1) hW dX9_put_23 (Or.inl ⟨by first | exact Or.inl ((zIn_v v).symm.trans h1) | exact Or.inr h2, rfl, rfl⟩)
def zFl (f : Nat → UInt64) (b k : Nat) : Nat → UInt64 := fun i => if b ≤ i ∧ i < b + k then FP.dconst0 else f i
theorem zFl_0 {f : Nat → UInt64} {b : Nat} : f = zFl f b 0 := by
  funext i
  unfold zFl
  rw [if_neg (by omega)]
theorem zFl_s {f g : Nat → UInt64} {b k : Nat} (hf : f = zFl g b k) : va_up f (b + k) FP.dconst0 = zFl g b (k + 1) := by
  funext i
  rw [hf]
  unfold va_up zFl
  by_cases h : i = b + k
  · rw [if_pos h, if_pos (by omega)]
  · rw [if_neg h]
    by_cases h2 : b ≤ i ∧ i < b + k
    · rw [if_pos h2, if_pos (by omega)]
    · rw [if_neg h2, if_neg (by omega)]
theorem hd_X9_shape : yX9_shape.cls ≠ "java/lang/invoke/MethodHandle" ∧ yX9_shape.cls ≠ "java/lang/invoke/VarHandle" ∧ (parseMethodDescriptor yX9_shape.desc).map (fun d => d.parameters.length) = some 2 := by decide +kernel
set_option maxHeartbeats 4000000 in
set_option maxRecDepth 100000 in
theorem c_X9_shape {l : Launch} (hl9 : l.stackTraces = false) {D : va_G} {ct : Nat → ClassId} {ad : Nat → Nat} (g : Nat → Int32) (a : Nat → Nat → Int32) (d : Nat → Nat → UInt64) (v x : Int32) : ar_M l yX9_shape cX9_shape 4 (some .boolean) 2 44 D ct (mL ad ct) [.ref (ad 0), .int v, .int x] (g, a, d) (fun v9 u9 => ((vOk v = false ∨ zEx x = false) ∧ v9 = some (.int (nI 0)) ∧ u9 = (va_up g 26 (nI 0), a, d)) ∨ ∃ j9 : Nat, j9 < 8 ∧ v = nI j9 ∧ zEx x = true ∧ v9 = some (.int (nI 1)) ∧ u9 = (va_up g 26 (nI 0), va_up a 2 (va_up (a 2) j9 x), va_up d 3 (zFl (d 3) (24 * j9) 24))) (fun _ _ => False) := by
  refine ar_ofW hl9 (by decide) (Nat.le_of_ble_eq_true rfl) ?_
  intro p e s m below meth c A ls C hr hnm hW hl
  have hx := C.1
  have hb := C.2.1
  have hown := C.2.2.2.1
  have hts := C.2.2.2.2.1
  have hl : lv_has ls 4 [(0, .ref (ad 0)), (1, .int v), (2, .int x)] := hl
  refine lv_aload_n hx hb dX9_shape_0 rfl (lv_at hl 0 rfl) ?_
  refine lv_iconst (v := nI 0) hx hb dX9_shape_1 (by decide) ?_
  refine mp_thrown C hW q613 dX9_shape_2 (fun H locs hW => ?_)
  refine lv_iload_n hx hb dX9_shape_5 rfl (lv_at hl 1 rfl) ?_
  refine lv_iconst (v := nI 0) hx hb dX9_shape_6 (by decide) ?_
  refine lv_bipush (v := nI 7) hx hb dX9_shape_7 (by decide) ?_
  refine ar_callS (As := [.int v, .int (nI 0), .int (nI 7)]) (rest := []) C hW (c_X9_within hl9 _ v (nI 0) (nI 7)) q686 q687 q6 q688 hd_X9_within ⟨Nat.le_of_ble_eq_true rfl, Nat.le_of_ble_eq_true rfl⟩ hl.1 (Nat.le_of_ble_eq_true rfl) rfl dX9_shape_9 (fun _ _ _ _ _ _ hp => hp.elim) (fun v9 u9 H locs hp hW => ?_)
  obtain ⟨rfl, hu9⟩ := hp
  rw [hu9] at hW
  refine W.eq (g2 := F0 m 12 ls [.int (bI (zIn v (nI 0) (nI 7)))]) rfl ?_
  refine lb_if_eq (tgt := 22) hx hb dX9_shape_12 (by decide) (fun h1 => ?_) (fun h1 => ?_)
  · skip
    refine lv_iconst (v := nI 0) hx hb dX9_shape_22 (by decide) ?_
    exact ar_zret C hr (nI_z0.1) hW dX9_shape_23 (Or.inl ⟨by first | exact Or.inl ((zIn_v v).symm.trans h1) | exact Or.inr h2, rfl, rfl⟩)
  · skip
    obtain ⟨j, hj8, rfl⟩ := vOk_nat ((zIn_v v).symm.trans h1)
    refine lv_iload_n hx hb dX9_shape_15 rfl (lv_at hl 2 rfl) ?_
    refine ar_callS (As := [.int x]) (rest := []) C hW (c_X9_isShape hl9 _ x) q698 q699 q6 q700 hd_X9_isShape ⟨Nat.le_of_ble_eq_true rfl, Nat.le_of_ble_eq_true rfl⟩ hl.1 (Nat.le_of_ble_eq_true rfl) rfl dX9_shape_16 (fun _ _ _ _ _ _ hp => hp.elim) (fun v9 u9 H locs hp hW => ?_)
    obtain ⟨rfl, hu9⟩ := hp
    rw [hu9] at hW
    refine W.eq (g2 := F0 m 19 ls [.int (bI (zEx x))]) rfl ?_
    refine lb_if_ne (tgt := 24) hx hb dX9_shape_19 (by decide) (fun h2 => ?_) (fun h2 => ?_)
    · skip
      refine lv_aload_n hx hb dX9_shape_24 rfl (lv_at hl 0 rfl) ?_
      refine mg_shapes C hW q589 dX9_shape_25 ?_
      refine lv_iload_n hx hb dX9_shape_28 rfl (lv_at hl 1 rfl) ?_
      refine lv_iload_n hx hb dX9_shape_29 rfl (lv_at hl 2 rfl) ?_
      refine ms_shapes (j := j) C hW (by omega) dX9_shape_30 (fun H locs hW => ?_)
      refine lv_iconst (v := nI 0) hx hb dX9_shape_31 (by decide) ?_
      refine lv_istore_n (lv' := [(3, .int (nI 0)), (0, .ref (ad 0)), (1, .int (nI j)), (2, .int x)]) hx hb dX9_shape_32 rfl hl (by decide) rfl (fun ls hl => ?_)
      have lp : ∀ (N9 : Nat) (k : Nat) (f : Nat → UInt64) (H : Heap) (locs : List Loc) (ls : Array Slot), 24 - k < N9 → (k ≤ 24) → (f = zFl (d 3) (24 * j) k) → ar_W D A s.heap H locs (mL ad ct (va_up g 26 (nI 0), va_up a 2 (va_up (a 2) j x), va_up d 3 f)) → lv_has ls 4 [(0, .ref (ad 0)), (1, .int (nI j)), (2, .int x), (3, .int (nI k))] → W p l e (ar_rm 2 44) s m [.ref (ad 0), .int (nI j), .int x].toArray below meth c H locs 0 0 (ar_E below (ar_Q D ct (mL ad ct) A (fun v9 u9 => ((vOk (nI j) = false ∨ zEx x = false) ∧ v9 = some (.int (nI 0)) ∧ u9 = (va_up g 26 (nI 0), a, d)) ∨ ∃ j9 : Nat, j9 < 8 ∧ (nI j) = nI j9 ∧ zEx x = true ∧ v9 = some (.int (nI 1)) ∧ u9 = (va_up g 26 (nI 0), va_up a 2 (va_up (a 2) j9 x), va_up d 3 (zFl (d 3) (24 * j9) 24))) (fun _ _ => False)) [.ref (ad 0), .int (nI j), .int x].toArray s) (F0 m 33 ls []) := by
        intro N9
        induction N9 with
        | zero =>
          intro k f H locs ls hN9
          exact absurd hN9 (Nat.not_lt_zero _)
        | succ N9 ihlp =>
          intro k f H locs ls hN9 hk hf hW hl
          refine lv_iload_n hx hb dX9_shape_33 rfl (lv_at hl 3 rfl) ?_
          refine lv_bipush (v := nI 24) hx hb dX9_shape_34 (by decide) ?_
          refine ln_icmp_ge (tgt := 57) hx hb dX9_shape_36 (by decide) (by omega) (by omega) (fun h3 => ?_) (fun h3 => ?_)
          · skip
            refine lv_iconst (v := nI 1) hx hb dX9_shape_57 (by decide) ?_
            exact ar_zret C hr (nI_z1.1) hW dX9_shape_58 (Or.inr ⟨j, hj8, rfl, h2, rfl, by rw [hf, show k = 24 by omega]⟩)
          · skip
            refine lv_aload_n hx hb dX9_shape_39 rfl (lv_at hl 0 rfl) ?_
            refine mg_cells C hW q590 dX9_shape_40 ?_
            refine lv_bipush (v := nI 24) hx hb dX9_shape_43 (by decide) ?_
            refine lv_iload_n hx hb dX9_shape_45 rfl (lv_at hl 1 rfl) ?_
            refine ln_imul hx hb dX9_shape_46 ?_
            refine lv_iload_n hx hb dX9_shape_47 rfl (lv_at hl 3 rfl) ?_
            refine ln_iadd hx hb dX9_shape_48 ?_
            refine lv_dconst0 hx hb dX9_shape_49 ?_
            refine ms_cells (j := (24 * j) + k) C hW (by omega) dX9_shape_50 (fun H locs hW => ?_)
            simp only [bx_uu, va_up_self] at hW
            refine ln_iinc (k := 3) (n := 1) (lv' := [(3, .int (nI (k + 1))), (0, .ref (ad 0)), (1, .int (nI j)), (2, .int x)]) hx hb dX9_shape_51 hl rfl (by decide) rfl (fun ls hl => ?_)
            refine lv_goto (tgt := 33) hx hb dX9_shape_54 (by decide) ?_
            exact ihlp (k + 1) (va_up f (24 * j + k) FP.dconst0) _ _ _ (by omega) (by omega) (zFl_s hf) (hW) (lv_sub hl [1, 2, 3, 0] rfl)
      exact lp _ 0 (d 3) _ _ _ (Nat.lt_succ_self _) (by omega) (zFl_0) (by rw [va_up_id]; exact hW) (lv_sub hl [1, 2, 3, 0] rfl)
    · skip
      refine lv_iconst (v := nI 0) hx hb dX9_shape_22 (by decide) ?_
      exact ar_zret C hr (nI_z0.1) hW dX9_shape_23 (Or.inl ⟨by first | exact Or.inl ((zIn_v v).symm.trans h1) | exact Or.inr h2, rfl, rfl⟩)
theorem hd_X9_has : yX9_has.cls ≠ "java/lang/invoke/MethodHandle" ∧ yX9_has.cls ≠ "java/lang/invoke/VarHandle" ∧ (parseMethodDescriptor yX9_has.desc).map (fun d => d.parameters.length) = some 2 := by decide +kernel
set_option maxHeartbeats 4000000 in
set_option maxRecDepth 100000 in
theorem c_X9_has {l : Launch} (hl9 : l.stackTraces = false) {D : va_G} {ct : Nat → ClassId} {ad : Nat → Nat} (g : Nat → Int32) (a : Nat → Nat → Int32) (d : Nat → Nat → UInt64) (v i : Int32) (vs : Nat → Nat) (hvs : ∀ j, j < 8 → a 2 j = nI (vs j)) (hvl : ∀ j, j < 8 → vs j < 2 ^ 20) (hvc : ∀ j, j < 8 → 1 ≤ zCt (vs j) ∧ zCt (vs j) ≤ 24) : ar_M l yX9_has cX9_has 3 (some .boolean) 1 22 D ct (mL ad ct) [.ref (ad 0), .int v, .int i] (g, a, d) (fun v9 u9 => u9 = (g, a, d) ∧ (((vOk v = false ∨ ∃ j : Nat, j < 8 ∧ v = nI j ∧ zHas i (zCt (vs j)) = false) ∧ v9 = some (.int (bI false))) ∨ ∃ j i9 : Nat, j < 8 ∧ v = nI j ∧ i9 < zCt (vs j) ∧ i = nI i9 ∧ v9 = some (.int (bI true)))) (fun _ _ => False) := by
  refine ar_ofW hl9 (by decide) (Nat.le_of_ble_eq_true rfl) ?_
  intro p e s m below meth c A ls C hr hnm hW hl
  have hx := C.1
  have hb := C.2.1
  have hown := C.2.2.2.1
  have hts := C.2.2.2.2.1
  have hl : lv_has ls 3 [(0, .ref (ad 0)), (1, .int v), (2, .int i)] := hl
  refine lv_iload_n hx hb dX9_has_0 rfl (lv_at hl 1 rfl) ?_
  refine lv_iconst (v := nI 0) hx hb dX9_has_1 (by decide) ?_
  refine lv_bipush (v := nI 7) hx hb dX9_has_2 (by decide) ?_
  refine ar_callS (As := [.int v, .int (nI 0), .int (nI 7)]) (rest := []) C hW (c_X9_within hl9 _ v (nI 0) (nI 7)) q686 q687 q6 q688 hd_X9_within ⟨Nat.le_of_ble_eq_true rfl, Nat.le_of_ble_eq_true rfl⟩ hl.1 (Nat.le_of_ble_eq_true rfl) rfl dX9_has_4 (fun _ _ _ _ _ _ hp => hp.elim) (fun v9 u9 H locs hp hW => ?_)
  obtain ⟨rfl, hu9⟩ := hp
  rw [hu9] at hW
  refine W.eq (g2 := F0 m 7 ls [.int (bI (zIn v (nI 0) (nI 7)))]) rfl ?_
  refine lb_if_eq (tgt := 33) hx hb dX9_has_7 (by decide) (fun h1 => ?_) (fun h1 => ?_)
  · skip
    refine lv_iconst (v := nI 0) hx hb dX9_has_33 (by decide) ?_
    exact ar_zret C hr (nI_z0.1) hW dX9_has_34 (⟨rfl, Or.inl ⟨by first | exact Or.inl ((zIn_v v).symm.trans h1) | exact Or.inr ⟨j, hj8, rfl, (zIn_has (hvc j hj8).1 (by have := hvc j hj8; omega)).symm.trans h2⟩, rfl⟩⟩)
  · skip
    obtain ⟨j, hj8, rfl⟩ := vOk_nat ((zIn_v v).symm.trans h1)
    refine lv_iload_n hx hb dX9_has_10 rfl (lv_at hl 2 rfl) ?_
    refine lv_iconst (v := nI 0) hx hb dX9_has_11 (by decide) ?_
    refine lv_aload_n hx hb dX9_has_12 rfl (lv_at hl 0 rfl) ?_
    refine mg_shapes C hW q589 dX9_has_13 ?_
    refine lv_iload_n hx hb dX9_has_16 rfl (lv_at hl 1 rfl) ?_
    refine ml_shapes (j := j) C hW (by omega) dX9_has_17 ?_
    refine ln_top (hvs j hj8) ?_
    refine ar_callS (As := [.int (nI (vs j))]) (rest := [.int (nI 0), .int i]) C hW (c_X9_count hl9 _ (vs j) (by have := hvl j hj8; omega)) q709 q710 q6 q711 hd_X9_count ⟨Nat.le_of_ble_eq_true rfl, Nat.le_of_ble_eq_true rfl⟩ hl.1 (Nat.le_of_ble_eq_true rfl) rfl dX9_has_18 (fun _ _ _ _ _ _ hp => hp.elim) (fun v9 u9 H locs hp hW => ?_)
    obtain ⟨rfl, hu9⟩ := hp
    rw [hu9] at hW
    refine W.eq (g2 := F0 m 21 ls [.int (nI (zCt (vs j))), .int (nI 0), .int i]) rfl ?_
    refine lv_iconst (v := nI 1) hx hb dX9_has_21 (by decide) ?_
    refine ln_isub hx hb dX9_has_22 ((hvc j hj8).1) ?_
    refine ar_callS (As := [.int i, .int (nI 0), .int (nI ((zCt (vs j)) - 1))]) (rest := []) C hW (c_X9_within hl9 _ i (nI 0) (nI ((zCt (vs j)) - 1))) q686 q687 q6 q688 hd_X9_within ⟨Nat.le_of_ble_eq_true rfl, Nat.le_of_ble_eq_true rfl⟩ hl.1 (Nat.le_of_ble_eq_true rfl) rfl dX9_has_23 (fun _ _ _ _ _ _ hp => hp.elim) (fun v9 u9 H locs hp hW => ?_)
    obtain ⟨rfl, hu9⟩ := hp
    rw [hu9] at hW
    refine W.eq (g2 := F0 m 26 ls [.int (bI (zIn i (nI 0) (nI ((zCt (vs j)) - 1))))]) rfl ?_
    refine lb_if_eq (tgt := 33) hx hb dX9_has_26 (by decide) (fun h2 => ?_) (fun h2 => ?_)
    · skip
      refine lv_iconst (v := nI 0) hx hb dX9_has_33 (by decide) ?_
      exact ar_zret C hr (nI_z0.1) hW dX9_has_34 (⟨rfl, Or.inl ⟨by first | exact Or.inl ((zIn_v v).symm.trans h1) | exact Or.inr ⟨j, hj8, rfl, (zIn_has (hvc j hj8).1 (by have := hvc j hj8; omega)).symm.trans h2⟩, rfl⟩⟩)
    · skip
      refine lv_iconst (v := nI 1) hx hb dX9_has_29 (by decide) ?_
      refine lv_goto (tgt := 34) hx hb dX9_has_30 (by decide) ?_
      exact ar_zret C hr (nI_z1.1) hW dX9_has_34 (⟨rfl, by obtain ⟨i9, h9, rfl⟩ := zHas_nat (by have := hvc j hj8; omega) ((zIn_has (hvc j hj8).1 (by have := hvc j hj8; omega)).symm.trans h2); exact Or.inr ⟨j, i9, hj8, rfl, h9, rfl, rfl⟩⟩)
theorem hd_X9_set : yX9_set.cls ≠ "java/lang/invoke/MethodHandle" ∧ yX9_set.cls ≠ "java/lang/invoke/VarHandle" ∧ (parseMethodDescriptor yX9_set.desc).map (fun d => d.parameters.length) = some 3 := by decide +kernel
set_option maxHeartbeats 4000000 in
set_option maxRecDepth 100000 in
theorem c_X9_set {l : Launch} (hl9 : l.stackTraces = false) {D : va_G} {ct : Nat → ClassId} {ad : Nat → Nat} (g : Nat → Int32) (a : Nat → Nat → Int32) (d : Nat → Nat → UInt64) (v i : Int32) (x : UInt64) (vs : Nat → Nat) (hvs : ∀ j, j < 8 → a 2 j = nI (vs j)) (hvl : ∀ j, j < 8 → vs j < 2 ^ 20) (hvc : ∀ j, j < 8 → 1 ≤ zCt (vs j) ∧ zCt (vs j) ≤ 24) : ar_M l yX9_set cX9_set 5 (some .boolean) 2 44 D ct (mL ad ct) [.ref (ad 0), .int v, .int i, .double x] (g, a, d) (fun v9 u9 => ((vOk v = false ∨ (∃ j : Nat, j < 8 ∧ v = nI j ∧ zHas i (zCt (vs j)) = false) ∨ zRg x = false) ∧ v9 = some (.int (nI 0)) ∧ u9 = (va_up g 26 (nI 0), a, d)) ∨ ∃ j i9 : Nat, j < 8 ∧ v = nI j ∧ i9 < zCt (vs j) ∧ i = nI i9 ∧ zRg x = true ∧ v9 = some (.int (nI 1)) ∧ u9 = (va_up g 26 (nI 0), a, va_up d 3 (va_up (d 3) (24 * j + i9) x))) (fun _ _ => False) := by
  refine ar_ofW hl9 (by decide) (Nat.le_of_ble_eq_true rfl) ?_
  intro p e s m below meth c A ls C hr hnm hW hl
  have hx := C.1
  have hb := C.2.1
  have hown := C.2.2.2.1
  have hts := C.2.2.2.2.1
  have hl : lv_has ls 5 [(0, .ref (ad 0)), (1, .int v), (2, .int i), (3, .double x)] := hl
  refine lv_aload_n hx hb dX9_set_0 rfl (lv_at hl 0 rfl) ?_
  refine lv_iconst (v := nI 0) hx hb dX9_set_1 (by decide) ?_
  refine mp_thrown C hW q613 dX9_set_2 (fun H locs hW => ?_)
  refine lv_aload_n hx hb dX9_set_5 rfl (lv_at hl 0 rfl) ?_
  refine lv_iload_n hx hb dX9_set_6 rfl (lv_at hl 1 rfl) ?_
  refine lv_iload_n hx hb dX9_set_7 rfl (lv_at hl 2 rfl) ?_
  refine ar_callV (q0 := 0) (ci := 7) (T9 := TX9) (N9 := 27) (As := [.int v, .int i]) (rest := []) C hW (c_X9_has hl9 (va_up g 26 (nI 0)) a d v i vs hvs hvl hvc) (rfl) rfl q705 q707 qs1 q6 q708 hd_X9_has ⟨Nat.le_of_ble_eq_true rfl, Nat.le_of_ble_eq_true rfl⟩ hl.1 (Nat.le_of_ble_eq_true rfl) rfl dX9_set_8 (fun _ _ _ _ _ _ hp => hp.elim) (fun v9 u9 H locs hp hW => ?_)
  obtain ⟨hu9, hp⟩ := hp
  rw [hu9] at hW
  obtain ⟨b9, rfl, hb9⟩ : ∃ b9, v9 = some (.int (bI b9)) ∧ ((b9 = false ∧ (vOk v = false ∨ ∃ j : Nat, j < 8 ∧ v = nI j ∧ zHas i (zCt (vs j)) = false)) ∨ (b9 = true ∧ ∃ j i9 : Nat, j < 8 ∧ v = nI j ∧ i9 < zCt (vs j) ∧ i = nI i9)) := by
    rcases hp with ⟨h, rfl⟩ | ⟨j, i9, h1, h2, h3, h4, rfl⟩
    · exact ⟨false, rfl, Or.inl ⟨rfl, h⟩⟩
    · exact ⟨true, rfl, Or.inr ⟨rfl, j, i9, h1, h2, h3, h4⟩⟩
  refine W.eq (g2 := F0 m 11 ls [.int (bI b9)]) rfl ?_
  refine lb_if_eq (tgt := 21) hx hb dX9_set_11 (by decide) (fun h1 => ?_) (fun h1 => ?_)
  · skip
    have hno : (vOk v = false ∨ ∃ j : Nat, j < 8 ∧ v = nI j ∧ zHas i (zCt (vs j)) = false) := by
      rcases hb9 with ⟨-, q⟩ | ⟨q, -⟩
      · exact q
      · exact absurd (q.symm.trans h1) (by decide)
    refine lv_iconst (v := nI 0) hx hb dX9_set_21 (by decide) ?_
    exact ar_zret C hr (nI_z0.1) hW dX9_set_22 (Or.inl ⟨by first | (rcases hno with q | q; exact Or.inl q; exact Or.inr (Or.inl q)) | exact Or.inr (Or.inr h2), rfl, rfl⟩)
  · skip
    obtain ⟨j, i9, hj8, rfl, hi9, rfl⟩ : ∃ j i9 : Nat, j < 8 ∧ v = nI j ∧ i9 < zCt (vs j) ∧ i = nI i9 := by
      rcases hb9 with ⟨q, -⟩ | ⟨-, q⟩
      · exact absurd (q.symm.trans h1) (by decide)
      · exact q
    have hct9 := hvc j hj8
    refine lv_dload_n hx hb dX9_set_14 rfl (lv_at hl 3 rfl) ?_
    refine ar_callS (As := [.double x]) (rest := []) C hW (c_X9_fits hl9 _ x) q689 q690 q6 q691 hd_X9_fits ⟨Nat.le_of_ble_eq_true rfl, Nat.le_of_ble_eq_true rfl⟩ hl.1 (Nat.le_of_ble_eq_true rfl) rfl dX9_set_15 (fun _ _ _ _ _ _ hp => hp.elim) (fun v9 u9 H locs hp hW => ?_)
    obtain ⟨rfl, hu9⟩ := hp
    rw [hu9] at hW
    refine W.eq (g2 := F0 m 18 ls [.int (bI (zRg x))]) rfl ?_
    refine lb_if_ne (tgt := 23) hx hb dX9_set_18 (by decide) (fun h2 => ?_) (fun h2 => ?_)
    · skip
      refine lv_aload_n hx hb dX9_set_23 rfl (lv_at hl 0 rfl) ?_
      refine mg_cells C hW q590 dX9_set_24 ?_
      refine lv_bipush (v := nI 24) hx hb dX9_set_27 (by decide) ?_
      refine lv_iload_n hx hb dX9_set_29 rfl (lv_at hl 1 rfl) ?_
      refine ln_imul hx hb dX9_set_30 ?_
      refine lv_iload_n hx hb dX9_set_31 rfl (lv_at hl 2 rfl) ?_
      refine ln_iadd hx hb dX9_set_32 ?_
      refine lv_dload_n hx hb dX9_set_33 rfl (lv_at hl 3 rfl) ?_
      refine ms_cells (j := (24 * j) + i9) C hW (by omega) dX9_set_34 (fun H locs hW => ?_)
      refine lv_iconst (v := nI 1) hx hb dX9_set_35 (by decide) ?_
      exact ar_zret C hr (nI_z1.1) hW dX9_set_36 (Or.inr ⟨j, i9, hj8, rfl, hi9, rfl, h2, rfl, rfl⟩)
    · skip
      refine lv_iconst (v := nI 0) hx hb dX9_set_21 (by decide) ?_
      exact ar_zret C hr (nI_z0.1) hW dX9_set_22 (Or.inl ⟨by first | (rcases hno with q | q; exact Or.inl q; exact Or.inr (Or.inl q)) | exact Or.inr (Or.inr h2), rfl, rfl⟩)
theorem hd_X9_at : yX9_at.cls ≠ "java/lang/invoke/MethodHandle" ∧ yX9_at.cls ≠ "java/lang/invoke/VarHandle" ∧ (parseMethodDescriptor yX9_at.desc).map (fun d => d.parameters.length) = some 2 := by decide +kernel
set_option maxHeartbeats 4000000 in
set_option maxRecDepth 100000 in
theorem c_X9_at {l : Launch} (hl9 : l.stackTraces = false) {D : va_G} {ct : Nat → ClassId} {ad : Nat → Nat} (g : Nat → Int32) (a : Nat → Nat → Int32) (d : Nat → Nat → UInt64) (v i : Int32) (vs : Nat → Nat) (hvs : ∀ j, j < 8 → a 2 j = nI (vs j)) (hvl : ∀ j, j < 8 → vs j < 2 ^ 20) (hvc : ∀ j, j < 8 → 1 ≤ zCt (vs j) ∧ zCt (vs j) ≤ 24) : ar_M l yX9_at cX9_at 3 (some .double) 2 44 D ct (mL ad ct) [.ref (ad 0), .int v, .int i] (g, a, d) (fun v9 u9 => u9 = (va_up g 26 (nI 0), a, d) ∧ (((vOk v = false ∨ ∃ j : Nat, j < 8 ∧ v = nI j ∧ zHas i (zCt (vs j)) = false) ∧ v9 = some (.double FP.dconst0)) ∨ ∃ j i9 : Nat, j < 8 ∧ v = nI j ∧ i9 < zCt (vs j) ∧ i = nI i9 ∧ v9 = some (.double (d 3 (24 * j + i9))))) (fun _ _ => False) := by
  refine ar_ofW hl9 (by decide) (Nat.le_of_ble_eq_true rfl) ?_
  intro p e s m below meth c A ls C hr hnm hW hl
  have hx := C.1
  have hb := C.2.1
  have hown := C.2.2.2.1
  have hts := C.2.2.2.2.1
  have hl : lv_has ls 3 [(0, .ref (ad 0)), (1, .int v), (2, .int i)] := hl
  refine lv_aload_n hx hb dX9_at_0 rfl (lv_at hl 0 rfl) ?_
  refine lv_iconst (v := nI 0) hx hb dX9_at_1 (by decide) ?_
  refine mp_thrown C hW q613 dX9_at_2 (fun H locs hW => ?_)
  refine lv_aload_n hx hb dX9_at_5 rfl (lv_at hl 0 rfl) ?_
  refine lv_iload_n hx hb dX9_at_6 rfl (lv_at hl 1 rfl) ?_
  refine lv_iload_n hx hb dX9_at_7 rfl (lv_at hl 2 rfl) ?_
  refine ar_callV (q0 := 0) (ci := 7) (T9 := TX9) (N9 := 27) (As := [.int v, .int i]) (rest := []) C hW (c_X9_has hl9 (va_up g 26 (nI 0)) a d v i vs hvs hvl hvc) (rfl) rfl q705 q707 qs1 q6 q708 hd_X9_has ⟨Nat.le_of_ble_eq_true rfl, Nat.le_of_ble_eq_true rfl⟩ hl.1 (Nat.le_of_ble_eq_true rfl) rfl dX9_at_8 (fun _ _ _ _ _ _ hp => hp.elim) (fun v9 u9 H locs hp hW => ?_)
  obtain ⟨hu9, hp⟩ := hp
  rw [hu9] at hW
  obtain ⟨b9, rfl, hb9⟩ : ∃ b9, v9 = some (.int (bI b9)) ∧ ((b9 = false ∧ (vOk v = false ∨ ∃ j : Nat, j < 8 ∧ v = nI j ∧ zHas i (zCt (vs j)) = false)) ∨ (b9 = true ∧ ∃ j i9 : Nat, j < 8 ∧ v = nI j ∧ i9 < zCt (vs j) ∧ i = nI i9)) := by
    rcases hp with ⟨h, rfl⟩ | ⟨j, i9, h1, h2, h3, h4, rfl⟩
    · exact ⟨false, rfl, Or.inl ⟨rfl, h⟩⟩
    · exact ⟨true, rfl, Or.inr ⟨rfl, j, i9, h1, h2, h3, h4⟩⟩
  refine W.eq (g2 := F0 m 11 ls [.int (bI b9)]) rfl ?_
  refine lb_if_eq (tgt := 28) hx hb dX9_at_11 (by decide) (fun h1 => ?_) (fun h1 => ?_)
  · skip
    have hno : (vOk v = false ∨ ∃ j : Nat, j < 8 ∧ v = nI j ∧ zHas i (zCt (vs j)) = false) := by
      rcases hb9 with ⟨-, q⟩ | ⟨q, -⟩
      · exact q
      · exact absurd (q.symm.trans h1) (by decide)
    refine lv_dconst0 hx hb dX9_at_28 ?_
    exact ar_dret C hr hW dX9_at_29 (⟨rfl, Or.inl ⟨hno, rfl⟩⟩)
  · skip
    obtain ⟨j, i9, hj8, rfl, hi9, rfl⟩ : ∃ j i9 : Nat, j < 8 ∧ v = nI j ∧ i9 < zCt (vs j) ∧ i = nI i9 := by
      rcases hb9 with ⟨q, -⟩ | ⟨-, q⟩
      · exact absurd (q.symm.trans h1) (by decide)
      · exact q
    have hct9 := hvc j hj8
    refine lv_aload_n hx hb dX9_at_14 rfl (lv_at hl 0 rfl) ?_
    refine mg_cells C hW q590 dX9_at_15 ?_
    refine lv_bipush (v := nI 24) hx hb dX9_at_18 (by decide) ?_
    refine lv_iload_n hx hb dX9_at_20 rfl (lv_at hl 1 rfl) ?_
    refine ln_imul hx hb dX9_at_21 ?_
    refine lv_iload_n hx hb dX9_at_22 rfl (lv_at hl 2 rfl) ?_
    refine ln_iadd hx hb dX9_at_23 ?_
    refine ml_cells (j := (24 * j) + i9) C hW (by omega) dX9_at_24 ?_
    refine lv_goto (tgt := 29) hx hb dX9_at_25 (by decide) ?_
    exact ar_dret C hr hW dX9_at_29 (⟨rfl, Or.inr ⟨j, i9, hj8, rfl, hi9, rfl, rfl⟩⟩)
end
section
set_option maxRecDepth 20000 in
theorem ar_X_X3_81 : ar_X "ArrayText$ShapeFinder" 79 81 83 "java/lang/UnsupportedOperationException" "no elements or too many behind i" := ⟨by decide +kernel, by decide +kernel, by decide +kernel, by decide +kernel, by decide +kernel, by decide +kernel, by decide +kernel, by decide +kernel⟩
set_option maxRecDepth 20000 in
theorem ar_X_X3_109 : ar_X "ArrayText$ShapeFinder" 79 109 83 "java/lang/UnsupportedOperationException" "too many elements joined" := ⟨by decide +kernel, by decide +kernel, by decide +kernel, by decide +kernel, by decide +kernel, by decide +kernel, by decide +kernel, by decide +kernel⟩
set_option maxRecDepth 20000 in
theorem ar_X_X3_116 : ar_X "ArrayText$ShapeFinder" 79 116 83 "java/lang/UnsupportedOperationException" "no elements or too many by #" := ⟨by decide +kernel, by decide +kernel, by decide +kernel, by decide +kernel, by decide +kernel, by decide +kernel, by decide +kernel, by decide +kernel⟩
set_option maxRecDepth 20000 in
theorem ar_X_X3_101 : ar_X "ArrayText$ShapeFinder" 99 101 103 "java/lang/IllegalStateException" "shapes that do not fit" := ⟨by decide +kernel, by decide +kernel, by decide +kernel, by decide +kernel, by decide +kernel, by decide +kernel, by decide +kernel, by decide +kernel⟩
set_option maxRecDepth 20000 in
theorem ar_X_X3_104 : ar_X "ArrayText$ShapeFinder" 99 104 103 "java/lang/IllegalStateException" "a table joined" := ⟨by decide +kernel, by decide +kernel, by decide +kernel, by decide +kernel, by decide +kernel, by decide +kernel, by decide +kernel, by decide +kernel⟩
set_option maxRecDepth 20000 in
theorem ar_X_X3_111 : ar_X "ArrayText$ShapeFinder" 99 111 103 "java/lang/IllegalStateException" "no constant of one number or two before #" := ⟨by decide +kernel, by decide +kernel, by decide +kernel, by decide +kernel, by decide +kernel, by decide +kernel, by decide +kernel, by decide +kernel⟩
set_option maxRecDepth 20000 in
theorem ar_X_X3_118 : ar_X "ArrayText$ShapeFinder" 99 118 103 "java/lang/IllegalStateException" "fewer elements by # than there are" := ⟨by decide +kernel, by decide +kernel, by decide +kernel, by decide +kernel, by decide +kernel, by decide +kernel, by decide +kernel, by decide +kernel⟩
def zEc (k : Nat) : String := if k = 1 then ISE else UOE
def zEach (x y : Nat) : Nat × Nat := if x ≠ y ∧ x ≠ 0 ∧ y ≠ 0 then (1, 0) else (0, if x = 0 then y else x)
def zJoi (x y : Nat) : Nat × Nat := if zTb x = true ∨ zTb y = true then (1, 0) else if zFit 1 (zCt x + zCt y) = true then (0, zCt x + zCt y) else (2, 0)
def zCou (n : Nat) : Nat × Nat := if zFit 1 n = true then (0, n) else (2, 0)
def zTrn (s : Nat) : Nat := if zTb s = true then zLg s * 32 + zLn s else s
def zRed (s : Nat) : Nat := if zTb s = true then zLn s else 0
def zAnw (cl : Bool) (s v0 v1 cnt : Nat) : Nat × Nat :=
  if cl = false ∨ 2 < zCt s then (1, 0)
  else if zFit (if s = 0 then 1 else v0) (if s = 0 then v0 else v1) = false then (2, 0)
  else if (if s = 0 then 1 else v0) * (if s = 0 then v0 else v1) < cnt then (1, 0)
  else (0, if s = 0 then v0 else v0 * 32 + v1)
def zSf (x num : Nat) (sv : Nat → Nat) (sl sr so : Nat) (cl : Bool) (v0 v1 : Nat) : Nat × Nat :=
  if x = 1 then (0, sv num) else if x = 3 then zCou num else if x = 4 ∨ x = 7 then (0, sr) else if x = 5 then (0, zTrn sr) else if x = 6 then (0, zRed sr) else if x = 8 then zEach sl sr else if x = 9 then zJoi sl sr else if x = 10 then zAnw cl sl v0 v1 (zCt sr) else (0, so)
theorem zLn_24 {s : Nat} (h : s ≤ 792) : zLn s ≤ 24 := by unfold zLn; split <;> omega
theorem d2i_nI (v : Nat) : FP.d2i (FP.i2d (nI v)) = nI v := FP.Core.d2i_i2d _
theorem hd_X3_shapeOfCount : yX3_shapeOfCount.cls ≠ "java/lang/invoke/MethodHandle" ∧ yX3_shapeOfCount.cls ≠ "java/lang/invoke/VarHandle" ∧ (parseMethodDescriptor yX3_shapeOfCount.desc).map (fun d => d.parameters.length) = some 1 := by decide +kernel
set_option maxHeartbeats 4000000 in
set_option maxRecDepth 100000 in
theorem c_X3_shapeOfCount {l : Launch} (hl9 : l.stackTraces = false) {D : va_G} {ct : Nat → ClassId} {S : Type} {wl : S → va_W} (u0 : S) (x : Nat) (hx9 : x < 2 ^ 15) : ar_M l yX3_shapeOfCount cX3_shapeOfCount 1 (some .int) 6 90 D ct wl [.int (nI x)] u0 (fun v9 u9 => (zCou x).1 = 0 ∧ v9 = some (.int (nI (zCou x).2)) ∧ u9 = u0) (fun E9 u9 => (zCou x).1 ≠ 0 ∧ E9 = zEc (zCou x).1 ∧ u9 = u0) := by
  refine ar_ofW hl9 (by decide) (Nat.le_of_ble_eq_true rfl) ?_
  intro p e s m below meth c A ls C hr hnm hW hl
  have hx := C.1
  have hb := C.2.1
  have hown := C.2.2.2.1
  have hts := C.2.2.2.2.1
  have hl : lv_has ls 1 [(0, .int (nI x))] := hl
  refine lv_iconst (v := nI 1) hx hb dX3_shapeOfCount_0 (by decide) ?_
  refine lv_iload_n hx hb dX3_shapeOfCount_1 rfl (lv_at hl 0 rfl) ?_
  refine ar_callS (As := [.int (nI 1), .int (nI x)]) (rest := []) C hW (c_X4_fits hl9 _ 1 x (by omega) (by omega)) q453 q199 q7 q200 hd_X4_fits ⟨Nat.le_of_ble_eq_true rfl, Nat.le_of_ble_eq_true rfl⟩ hl.1 (Nat.le_of_ble_eq_true rfl) rfl dX3_shapeOfCount_2 (fun _ _ _ _ _ _ hp => hp.elim) (fun v9 u9 H locs hp hW => ?_)
  obtain ⟨rfl, hu9⟩ := hp
  rw [hu9] at hW
  refine W.eq (g2 := F0 m 5 ls [.int (bI (zFit 1 x))]) rfl ?_
  refine lb_if_ne (tgt := 18) hx hb dX3_shapeOfCount_5 (by decide) (fun h1 => ?_) (fun h1 => ?_)
  · skip
    refine lv_iload_n hx hb dX3_shapeOfCount_18 rfl (lv_at hl 0 rfl) ?_
    exact ar_iret C hr hW dX3_shapeOfCount_19 ((fun hz : zCou x = (0, x) => ⟨by rw [hz], by rw [hz], rfl⟩) (if_pos h1))
  · skip
    exact ar_throw C hW ar_X_X3_81 hl.1 dX3_shapeOfCount_8 dX3_shapeOfCount_11 dX3_shapeOfCount_12 dX3_shapeOfCount_14 dX3_shapeOfCount_17 (Nat.le_of_ble_eq_true rfl) (Nat.le_of_ble_eq_true rfl) ((fun hz : zCou x = (2, 0) => ⟨by rw [hz]; decide, by rw [hz]; rfl, rfl⟩) (if_neg (by rw [h1]; decide)))
theorem hd_X3_shapeTurned : yX3_shapeTurned.cls ≠ "java/lang/invoke/MethodHandle" ∧ yX3_shapeTurned.cls ≠ "java/lang/invoke/VarHandle" ∧ (parseMethodDescriptor yX3_shapeTurned.desc).map (fun d => d.parameters.length) = some 1 := by decide +kernel
set_option maxHeartbeats 4000000 in
set_option maxRecDepth 100000 in
theorem c_X3_shapeTurned {l : Launch} (hl9 : l.stackTraces = false) {D : va_G} {ct : Nat → ClassId} {S : Type} {wl : S → va_W} (u0 : S) (x : Nat) (hx9 : x ≤ 792) : ar_M l yX3_shapeTurned cX3_shapeTurned 1 (some .int) 1 21 D ct wl [.int (nI x)] u0 (fun v9 u9 => v9 = some (.int (nI (zTrn x))) ∧ u9 = u0) (fun _ _ => False) := by
  refine ar_ofW hl9 (by decide) (Nat.le_of_ble_eq_true rfl) ?_
  intro p e s m below meth c A ls C hr hnm hW hl
  have hx := C.1
  have hb := C.2.1
  have hown := C.2.2.2.1
  have hts := C.2.2.2.2.1
  have hl : lv_has ls 1 [(0, .int (nI x))] := hl
  refine lv_iload_n hx hb dX3_shapeTurned_0 rfl (lv_at hl 0 rfl) ?_
  refine ar_callS (As := [.int (nI x)]) (rest := []) C hW (c_X4_isTable hl9 _ x (by omega)) q473 q474 q7 q475 hd_X4_isTable ⟨Nat.le_of_ble_eq_true rfl, Nat.le_of_ble_eq_true rfl⟩ hl.1 (Nat.le_of_ble_eq_true rfl) rfl dX3_shapeTurned_1 (fun _ _ _ _ _ _ hp => hp.elim) (fun v9 u9 H locs hp hW => ?_)
  obtain ⟨rfl, hu9⟩ := hp
  rw [hu9] at hW
  refine W.eq (g2 := F0 m 4 ls [.int (bI (zTb x))]) rfl ?_
  refine lb_if_eq (tgt := 21) hx hb dX3_shapeTurned_4 (by decide) (fun h1 => ?_) (fun h1 => ?_)
  · skip
    refine lv_iload_n hx hb dX3_shapeTurned_21 rfl (lv_at hl 0 rfl) ?_
    exact ar_iret C hr hW dX3_shapeTurned_22 (⟨congrArg (fun z => some (Value.int (nI z))) (by unfold zTrn; rw [h1]; rfl), rfl⟩)
  · skip
    refine lv_iload_n hx hb dX3_shapeTurned_7 rfl (lv_at hl 0 rfl) ?_
    refine ar_callS (As := [.int (nI x)]) (rest := []) C hW (c_X4_length hl9 _ x (by omega)) q476 q196 q7 q197 hd_X4_length ⟨Nat.le_of_ble_eq_true rfl, Nat.le_of_ble_eq_true rfl⟩ hl.1 (Nat.le_of_ble_eq_true rfl) rfl dX3_shapeTurned_8 (fun _ _ _ _ _ _ hp => hp.elim) (fun v9 u9 H locs hp hW => ?_)
    obtain ⟨rfl, hu9⟩ := hp
    rw [hu9] at hW
    refine W.eq (g2 := F0 m 11 ls [.int (nI (zLg x))]) rfl ?_
    refine lv_iload_n hx hb dX3_shapeTurned_11 rfl (lv_at hl 0 rfl) ?_
    refine ar_callS (As := [.int (nI x)]) (rest := [.int (nI (zLg x))]) C hW (c_X4_lines hl9 _ x (by omega)) q477 q193 q7 q194 hd_X4_lines ⟨Nat.le_of_ble_eq_true rfl, Nat.le_of_ble_eq_true rfl⟩ hl.1 (Nat.le_of_ble_eq_true rfl) rfl dX3_shapeTurned_12 (fun _ _ _ _ _ _ hp => hp.elim) (fun v9 u9 H locs hp hW => ?_)
    obtain ⟨rfl, hu9⟩ := hp
    rw [hu9] at hW
    refine W.eq (g2 := F0 m 15 ls [.int (nI (zLn x)), .int (nI (zLg x))]) rfl ?_
    refine ar_callS (As := [.int (nI (zLg x)), .int (nI (zLn x))]) (rest := []) C hW (c_X4_tableOf hl9 _ (zLg x) (zLn x) (by have := zLg_lt x; omega)) q478 q190 q7 q191 hd_X4_tableOf ⟨Nat.le_of_ble_eq_true rfl, Nat.le_of_ble_eq_true rfl⟩ hl.1 (Nat.le_of_ble_eq_true rfl) rfl dX3_shapeTurned_15 (fun _ _ _ _ _ _ hp => hp.elim) (fun v9 u9 H locs hp hW => ?_)
    obtain ⟨rfl, hu9⟩ := hp
    rw [hu9] at hW
    refine W.eq (g2 := F0 m 18 ls [.int (nI ((zLg x) * 32 + (zLn x)))]) rfl ?_
    refine lv_goto (tgt := 22) hx hb dX3_shapeTurned_18 (by decide) ?_
    exact ar_iret C hr hW dX3_shapeTurned_22 (⟨congrArg (fun z => some (Value.int (nI z))) (by unfold zTrn; rw [h1]; rfl), rfl⟩)
theorem hd_X3_shapeReduced : yX3_shapeReduced.cls ≠ "java/lang/invoke/MethodHandle" ∧ yX3_shapeReduced.cls ≠ "java/lang/invoke/VarHandle" ∧ (parseMethodDescriptor yX3_shapeReduced.desc).map (fun d => d.parameters.length) = some 1 := by decide +kernel
set_option maxHeartbeats 4000000 in
set_option maxRecDepth 100000 in
theorem c_X3_shapeReduced {l : Launch} (hl9 : l.stackTraces = false) {D : va_G} {ct : Nat → ClassId} {S : Type} {wl : S → va_W} (u0 : S) (x : Nat) (hx9 : x ≤ 792) : ar_M l yX3_shapeReduced cX3_shapeReduced 1 (some .int) 1 20 D ct wl [.int (nI x)] u0 (fun v9 u9 => v9 = some (.int (nI (zRed x))) ∧ u9 = u0) (fun _ _ => False) := by
  refine ar_ofW hl9 (by decide) (Nat.le_of_ble_eq_true rfl) ?_
  intro p e s m below meth c A ls C hr hnm hW hl
  have hx := C.1
  have hb := C.2.1
  have hown := C.2.2.2.1
  have hts := C.2.2.2.2.1
  have hl : lv_has ls 1 [(0, .int (nI x))] := hl
  refine lv_iload_n hx hb dX3_shapeReduced_0 rfl (lv_at hl 0 rfl) ?_
  refine ar_callS (As := [.int (nI x)]) (rest := []) C hW (c_X4_isTable hl9 _ x (by omega)) q473 q474 q7 q475 hd_X4_isTable ⟨Nat.le_of_ble_eq_true rfl, Nat.le_of_ble_eq_true rfl⟩ hl.1 (Nat.le_of_ble_eq_true rfl) rfl dX3_shapeReduced_1 (fun _ _ _ _ _ _ hp => hp.elim) (fun v9 u9 H locs hp hW => ?_)
  obtain ⟨rfl, hu9⟩ := hp
  rw [hu9] at hW
  refine W.eq (g2 := F0 m 4 ls [.int (bI (zTb x))]) rfl ?_
  refine lb_if_eq (tgt := 14) hx hb dX3_shapeReduced_4 (by decide) (fun h1 => ?_) (fun h1 => ?_)
  · skip
    refine lv_iconst (v := nI 0) hx hb dX3_shapeReduced_14 (by decide) ?_
    exact ar_iret C hr hW dX3_shapeReduced_15 (⟨congrArg (fun z => some (Value.int (nI z))) (by unfold zRed; rw [h1]; rfl), rfl⟩)
  · skip
    refine lv_iload_n hx hb dX3_shapeReduced_7 rfl (lv_at hl 0 rfl) ?_
    refine ar_callS (As := [.int (nI x)]) (rest := []) C hW (c_X4_lines hl9 _ x (by omega)) q477 q193 q7 q194 hd_X4_lines ⟨Nat.le_of_ble_eq_true rfl, Nat.le_of_ble_eq_true rfl⟩ hl.1 (Nat.le_of_ble_eq_true rfl) rfl dX3_shapeReduced_8 (fun _ _ _ _ _ _ hp => hp.elim) (fun v9 u9 H locs hp hW => ?_)
    obtain ⟨rfl, hu9⟩ := hp
    rw [hu9] at hW
    refine W.eq (g2 := F0 m 11 ls [.int (nI (zLn x))]) rfl ?_
    refine lv_goto (tgt := 15) hx hb dX3_shapeReduced_11 (by decide) ?_
    exact ar_iret C hr hW dX3_shapeReduced_15 (⟨congrArg (fun z => some (Value.int (nI z))) (by unfold zRed; rw [h1]; rfl), rfl⟩)
theorem hd_X3_shapeOfEach : yX3_shapeOfEach.cls ≠ "java/lang/invoke/MethodHandle" ∧ yX3_shapeOfEach.cls ≠ "java/lang/invoke/VarHandle" ∧ (parseMethodDescriptor yX3_shapeOfEach.desc).map (fun d => d.parameters.length) = some 2 := by decide +kernel
set_option maxHeartbeats 4000000 in
set_option maxRecDepth 100000 in
theorem c_X3_shapeOfEach {l : Launch} (hl9 : l.stackTraces = false) {D : va_G} {ct : Nat → ClassId} {S : Type} {wl : S → va_W} (u0 : S) (x y : Nat) (hx9 : x ≤ 792) (hy9 : y ≤ 792) : ar_M l yX3_shapeOfEach cX3_shapeOfEach 2 (some .int) 6 90 D ct wl [.int (nI x), .int (nI y)] u0 (fun v9 u9 => (zEach x y).1 = 0 ∧ v9 = some (.int (nI (zEach x y).2)) ∧ u9 = u0) (fun E9 u9 => (zEach x y).1 ≠ 0 ∧ E9 = zEc (zEach x y).1 ∧ u9 = u0) := by
  refine ar_ofW hl9 (by decide) (Nat.le_of_ble_eq_true rfl) ?_
  intro p e s m below meth c A ls C hr hnm hW hl
  have hx := C.1
  have hb := C.2.1
  have hown := C.2.2.2.1
  have hts := C.2.2.2.2.1
  have hl : lv_has ls 2 [(0, .int (nI x)), (1, .int (nI y))] := hl
  refine lv_iload_n hx hb dX3_shapeOfEach_0 rfl (lv_at hl 0 rfl) ?_
  refine lv_iload_n hx hb dX3_shapeOfEach_1 rfl (lv_at hl 1 rfl) ?_
  refine ln_icmp_eq (tgt := 23) hx hb dX3_shapeOfEach_2 (by decide) (by omega) (by omega) (fun h1 => ?_) (fun h1 => ?_)
  · skip
    refine lv_iload_n hx hb dX3_shapeOfEach_23 rfl (lv_at hl 0 rfl) ?_
    refine ln_if_ne (tgt := 31) hx hb dX3_shapeOfEach_24 (by decide) (by omega) (fun h2 => ?_) (fun h2 => ?_)
    · skip
      refine lv_iload_n hx hb dX3_shapeOfEach_31 rfl (lv_at hl 0 rfl) ?_
      exact ar_iret C hr hW dX3_shapeOfEach_32 ((fun hz : zEach x y = (0, x) => ⟨by rw [hz], by rw [hz], rfl⟩) (by unfold zEach; rw [if_neg (by omega)]; first | (exfalso; omega) | rw [if_pos (by omega)] | rw [if_neg (by omega)]))
    · skip
      refine lv_iload_n hx hb dX3_shapeOfEach_27 rfl (lv_at hl 1 rfl) ?_
      refine lv_goto (tgt := 32) hx hb dX3_shapeOfEach_28 (by decide) ?_
      exact ar_iret C hr hW dX3_shapeOfEach_32 ((fun hz : zEach x y = (0, y) => ⟨by rw [hz], by rw [hz], rfl⟩) (by unfold zEach; rw [if_neg (by omega)]; first | (exfalso; omega) | rw [if_pos (by omega)] | rw [if_neg (by omega)]))
  · skip
    refine lv_iload_n hx hb dX3_shapeOfEach_5 rfl (lv_at hl 0 rfl) ?_
    refine ln_if_eq (tgt := 23) hx hb dX3_shapeOfEach_6 (by decide) (by omega) (fun h3 => ?_) (fun h3 => ?_)
    · skip
      refine lv_iload_n hx hb dX3_shapeOfEach_23 rfl (lv_at hl 0 rfl) ?_
      refine ln_if_ne (tgt := 31) hx hb dX3_shapeOfEach_24 (by decide) (by omega) (fun h4 => ?_) (fun h4 => ?_)
      · skip
        refine lv_iload_n hx hb dX3_shapeOfEach_31 rfl (lv_at hl 0 rfl) ?_
        exact ar_iret C hr hW dX3_shapeOfEach_32 ((fun hz : zEach x y = (0, x) => ⟨by rw [hz], by rw [hz], rfl⟩) (by unfold zEach; rw [if_neg (by omega)]; first | (exfalso; omega) | rw [if_pos (by omega)] | rw [if_neg (by omega)]))
      · skip
        refine lv_iload_n hx hb dX3_shapeOfEach_27 rfl (lv_at hl 1 rfl) ?_
        refine lv_goto (tgt := 32) hx hb dX3_shapeOfEach_28 (by decide) ?_
        exact ar_iret C hr hW dX3_shapeOfEach_32 ((fun hz : zEach x y = (0, y) => ⟨by rw [hz], by rw [hz], rfl⟩) (by unfold zEach; rw [if_neg (by omega)]; first | (exfalso; omega) | rw [if_pos (by omega)] | rw [if_neg (by omega)]))
    · skip
      refine lv_iload_n hx hb dX3_shapeOfEach_9 rfl (lv_at hl 1 rfl) ?_
      refine ln_if_eq (tgt := 23) hx hb dX3_shapeOfEach_10 (by decide) (by omega) (fun h5 => ?_) (fun h5 => ?_)
      · skip
        refine lv_iload_n hx hb dX3_shapeOfEach_23 rfl (lv_at hl 0 rfl) ?_
        refine ln_if_ne (tgt := 31) hx hb dX3_shapeOfEach_24 (by decide) (by omega) (fun h6 => ?_) (fun h6 => ?_)
        · skip
          refine lv_iload_n hx hb dX3_shapeOfEach_31 rfl (lv_at hl 0 rfl) ?_
          exact ar_iret C hr hW dX3_shapeOfEach_32 ((fun hz : zEach x y = (0, x) => ⟨by rw [hz], by rw [hz], rfl⟩) (by unfold zEach; rw [if_neg (by omega)]; first | (exfalso; omega) | rw [if_pos (by omega)] | rw [if_neg (by omega)]))
        · skip
          refine lv_iload_n hx hb dX3_shapeOfEach_27 rfl (lv_at hl 1 rfl) ?_
          refine lv_goto (tgt := 32) hx hb dX3_shapeOfEach_28 (by decide) ?_
          exact ar_iret C hr hW dX3_shapeOfEach_32 ((fun hz : zEach x y = (0, y) => ⟨by rw [hz], by rw [hz], rfl⟩) (by unfold zEach; rw [if_neg (by omega)]; first | (exfalso; omega) | rw [if_pos (by omega)] | rw [if_neg (by omega)]))
      · skip
        exact ar_throw C hW ar_X_X3_101 hl.1 dX3_shapeOfEach_13 dX3_shapeOfEach_16 dX3_shapeOfEach_17 dX3_shapeOfEach_19 dX3_shapeOfEach_22 (Nat.le_of_ble_eq_true rfl) (Nat.le_of_ble_eq_true rfl) ((fun hz : zEach x y = (1, 0) => ⟨by rw [hz]; decide, by rw [hz]; rfl, rfl⟩) (if_pos ⟨by omega, by omega, by omega⟩))
theorem hd_X3_shapeJoined : yX3_shapeJoined.cls ≠ "java/lang/invoke/MethodHandle" ∧ yX3_shapeJoined.cls ≠ "java/lang/invoke/VarHandle" ∧ (parseMethodDescriptor yX3_shapeJoined.desc).map (fun d => d.parameters.length) = some 2 := by decide +kernel
set_option maxHeartbeats 4000000 in
set_option maxRecDepth 100000 in
theorem c_X3_shapeJoined {l : Launch} (hl9 : l.stackTraces = false) {D : va_G} {ct : Nat → ClassId} {S : Type} {wl : S → va_W} (u0 : S) (x y : Nat) (hx9 : x ≤ 792) (hy9 : y ≤ 792) (hx8 : zCt x ≤ 24) (hy8 : zCt y ≤ 24) : ar_M l yX3_shapeJoined cX3_shapeJoined 3 (some .int) 6 90 D ct wl [.int (nI x), .int (nI y)] u0 (fun v9 u9 => (zJoi x y).1 = 0 ∧ v9 = some (.int (nI (zJoi x y).2)) ∧ u9 = u0) (fun E9 u9 => (zJoi x y).1 ≠ 0 ∧ E9 = zEc (zJoi x y).1 ∧ u9 = u0) := by
  refine ar_ofW hl9 (by decide) (Nat.le_of_ble_eq_true rfl) ?_
  intro p e s m below meth c A ls C hr hnm hW hl
  have hx := C.1
  have hb := C.2.1
  have hown := C.2.2.2.1
  have hts := C.2.2.2.2.1
  have hl : lv_has ls 3 [(0, .int (nI x)), (1, .int (nI y))] := hl
  refine lv_iload_n hx hb dX3_shapeJoined_0 rfl (lv_at hl 0 rfl) ?_
  refine ar_callS (As := [.int (nI x)]) (rest := []) C hW (c_X4_isTable hl9 _ x (by omega)) q473 q474 q7 q475 hd_X4_isTable ⟨Nat.le_of_ble_eq_true rfl, Nat.le_of_ble_eq_true rfl⟩ hl.1 (Nat.le_of_ble_eq_true rfl) rfl dX3_shapeJoined_1 (fun _ _ _ _ _ _ hp => hp.elim) (fun v9 u9 H locs hp hW => ?_)
  obtain ⟨rfl, hu9⟩ := hp
  rw [hu9] at hW
  refine W.eq (g2 := F0 m 4 ls [.int (bI (zTb x))]) rfl ?_
  refine lb_if_ne (tgt := 14) hx hb dX3_shapeJoined_4 (by decide) (fun h1 => ?_) (fun h1 => ?_)
  · skip
    exact ar_throw C hW ar_X_X3_104 hl.1 dX3_shapeJoined_14 dX3_shapeJoined_17 dX3_shapeJoined_18 dX3_shapeJoined_20 dX3_shapeJoined_23 (Nat.le_of_ble_eq_true rfl) (Nat.le_of_ble_eq_true rfl) ((fun hz : zJoi x y = (1, 0) => ⟨by rw [hz]; decide, by rw [hz]; rfl, rfl⟩) (by unfold zJoi; first | rw [if_pos (Or.inl h1)] | rw [if_pos (Or.inr h2)]))
  · skip
    refine lv_iload_n hx hb dX3_shapeJoined_7 rfl (lv_at hl 1 rfl) ?_
    refine ar_callS (As := [.int (nI y)]) (rest := []) C hW (c_X4_isTable hl9 _ y (by omega)) q473 q474 q7 q475 hd_X4_isTable ⟨Nat.le_of_ble_eq_true rfl, Nat.le_of_ble_eq_true rfl⟩ hl.1 (Nat.le_of_ble_eq_true rfl) rfl dX3_shapeJoined_8 (fun _ _ _ _ _ _ hp => hp.elim) (fun v9 u9 H locs hp hW => ?_)
    obtain ⟨rfl, hu9⟩ := hp
    rw [hu9] at hW
    refine W.eq (g2 := F0 m 11 ls [.int (bI (zTb y))]) rfl ?_
    refine lb_if_eq (tgt := 24) hx hb dX3_shapeJoined_11 (by decide) (fun h2 => ?_) (fun h2 => ?_)
    · skip
      refine lv_iload_n hx hb dX3_shapeJoined_24 rfl (lv_at hl 0 rfl) ?_
      refine ar_callS (As := [.int (nI x)]) (rest := []) C hW (c_X4_elements hl9 _ x (by omega)) q505 q218 q7 q219 hd_X4_elements ⟨Nat.le_of_ble_eq_true rfl, Nat.le_of_ble_eq_true rfl⟩ hl.1 (Nat.le_of_ble_eq_true rfl) rfl dX3_shapeJoined_25 (fun _ _ _ _ _ _ hp => hp.elim) (fun v9 u9 H locs hp hW => ?_)
      obtain ⟨rfl, hu9⟩ := hp
      rw [hu9] at hW
      refine W.eq (g2 := F0 m 28 ls [.int (nI (zCt x))]) rfl ?_
      refine lv_iload_n hx hb dX3_shapeJoined_28 rfl (lv_at hl 1 rfl) ?_
      refine ar_callS (As := [.int (nI y)]) (rest := [.int (nI (zCt x))]) C hW (c_X4_elements hl9 _ y (by omega)) q505 q218 q7 q219 hd_X4_elements ⟨Nat.le_of_ble_eq_true rfl, Nat.le_of_ble_eq_true rfl⟩ hl.1 (Nat.le_of_ble_eq_true rfl) rfl dX3_shapeJoined_29 (fun _ _ _ _ _ _ hp => hp.elim) (fun v9 u9 H locs hp hW => ?_)
      obtain ⟨rfl, hu9⟩ := hp
      rw [hu9] at hW
      refine W.eq (g2 := F0 m 32 ls [.int (nI (zCt y)), .int (nI (zCt x))]) rfl ?_
      refine ln_iadd hx hb dX3_shapeJoined_32 ?_
      refine lv_istore_n (lv' := [(2, .int (nI ((zCt x) + (zCt y)))), (0, .int (nI x)), (1, .int (nI y))]) hx hb dX3_shapeJoined_33 rfl hl (by decide) rfl (fun ls hl => ?_)
      refine lv_iconst (v := nI 1) hx hb dX3_shapeJoined_34 (by decide) ?_
      refine lv_iload_n hx hb dX3_shapeJoined_35 rfl (lv_at hl 0 rfl) ?_
      refine ar_callS (As := [.int (nI 1), .int (nI ((zCt x) + (zCt y)))]) (rest := []) C hW (c_X4_fits hl9 _ 1 ((zCt x) + (zCt y)) (by omega) (by omega)) q453 q199 q7 q200 hd_X4_fits ⟨Nat.le_of_ble_eq_true rfl, Nat.le_of_ble_eq_true rfl⟩ hl.1 (Nat.le_of_ble_eq_true rfl) rfl dX3_shapeJoined_36 (fun _ _ _ _ _ _ hp => hp.elim) (fun v9 u9 H locs hp hW => ?_)
      obtain ⟨rfl, hu9⟩ := hp
      rw [hu9] at hW
      refine W.eq (g2 := F0 m 39 ls [.int (bI (zFit 1 ((zCt x) + (zCt y))))]) rfl ?_
      refine lb_if_ne (tgt := 52) hx hb dX3_shapeJoined_39 (by decide) (fun h3 => ?_) (fun h3 => ?_)
      · skip
        refine lv_iload_n hx hb dX3_shapeJoined_52 rfl (lv_at hl 0 rfl) ?_
        exact ar_iret C hr hW dX3_shapeJoined_53 ((fun hz : zJoi x y = (0, (zCt x) + (zCt y)) => ⟨by rw [hz], by rw [hz], rfl⟩) (by unfold zJoi; rw [if_neg (by rw [h1, h2]; decide), if_pos h3]))
      · skip
        exact ar_throw C hW ar_X_X3_109 hl.1 dX3_shapeJoined_42 dX3_shapeJoined_45 dX3_shapeJoined_46 dX3_shapeJoined_48 dX3_shapeJoined_51 (Nat.le_of_ble_eq_true rfl) (Nat.le_of_ble_eq_true rfl) ((fun hz : zJoi x y = (2, 0) => ⟨by rw [hz]; decide, by rw [hz]; rfl, rfl⟩) (by unfold zJoi; rw [if_neg (by rw [h1, h2]; decide), if_neg (by rw [h3]; decide)]))
    · skip
      exact ar_throw C hW ar_X_X3_104 hl.1 dX3_shapeJoined_14 dX3_shapeJoined_17 dX3_shapeJoined_18 dX3_shapeJoined_20 dX3_shapeJoined_23 (Nat.le_of_ble_eq_true rfl) (Nat.le_of_ble_eq_true rfl) ((fun hz : zJoi x y = (1, 0) => ⟨by rw [hz]; decide, by rw [hz]; rfl, rfl⟩) (by unfold zJoi; first | rw [if_pos (Or.inl h1)] | rw [if_pos (Or.inr h2)]))
theorem hd_X3_shapeAnew : yX3_shapeAnew.cls ≠ "java/lang/invoke/MethodHandle" ∧ yX3_shapeAnew.cls ≠ "java/lang/invoke/VarHandle" ∧ (parseMethodDescriptor yX3_shapeAnew.desc).map (fun d => d.parameters.length) = some 2 := by decide +kernel
set_option maxHeartbeats 4000000 in
set_option maxRecDepth 100000 in
theorem c_X3_shapeAnew {l : Launch} (hl9 : l.stackTraces = false) {D : va_G} {ct : Nat → ClassId} {ad : Nat → Nat} (sc sg sh : Nat → Int32) (el : Nat → Nat → UInt64) (nf : Nat → Nat → Int32) (lr : Nat → Nat → Option Nat) (k : Nat) (hk : k < 41) (kl : Nat) (hkl : kl ≤ 10) (hkd : nf 0 k = nI kl) (x : Nat) (hx9 : x ≤ 792) (hsh : sh (8 + k) = nI x) (v0 v1 cnt : Nat) (hv0 : v0 < 2 ^ 15) (hv1 : v1 < 2 ^ 15) (hct : cnt ≤ 24) (hcv : kl = 2 → el (8 + k) 0 = FP.i2d (nI v0) ∧ True ∧ (x ≠ 0 → el (8 + k) 1 = FP.i2d (nI v1) ∧ True)) : ar_M l yX3_shapeAnew cX3_shapeAnew 5 (some .int) 6 90 D ct (xL ad ct) [.ref (ad (104 + k)), .int (nI cnt)] (sc, sg, sh, el, nf, lr) (fun v9 u9 => (zAnw (decide (kl = 2)) x v0 v1 cnt).1 = 0 ∧ v9 = some (.int (nI (zAnw (decide (kl = 2)) x v0 v1 cnt).2)) ∧ u9 = (sc, sg, sh, el, nf, lr)) (fun E9 u9 => (zAnw (decide (kl = 2)) x v0 v1 cnt).1 ≠ 0 ∧ E9 = zEc (zAnw (decide (kl = 2)) x v0 v1 cnt).1 ∧ u9 = (sc, sg, sh, el, nf, lr)) := by
  refine ar_ofW hl9 (by decide) (Nat.le_of_ble_eq_true rfl) ?_
  intro p e s m below meth c A ls C hr hnm hW hl
  have hx := C.1
  have hb := C.2.1
  have hown := C.2.2.2.1
  have hts := C.2.2.2.2.1
  have hl : lv_has ls 5 [(0, .ref (ad (104 + k))), (1, .int (nI cnt))] := hl
  refine lv_aload_n hx hb dX3_shapeAnew_0 rfl (lv_at hl 0 rfl) ?_
  refine xg_kind (k := k) C hW q85 (by omega) dX3_shapeAnew_1 ?_
  refine ln_top (hkd) ?_
  refine lv_iconst (v := nI 2) hx hb dX3_shapeAnew_4 (by decide) ?_
  refine ln_icmp_ne (tgt := 19) hx hb dX3_shapeAnew_5 (by decide) (by omega) (by omega) (fun h1 => ?_) (fun h1 => ?_)
  · skip
    exact ar_throw C hW ar_X_X3_111 hl.1 dX3_shapeAnew_19 dX3_shapeAnew_22 dX3_shapeAnew_23 dX3_shapeAnew_25 dX3_shapeAnew_28 (Nat.le_of_ble_eq_true rfl) (Nat.le_of_ble_eq_true rfl) ((fun hz : zAnw (decide (kl = 2)) x v0 v1 cnt = (1, 0) => ⟨by rw [hz]; decide, by rw [hz]; rfl, rfl⟩) (by unfold zAnw; first | rw [if_pos (Or.inr h2)] | rw [if_pos (Or.inl (decide_eq_false h1))]))
  · skip
    have hc := hcv h1
    refine lv_aload_n hx hb dX3_shapeAnew_8 rfl (lv_at hl 0 rfl) ?_
    refine xg_result (k := k) C hW q104 (by omega) dX3_shapeAnew_9 ?_
    refine ar_callV (As := []) (rest := []) C hW (c_X1_count hl9 sc sg sh el nf lr (8 + k) (by omega) x (by omega) (hsh)) (xl_at (by omega) (xc_na (j := 8 + k) (by omega))) rfl q507 q214 q215 q2 q216 hd_X1_count ⟨Nat.le_of_ble_eq_true rfl, Nat.le_of_ble_eq_true rfl⟩ hl.1 (Nat.le_of_ble_eq_true rfl) rfl dX3_shapeAnew_12 (fun _ _ _ _ _ _ hp => hp.elim) (fun v9 u9 H locs hp hW => ?_)
    obtain ⟨rfl, hu9⟩ := hp
    rw [hu9] at hW
    refine W.eq (g2 := F0 m 15 ls [.int (nI (zCt x))]) rfl ?_
    refine lv_iconst (v := nI 2) hx hb dX3_shapeAnew_15 (by decide) ?_
    refine ln_icmp_le (tgt := 29) hx hb dX3_shapeAnew_16 (by decide) (by have := zCt_lt (x := x) (by omega); omega) (by decide) (fun h2 => ?_) (fun h2 => ?_)
    · skip
      refine lv_aload_n hx hb dX3_shapeAnew_29 rfl (lv_at hl 0 rfl) ?_
      refine xg_result (k := k) C hW q104 (by omega) dX3_shapeAnew_30 ?_
      refine xg_shape (j := 8 + k) C hW q37 (by omega) dX3_shapeAnew_33 ?_
      refine ln_top (hsh) ?_
      refine ln_if_ne (tgt := 43) hx hb dX3_shapeAnew_36 (by decide) (by omega) (fun h3 => ?_) (fun h3 => ?_)
      · skip
        refine lv_iconst (v := nI 0) hx hb dX3_shapeAnew_43 (by decide) ?_
        refine lv_istore_n (lv' := [(2, .int (nI 0)), (0, .ref (ad (104 + k))), (1, .int (nI cnt))]) hx hb dX3_shapeAnew_44 rfl hl (by decide) rfl (fun ls hl => ?_)
        refine lv_iload_n hx hb dX3_shapeAnew_45 rfl (lv_at hl 0 rfl) ?_
        refine ln_if_eq (tgt := 53) hx hb dX3_shapeAnew_46 (by decide) (by decide) (fun _ => ?_) (fun h4 => absurd h4 (by decide))
        refine lv_aload_n hx hb dX3_shapeAnew_53 rfl (lv_at hl 1 rfl) ?_
        refine xg_result (k := k) C hW q104 (by omega) dX3_shapeAnew_54 ?_
        refine xg_elements (j := 8 + k) C hW q45 (by omega) dX3_shapeAnew_57 ?_
        refine lv_iconst (v := nI 0) hx hb dX3_shapeAnew_60 (by decide) ?_
        refine xl_elements (j := 8 + k) (i := 0) C hW (by omega) (by omega) dX3_shapeAnew_61 ?_
        refine lv_d2i hx hb dX3_shapeAnew_62 ?_
        rw [hc.1, d2i_nI]
        refine lv_istore_n (lv' := [(3, .int (nI v0)), (2, .int (nI 0)), (0, .ref (ad (104 + k))), (1, .int (nI cnt))]) hx hb dX3_shapeAnew_63 rfl hl (by decide) rfl (fun ls hl => ?_)
        refine lv_aload_n hx hb dX3_shapeAnew_64 rfl (lv_at hl 2 rfl) ?_
        refine xg_result (k := k) C hW q104 (by omega) dX3_shapeAnew_65 ?_
        refine xg_elements (j := 8 + k) C hW q45 (by omega) dX3_shapeAnew_68 ?_
        refine lv_iload_n hx hb dX3_shapeAnew_71 rfl (lv_at hl 1 rfl) ?_
        refine ln_if_eq (tgt := 79) hx hb dX3_shapeAnew_72 (by decide) (by decide) (fun _ => ?_) (fun h5 => absurd h5 (by decide))
        refine lv_iconst (v := nI 1) hx hb dX3_shapeAnew_79 (by decide) ?_
        refine xl_elements (j := 8 + k) (i := 1) C hW (by omega) (by omega) dX3_shapeAnew_80 ?_
        refine lv_d2i hx hb dX3_shapeAnew_81 ?_
        rw [(hc.2.2 h3).1, d2i_nI]
        refine lv_istore (lv' := [(4, .int (nI v1)), (3, .int (nI v0)), (2, .int (nI 0)), (0, .ref (ad (104 + k))), (1, .int (nI cnt))]) hx hb dX3_shapeAnew_82 hl (by decide) rfl (fun ls hl => ?_)
        refine lv_iload_n hx hb dX3_shapeAnew_84 rfl (lv_at hl 1 rfl) ?_
        refine lv_iload hx hb dX3_shapeAnew_85 (lv_at hl 0 rfl) ?_
        refine ar_callS (As := [.int (nI v0), .int (nI v1)]) (rest := []) C hW (c_X4_fits hl9 _ v0 v1 (by omega) (by omega)) q453 q199 q7 q200 hd_X4_fits ⟨Nat.le_of_ble_eq_true rfl, Nat.le_of_ble_eq_true rfl⟩ hl.1 (Nat.le_of_ble_eq_true rfl) rfl dX3_shapeAnew_87 (fun _ _ _ _ _ _ hp => hp.elim) (fun v9 u9 H locs hp hW => ?_)
        obtain ⟨rfl, hu9⟩ := hp
        rw [hu9] at hW
        refine W.eq (g2 := F0 m 90 ls [.int (bI (zFit v0 v1))]) rfl ?_
        refine lb_if_ne (tgt := 103) hx hb dX3_shapeAnew_90 (by decide) (fun h6 => ?_) (fun h6 => ?_)
        · skip
          have hfit := h6
          refine lv_iload_n hx hb dX3_shapeAnew_103 rfl (lv_at hl 1 rfl) ?_
          refine lv_iload hx hb dX3_shapeAnew_104 (lv_at hl 0 rfl) ?_
          refine ln_imul hx hb dX3_shapeAnew_106 ?_
          refine lv_iload_n hx hb dX3_shapeAnew_107 rfl (lv_at hl 4 rfl) ?_
          refine ln_icmp_ge (tgt := 121) hx hb dX3_shapeAnew_108 (by decide) (by have := Nat.mul_lt_mul'' hv0 hv1; omega) (by omega) (fun h7 => ?_) (fun h7 => ?_)
          · skip
            refine lv_iload_n hx hb dX3_shapeAnew_121 rfl (lv_at hl 2 rfl) ?_
            refine ln_if_eq (tgt := 130) hx hb dX3_shapeAnew_122 (by decide) (by decide) (fun _ => ?_) (fun h8 => absurd h8 (by decide))
            refine lv_iload_n hx hb dX3_shapeAnew_130 rfl (lv_at hl 1 rfl) ?_
            refine lv_iload hx hb dX3_shapeAnew_131 (lv_at hl 0 rfl) ?_
            refine ar_callS (As := [.int (nI v0), .int (nI v1)]) (rest := []) C hW (c_X4_tableOf hl9 _ v0 v1 (by omega)) q478 q190 q7 q191 hd_X4_tableOf ⟨Nat.le_of_ble_eq_true rfl, Nat.le_of_ble_eq_true rfl⟩ hl.1 (Nat.le_of_ble_eq_true rfl) rfl dX3_shapeAnew_133 (fun _ _ _ _ _ _ hp => hp.elim) (fun v9 u9 H locs hp hW => ?_)
            obtain ⟨rfl, hu9⟩ := hp
            rw [hu9] at hW
            refine W.eq (g2 := F0 m 136 ls [.int (nI (v0 * 32 + v1))]) rfl ?_
            exact ar_iret C hr hW dX3_shapeAnew_136 ((fun hz : zAnw (decide (kl = 2)) x v0 v1 cnt = (0, v0 * 32 + v1) => ⟨by rw [hz], by rw [hz], rfl⟩) (by unfold zAnw; rw [if_neg (by simp [h1]; omega), if_neg (by first | (rw [if_pos h3, if_pos h3, hfit]; decide) | (rw [if_neg h3, if_neg h3, hfit]; decide)), if_neg (by first | (rw [if_pos h3, if_pos h3]; omega) | (rw [if_neg h3, if_neg h3]; omega))]; first | rw [if_pos h3] | rw [if_neg h3]))
          · skip
            exact ar_throw C hW ar_X_X3_118 hl.1 dX3_shapeAnew_111 dX3_shapeAnew_114 dX3_shapeAnew_115 dX3_shapeAnew_117 dX3_shapeAnew_120 (Nat.le_of_ble_eq_true rfl) (Nat.le_of_ble_eq_true rfl) ((fun hz : zAnw (decide (kl = 2)) x v0 v1 cnt = (1, 0) => ⟨by rw [hz]; decide, by rw [hz]; rfl, rfl⟩) (by unfold zAnw; rw [if_neg (by simp [h1]; omega), if_neg (by first | (rw [if_pos h3, if_pos h3, hfit]; decide) | (rw [if_neg h3, if_neg h3, hfit]; decide)), if_pos (by first | (rw [if_pos h3, if_pos h3]; omega) | (rw [if_neg h3, if_neg h3]; assumption))]))
        · skip
          have hfit := h6
          exact ar_throw C hW ar_X_X3_116 hl.1 dX3_shapeAnew_93 dX3_shapeAnew_96 dX3_shapeAnew_97 dX3_shapeAnew_99 dX3_shapeAnew_102 (Nat.le_of_ble_eq_true rfl) (Nat.le_of_ble_eq_true rfl) ((fun hz : zAnw (decide (kl = 2)) x v0 v1 cnt = (2, 0) => ⟨by rw [hz]; decide, by rw [hz]; rfl, rfl⟩) (by unfold zAnw; rw [if_neg (by simp [h1]; omega), if_pos (by first | (rw [if_pos h3, if_pos h3]; exact hfit) | (rw [if_neg h3, if_neg h3]; exact hfit))]))
      · skip
        refine lv_iconst (v := nI 1) hx hb dX3_shapeAnew_39 (by decide) ?_
        refine lv_goto (tgt := 44) hx hb dX3_shapeAnew_40 (by decide) ?_
        refine lv_istore_n (lv' := [(2, .int (nI 1)), (0, .ref (ad (104 + k))), (1, .int (nI cnt))]) hx hb dX3_shapeAnew_44 rfl hl (by decide) rfl (fun ls hl => ?_)
        refine lv_iload_n hx hb dX3_shapeAnew_45 rfl (lv_at hl 0 rfl) ?_
        refine ln_if_eq (tgt := 53) hx hb dX3_shapeAnew_46 (by decide) (by decide) (fun h9 => absurd h9 (by decide)) (fun _ => ?_)
        refine lv_iconst (v := nI 1) hx hb dX3_shapeAnew_49 (by decide) ?_
        refine lv_goto (tgt := 63) hx hb dX3_shapeAnew_50 (by decide) ?_
        refine lv_istore_n (lv' := [(3, .int (nI 1)), (2, .int (nI 1)), (0, .ref (ad (104 + k))), (1, .int (nI cnt))]) hx hb dX3_shapeAnew_63 rfl hl (by decide) rfl (fun ls hl => ?_)
        refine lv_aload_n hx hb dX3_shapeAnew_64 rfl (lv_at hl 2 rfl) ?_
        refine xg_result (k := k) C hW q104 (by omega) dX3_shapeAnew_65 ?_
        refine xg_elements (j := 8 + k) C hW q45 (by omega) dX3_shapeAnew_68 ?_
        refine lv_iload_n hx hb dX3_shapeAnew_71 rfl (lv_at hl 1 rfl) ?_
        refine ln_if_eq (tgt := 79) hx hb dX3_shapeAnew_72 (by decide) (by decide) (fun h10 => absurd h10 (by decide)) (fun _ => ?_)
        refine lv_iconst (v := nI 0) hx hb dX3_shapeAnew_75 (by decide) ?_
        refine lv_goto (tgt := 80) hx hb dX3_shapeAnew_76 (by decide) ?_
        refine xl_elements (j := 8 + k) (i := 0) C hW (by omega) (by omega) dX3_shapeAnew_80 ?_
        refine lv_d2i hx hb dX3_shapeAnew_81 ?_
        rw [hc.1, d2i_nI]
        refine lv_istore (lv' := [(4, .int (nI v0)), (3, .int (nI 1)), (2, .int (nI 1)), (0, .ref (ad (104 + k))), (1, .int (nI cnt))]) hx hb dX3_shapeAnew_82 hl (by decide) rfl (fun ls hl => ?_)
        refine lv_iload_n hx hb dX3_shapeAnew_84 rfl (lv_at hl 1 rfl) ?_
        refine lv_iload hx hb dX3_shapeAnew_85 (lv_at hl 0 rfl) ?_
        refine ar_callS (As := [.int (nI 1), .int (nI v0)]) (rest := []) C hW (c_X4_fits hl9 _ 1 v0 (by omega) (by omega)) q453 q199 q7 q200 hd_X4_fits ⟨Nat.le_of_ble_eq_true rfl, Nat.le_of_ble_eq_true rfl⟩ hl.1 (Nat.le_of_ble_eq_true rfl) rfl dX3_shapeAnew_87 (fun _ _ _ _ _ _ hp => hp.elim) (fun v9 u9 H locs hp hW => ?_)
        obtain ⟨rfl, hu9⟩ := hp
        rw [hu9] at hW
        refine W.eq (g2 := F0 m 90 ls [.int (bI (zFit 1 v0))]) rfl ?_
        refine lb_if_ne (tgt := 103) hx hb dX3_shapeAnew_90 (by decide) (fun h11 => ?_) (fun h11 => ?_)
        · skip
          have hfit := h11
          refine lv_iload_n hx hb dX3_shapeAnew_103 rfl (lv_at hl 1 rfl) ?_
          refine lv_iload hx hb dX3_shapeAnew_104 (lv_at hl 0 rfl) ?_
          refine ln_imul hx hb dX3_shapeAnew_106 ?_
          refine lv_iload_n hx hb dX3_shapeAnew_107 rfl (lv_at hl 4 rfl) ?_
          refine ln_icmp_ge (tgt := 121) hx hb dX3_shapeAnew_108 (by decide) (by have := Nat.mul_lt_mul'' hv0 hv1; omega) (by omega) (fun h12 => ?_) (fun h12 => ?_)
          · skip
            refine lv_iload_n hx hb dX3_shapeAnew_121 rfl (lv_at hl 2 rfl) ?_
            refine ln_if_eq (tgt := 130) hx hb dX3_shapeAnew_122 (by decide) (by decide) (fun h13 => absurd h13 (by decide)) (fun _ => ?_)
            refine lv_iload hx hb dX3_shapeAnew_125 (lv_at hl 0 rfl) ?_
            refine lv_goto (tgt := 136) hx hb dX3_shapeAnew_127 (by decide) ?_
            exact ar_iret C hr hW dX3_shapeAnew_136 ((fun hz : zAnw (decide (kl = 2)) x v0 v1 cnt = (0, v0) => ⟨by rw [hz], by rw [hz], rfl⟩) (by unfold zAnw; rw [if_neg (by simp [h1]; omega), if_neg (by first | (rw [if_pos h3, if_pos h3, hfit]; decide) | (rw [if_neg h3, if_neg h3, hfit]; decide)), if_neg (by first | (rw [if_pos h3, if_pos h3]; omega) | (rw [if_neg h3, if_neg h3]; omega))]; first | rw [if_pos h3] | rw [if_neg h3]))
          · skip
            exact ar_throw C hW ar_X_X3_118 hl.1 dX3_shapeAnew_111 dX3_shapeAnew_114 dX3_shapeAnew_115 dX3_shapeAnew_117 dX3_shapeAnew_120 (Nat.le_of_ble_eq_true rfl) (Nat.le_of_ble_eq_true rfl) ((fun hz : zAnw (decide (kl = 2)) x v0 v1 cnt = (1, 0) => ⟨by rw [hz]; decide, by rw [hz]; rfl, rfl⟩) (by unfold zAnw; rw [if_neg (by simp [h1]; omega), if_neg (by first | (rw [if_pos h3, if_pos h3, hfit]; decide) | (rw [if_neg h3, if_neg h3, hfit]; decide)), if_pos (by first | (rw [if_pos h3, if_pos h3]; omega) | (rw [if_neg h3, if_neg h3]; assumption))]))
        · skip
          have hfit := h11
          exact ar_throw C hW ar_X_X3_116 hl.1 dX3_shapeAnew_93 dX3_shapeAnew_96 dX3_shapeAnew_97 dX3_shapeAnew_99 dX3_shapeAnew_102 (Nat.le_of_ble_eq_true rfl) (Nat.le_of_ble_eq_true rfl) ((fun hz : zAnw (decide (kl = 2)) x v0 v1 cnt = (2, 0) => ⟨by rw [hz]; decide, by rw [hz]; rfl, rfl⟩) (by unfold zAnw; rw [if_neg (by simp [h1]; omega), if_pos (by first | (rw [if_pos h3, if_pos h3]; exact hfit) | (rw [if_neg h3, if_neg h3]; exact hfit))]))
    · skip
      exact ar_throw C hW ar_X_X3_111 hl.1 dX3_shapeAnew_19 dX3_shapeAnew_22 dX3_shapeAnew_23 dX3_shapeAnew_25 dX3_shapeAnew_28 (Nat.le_of_ble_eq_true rfl) (Nat.le_of_ble_eq_true rfl) ((fun hz : zAnw (decide (kl = 2)) x v0 v1 cnt = (1, 0) => ⟨by rw [hz]; decide, by rw [hz]; rfl, rfl⟩) (by unfold zAnw; first | rw [if_pos (Or.inr h2)] | rw [if_pos (Or.inl (decide_eq_false h1))]))
end
section
theorem zFit_iff {a b : Nat} : zFit a b = true ↔ 1 ≤ a ∧ a ≤ 24 ∧ 1 ≤ b ∧ b ≤ 24 ∧ a * b ≤ 24 := by unfold zFit; exact decide_eq_true_iff
theorem zOk_row {s : Nat} (h0 : 1 ≤ s) (h : s ≤ 24) : zOk s = true := by
  unfold zOk
  rw [show zFit (zLn s) (zLg s) = true from zFit_iff.mpr (by unfold zLn zLg; rw [if_neg (by omega), if_neg (by omega), Nat.mod_eq_of_lt (by omega)]; omega), Bool.or_true]
theorem zOk_tab {a b : Nat} (h : zFit a b = true) : zOk (a * 32 + b) = true := by
  obtain ⟨h1, h2, h3, h4, h5⟩ := zFit_iff.mp h
  unfold zOk
  have e1 : zLn (a * 32 + b) = a := by unfold zLn; rw [if_pos (by omega)]; omega
  have e2 : zLg (a * 32 + b) = b := by unfold zLg; rw [if_neg (by omega)]; omega
  rw [e1, e2, h, Bool.or_true]
theorem zOk_num {s : Nat} (h : zOk s = true) : s ≤ 792 ∧ 1 ≤ zCt s ∧ zCt s ≤ 24 ∧ (zTb s = true → zFit (zLn s) (zLg s) = true ∧ s = zLn s * 32 + zLg s) ∧ (zTb s = false → s ≤ 24) := by
  unfold zOk at h
  by_cases h0 : s = 0
  · subst h0
    decide
  · rw [show (s == 0) = false by simpa using h0, Bool.false_or] at h
    obtain ⟨h1, h2, h3, h4, h5⟩ := zFit_iff.mp h
    have e2 : zLg s = s % 32 := by unfold zLg; rw [if_neg h0]
    by_cases h6 : 31 < s
    · have e1 : zLn s = s / 32 := by unfold zLn; rw [if_pos h6]
      refine ⟨by omega, ?_, h5, fun _ => ⟨h, by omega⟩, fun q => ?_⟩
      · unfold zCt
        exact Nat.mul_pos h1 h3
      · unfold zTb at q
        rw [decide_eq_false_iff_not] at q
        omega
    · have e1 : zLn s = 1 := by unfold zLn; rw [if_neg h6]
      refine ⟨by omega, ?_, h5, fun q => ?_, fun _ => by rw [e2, Nat.mod_eq_of_lt (by omega)] at h4; exact h4⟩
      · unfold zCt
        exact Nat.mul_pos h1 h3
      · unfold zTb at q
        rw [decide_eq_true_iff] at q
        exact absurd q h6
theorem zTrn_ok {s : Nat} (h : zOk s = true) : zOk (zTrn s) = true := by
  unfold zTrn
  split
  · rename_i q
    obtain ⟨h1, h2, h3, h4, h5⟩ := zFit_iff.mp ((zOk_num h).2.2.2.1 q).1
    exact zOk_tab (zFit_iff.mpr ⟨h3, h4, h1, h2, by rw [Nat.mul_comm]; exact h5⟩)
  · exact h
theorem zRed_ok {s : Nat} (h : zOk s = true) : zOk (zRed s) = true := by
  unfold zRed
  split
  · rename_i q
    obtain ⟨h1, h2, h3, h4, h5⟩ := zFit_iff.mp ((zOk_num h).2.2.2.1 q).1
    exact zOk_row h1 h2
  · decide
theorem zEach_ok {x y : Nat} (hx : zOk x = true) (hy : zOk y = true) (h : (zEach x y).1 = 0) : zOk (zEach x y).2 = true := by
  unfold zEach at h ⊢
  split at h
  · cases h
  · rename_i q
    rw [if_neg q]
    show zOk (if x = 0 then y else x) = true
    split
    · exact hy
    · exact hx
theorem zJoi_ok {x y : Nat} (h : (zJoi x y).1 = 0) : zOk (zJoi x y).2 = true := by
  unfold zJoi at h ⊢
  split at h
  · cases h
  · rename_i q
    rw [if_neg q]
    split at h
    · rename_i q2
      rw [if_pos q2]
      obtain ⟨h1, h2, h3, h4, h5⟩ := zFit_iff.mp q2
      exact zOk_row h3 h4
    · cases h
theorem zCou_ok {x : Nat} (h : (zCou x).1 = 0) : zOk (zCou x).2 = true := by
  unfold zCou at h ⊢
  split at h
  · rename_i q2
    rw [if_pos q2]
    obtain ⟨h1, h2, h3, h4, h5⟩ := zFit_iff.mp q2
    exact zOk_row h3 h4
  · cases h
theorem zAnw_ok {cl : Bool} {s v0 v1 cnt : Nat} (h : (zAnw cl s v0 v1 cnt).1 = 0) : zOk (zAnw cl s v0 v1 cnt).2 = true := by
  unfold zAnw at h ⊢
  by_cases q : cl = false ∨ 2 < zCt s
  · rw [if_pos q] at h; cases h
  rw [if_neg q] at h ⊢
  by_cases q2 : zFit (if s = 0 then 1 else v0) (if s = 0 then v0 else v1) = false
  · rw [if_pos q2] at h; cases h
  rw [if_neg q2] at h ⊢
  by_cases q3 : (if s = 0 then 1 else v0) * (if s = 0 then v0 else v1) < cnt
  · rw [if_pos q3] at h; cases h
  rw [if_neg q3]
  have q2 : zFit (if s = 0 then 1 else v0) (if s = 0 then v0 else v1) = true := by
    cases hq : zFit (if s = 0 then 1 else v0) (if s = 0 then v0 else v1)
    · exact absurd hq q2
    · rfl
  show zOk (if s = 0 then v0 else v0 * 32 + v1) = true
  by_cases h0 : s = 0
  · rw [if_pos h0]
    rw [if_pos h0, if_pos h0] at q2
    obtain ⟨h1, h2, h3, h4, h5⟩ := zFit_iff.mp q2
    exact zOk_row h3 h4
  · rw [if_neg h0]
    rw [if_neg h0, if_neg h0] at q2
    exact zOk_tab q2
theorem zSf_ok {x num : Nat} {sv : Nat → Nat} {sl sr so : Nat} {cl : Bool} {v0 v1 : Nat} (hv : x = 1 → zOk (sv num) = true) (hl : 8 ≤ x → zOk sl = true) (hr : 4 ≤ x → zOk sr = true) (ho : zOk so = true) (h : (zSf x num sv sl sr so cl v0 v1).1 = 0) : zOk (zSf x num sv sl sr so cl v0 v1).2 = true := by
  unfold zSf at h ⊢
  by_cases h1 : x = 1
  · rw [if_pos h1]; exact hv h1
  rw [if_neg h1] at h ⊢
  by_cases h2 : x = 3
  · rw [if_pos h2] at h ⊢; exact zCou_ok h
  rw [if_neg h2] at h ⊢
  by_cases h3 : x = 4 ∨ x = 7
  · rw [if_pos h3]; exact hr (by omega)
  rw [if_neg h3] at h ⊢
  by_cases h4 : x = 5
  · rw [if_pos h4]; exact zTrn_ok (hr (by omega))
  rw [if_neg h4] at h ⊢
  by_cases h5 : x = 6
  · rw [if_pos h5]; exact zRed_ok (hr (by omega))
  rw [if_neg h5] at h ⊢
  by_cases h6 : x = 8
  · rw [if_pos h6] at h ⊢; exact zEach_ok (hl (by omega)) (hr (by omega)) h
  rw [if_neg h6] at h ⊢
  by_cases h7 : x = 9
  · rw [if_pos h7] at h ⊢; exact zJoi_ok h
  rw [if_neg h7] at h ⊢
  by_cases h8 : x = 10
  · rw [if_pos h8] at h ⊢; exact zAnw_ok h
  rw [if_neg h8]
  exact ho
/-- node k's shape out of the shapes so far -/
def zSfN (kd num l9 r9 : Nat → Nat) (w : Nat → Nat → Nat) (s : Nat → Nat) (k : Nat) : Nat × Nat := zSf (kd k) (num k) s (s (8 + l9 k)) (s (8 + r9 k)) (s (8 + k)) (decide (kd (l9 k) = 2)) (w (l9 k) 0) (w (l9 k) 1)
/-- the shapes of the nodes below i, from the last to the first; or an error -/
def zShs (kd num l9 r9 : Nat → Nat) (w : Nat → Nat → Nat) : Nat → (Nat → Nat) → Nat × (Nat → Nat)
  | 0, s => (0, s)
  | k + 1, s => if (zSfN kd num l9 r9 w s k).1 ≠ 0 then ((zSfN kd num l9 r9 w s k).1, s) else zShs kd num l9 r9 w k (va_up s (8 + k) (zSfN kd num l9 r9 w s k).2)
/-- the nodes below b as numbers -/
def zNok (nf : Nat → Nat → Int32) (lr : Nat → Nat → Option Nat) (kd sgn num l9 r9 : Nat → Nat) (b k : Nat) : Prop :=
  nf 0 k = nI (kd k) ∧ kd k ≤ 10 ∧ nf 1 k = nI (sgn k) ∧ sgn k < 2 ^ 15 ∧ nf 2 k = nI (num k) ∧ num k < 2 ^ 15 ∧ (kd k = 1 → num k < 8) ∧ (8 ≤ kd k → lr 0 k = some (l9 k) ∧ k < l9 k ∧ l9 k < b) ∧ (4 ≤ kd k → lr 1 k = some (r9 k) ∧ k < r9 k ∧ r9 k < b) ∧ ((kd k = 6 ∨ kd k = 7 ∨ kd k = 8) → zSg (sgn k))
/-- the constants among them -/
def zCok (el : Nat → Nat → UInt64) (kd : Nat → Nat) (w : Nat → Nat → Nat) (s : Nat → Nat) (k : Nat) : Prop :=
  kd k = 2 → w k 0 < 2 ^ 15 ∧ w k 1 < 2 ^ 15 ∧ el (8 + k) 0 = FP.i2d (nI (w k 0)) ∧ (s (8 + k) ≠ 0 → el (8 + k) 1 = FP.i2d (nI (w k 1)))
theorem hd_X3_shapeFound : yX3_shapeFound.cls ≠ "java/lang/invoke/MethodHandle" ∧ yX3_shapeFound.cls ≠ "java/lang/invoke/VarHandle" ∧ (parseMethodDescriptor yX3_shapeFound.desc).map (fun d => d.parameters.length) = some 2 := by decide +kernel
set_option maxHeartbeats 4000000 in
set_option maxRecDepth 100000 in
theorem c_X3_shapeFound {l : Launch} (hl9 : l.stackTraces = false) {D : va_G} {ct : Nat → ClassId} {ad : Nat → Nat} (sc sg sh : Nat → Int32) (el : Nat → Nat → UInt64) (nf : Nat → Nat → Int32) (lr : Nat → Nat → Option Nat) (k : Nat) (hk : k < 41) (x : Nat) (hx9 : x ≤ 10) (hkd : nf 0 k = nI x) (num : Nat) (hnum : nf 2 k = nI num) (hn15 : num < 2 ^ 15) (hv : x = 1 → num < 8) (lf rt : Nat) (hL : 8 ≤ x → lr 0 k = some lf ∧ lf < 41) (hR : 4 ≤ x → lr 1 k = some rt ∧ rt < 41) (s9 : Nat → Nat) (hs : ∀ j, j < 49 → sh j = nI (s9 j)) (ho : ∀ j, j < 49 → s9 j ≤ 792 ∧ zCt (s9 j) ≤ 24) (kl : Nat) (hkl : x = 10 → nf 0 lf = nI kl ∧ kl ≤ 10) (v0 v1 : Nat) (hv0 : v0 < 2 ^ 15) (hv1 : v1 < 2 ^ 15) (hcv : x = 10 → kl = 2 → el (8 + lf) 0 = FP.i2d (nI v0) ∧ True ∧ (s9 (8 + lf) ≠ 0 → el (8 + lf) 1 = FP.i2d (nI v1) ∧ True)) : ar_M l yX3_shapeFound cX3_shapeFound 2 (some .int) 7 114 D ct (xL ad ct) [.ref (ad (104 + k)), .ref (ad 1)] (sc, sg, sh, el, nf, lr) (fun v9 u9 => (zSf x num s9 (s9 (8 + lf)) (s9 (8 + rt)) (s9 (8 + k)) (decide (kl = 2)) v0 v1).1 = 0 ∧ v9 = some (.int (nI (zSf x num s9 (s9 (8 + lf)) (s9 (8 + rt)) (s9 (8 + k)) (decide (kl = 2)) v0 v1).2)) ∧ u9 = (sc, sg, sh, el, nf, lr)) (fun E9 u9 => (zSf x num s9 (s9 (8 + lf)) (s9 (8 + rt)) (s9 (8 + k)) (decide (kl = 2)) v0 v1).1 ≠ 0 ∧ E9 = zEc (zSf x num s9 (s9 (8 + lf)) (s9 (8 + rt)) (s9 (8 + k)) (decide (kl = 2)) v0 v1).1 ∧ u9 = (sc, sg, sh, el, nf, lr)) := by
  refine ar_ofW hl9 (by decide) (Nat.le_of_ble_eq_true rfl) ?_
  intro p e s m below meth c A ls C hr hnm hW hl
  have hx := C.1
  have hb := C.2.1
  have hown := C.2.2.2.1
  have hts := C.2.2.2.2.1
  have hl : lv_has ls 2 [(0, .ref (ad (104 + k))), (1, .ref (ad 1))] := hl
  refine lv_aload_n hx hb dX3_shapeFound_0 rfl (lv_at hl 0 rfl) ?_
  refine xg_kind (k := k) C hW q85 (by first | omega | (have := (hR (by decide)).2; omega) | (have := (hL (by decide)).2; omega) | (have := hv rfl; omega)) dX3_shapeFound_1 ?_
  refine ln_top (hkd) ?_
  rcases (show x = 0 ∨ x = 1 ∨ x = 2 ∨ x = 3 ∨ x = 4 ∨ x = 5 ∨ x = 6 ∨ x = 7 ∨ x = 8 ∨ x = 9 ∨ x = 10 by omega) with rfl | rfl | rfl | rfl | rfl | rfl | rfl | rfl | rfl | rfl | rfl
  · skip
    refine lv_tableOut (tgt := 183) hx hb dX3_shapeFound_4 (by decide) (by decide) ?_
    refine lv_aload_n hx hb dX3_shapeFound_183 rfl (lv_at hl 0 rfl) ?_
    refine xg_result (k := k) C hW q104 (by first | omega | (have := (hR (by decide)).2; omega) | (have := (hL (by decide)).2; omega) | (have := hv rfl; omega)) dX3_shapeFound_184 ?_
    refine xg_shape (j := 8 + k) C hW q37 (by first | omega | (have := (hR (by decide)).2; omega) | (have := (hL (by decide)).2; omega) | (have := hv rfl; omega)) dX3_shapeFound_187 ?_
    refine ln_top (hs _ (by omega)) ?_
    exact ar_iret C hr hW dX3_shapeFound_190 (⟨rfl, rfl, rfl⟩)
  · skip
    refine lv_tableIn (off := 56) (tgt := 60) hx hb dX3_shapeFound_4 (by decide) (by decide) (by decide) (by decide) ?_
    refine lv_aload_n hx hb dX3_shapeFound_60 rfl (lv_at hl 1 rfl) ?_
    refine lv_aload_n hx hb dX3_shapeFound_61 rfl (lv_at hl 0 rfl) ?_
    refine xg_number (k := k) C hW q92 (by first | omega | (have := (hR (by decide)).2; omega) | (have := (hL (by decide)).2; omega) | (have := hv rfl; omega)) dX3_shapeFound_62 ?_
    refine ln_top (hnum) ?_
    refine xl_variables (j := num) C hW (hv rfl) dX3_shapeFound_65 ?_
    refine xg_shape (j := num) C hW q37 (by first | omega | (have := (hR (by decide)).2; omega) | (have := (hL (by decide)).2; omega) | (have := hv rfl; omega)) dX3_shapeFound_66 ?_
    refine ln_top (hs _ (by have := hv rfl; omega)) ?_
    exact ar_iret C hr hW dX3_shapeFound_69 (⟨rfl, rfl, rfl⟩)
  · skip
    refine lv_tableIn (off := 179) (tgt := 183) hx hb dX3_shapeFound_4 (by decide) (by decide) (by decide) (by decide) ?_
    refine lv_aload_n hx hb dX3_shapeFound_183 rfl (lv_at hl 0 rfl) ?_
    refine xg_result (k := k) C hW q104 (by first | omega | (have := (hR (by decide)).2; omega) | (have := (hL (by decide)).2; omega) | (have := hv rfl; omega)) dX3_shapeFound_184 ?_
    refine xg_shape (j := 8 + k) C hW q37 (by first | omega | (have := (hR (by decide)).2; omega) | (have := (hL (by decide)).2; omega) | (have := hv rfl; omega)) dX3_shapeFound_187 ?_
    refine ln_top (hs _ (by omega)) ?_
    exact ar_iret C hr hW dX3_shapeFound_190 (⟨rfl, rfl, rfl⟩)
  · skip
    refine lv_tableIn (off := 66) (tgt := 70) hx hb dX3_shapeFound_4 (by decide) (by decide) (by decide) (by decide) ?_
    refine lv_aload_n hx hb dX3_shapeFound_70 rfl (lv_at hl 0 rfl) ?_
    refine xg_number (k := k) C hW q92 (by first | omega | (have := (hR (by decide)).2; omega) | (have := (hL (by decide)).2; omega) | (have := hv rfl; omega)) dX3_shapeFound_71 ?_
    refine ln_top (hnum) ?_
    refine ar_callS (As := [.int (nI num)]) (rest := []) C hW (c_X3_shapeOfCount hl9 _ num (hn15)) q450 q451 q17 q452 hd_X3_shapeOfCount ⟨Nat.le_of_ble_eq_true rfl, Nat.le_of_ble_eq_true rfl⟩ hl.1 (Nat.le_of_ble_eq_true rfl) rfl dX3_shapeFound_74 (fun E9 ce9 q9 u9 H locs hp hW h91 h92 h93 => ar_out C hW h91 h92 h93 (hp)) (fun v9 u9 H locs hp hW => ?_)
    obtain ⟨hz9, rfl, hu9⟩ := hp
    rw [hu9] at hW
    refine W.eq (g2 := F0 m 77 ls [.int (nI ((zCou num).2))]) rfl ?_
    exact ar_iret C hr hW dX3_shapeFound_77 (⟨hz9, rfl, rfl⟩)
  · skip
    refine lv_tableIn (off := 74) (tgt := 78) hx hb dX3_shapeFound_4 (by decide) (by decide) (by decide) (by decide) ?_
    refine lv_aload_n hx hb dX3_shapeFound_78 rfl (lv_at hl 0 rfl) ?_
    refine xg_right (k := k) C hW q101 (by first | omega | (have := (hR (by decide)).2; omega) | (have := (hL (by decide)).2; omega) | (have := hv rfl; omega)) dX3_shapeFound_79 ?_
    refine ln_opt ((hR (by decide)).1) ?_
    refine xg_result (k := rt) C hW q104 (by first | omega | (have := (hR (by decide)).2; omega) | (have := (hL (by decide)).2; omega) | (have := hv rfl; omega)) dX3_shapeFound_82 ?_
    refine xg_shape (j := 8 + rt) C hW q37 (by first | omega | (have := (hR (by decide)).2; omega) | (have := (hL (by decide)).2; omega) | (have := hv rfl; omega)) dX3_shapeFound_85 ?_
    refine ln_top (hs _ (by have := (hR (by decide)).2; omega)) ?_
    exact ar_iret C hr hW dX3_shapeFound_88 (⟨rfl, rfl, rfl⟩)
  · skip
    refine lv_tableIn (off := 85) (tgt := 89) hx hb dX3_shapeFound_4 (by decide) (by decide) (by decide) (by decide) ?_
    refine lv_aload_n hx hb dX3_shapeFound_89 rfl (lv_at hl 0 rfl) ?_
    refine xg_right (k := k) C hW q101 (by first | omega | (have := (hR (by decide)).2; omega) | (have := (hL (by decide)).2; omega) | (have := hv rfl; omega)) dX3_shapeFound_90 ?_
    refine ln_opt ((hR (by decide)).1) ?_
    refine xg_result (k := rt) C hW q104 (by first | omega | (have := (hR (by decide)).2; omega) | (have := (hL (by decide)).2; omega) | (have := hv rfl; omega)) dX3_shapeFound_93 ?_
    refine xg_shape (j := 8 + rt) C hW q37 (by first | omega | (have := (hR (by decide)).2; omega) | (have := (hL (by decide)).2; omega) | (have := hv rfl; omega)) dX3_shapeFound_96 ?_
    refine ln_top (hs _ (by have := (hR (by decide)).2; omega)) ?_
    refine ar_callS (As := [.int (nI (s9 (8 + rt)))]) (rest := []) C hW (c_X3_shapeTurned hl9 _ (s9 (8 + rt)) ((ho (8 + rt) (by have := (hR (by decide)).2; omega)).1)) q470 q471 q17 q472 hd_X3_shapeTurned ⟨Nat.le_of_ble_eq_true rfl, Nat.le_of_ble_eq_true rfl⟩ hl.1 (Nat.le_of_ble_eq_true rfl) rfl dX3_shapeFound_99 (fun _ _ _ _ _ _ hp => hp.elim) (fun v9 u9 H locs hp hW => ?_)
    obtain ⟨rfl, hu9⟩ := hp
    rw [hu9] at hW
    refine W.eq (g2 := F0 m 102 ls [.int (nI (zTrn (s9 (8 + rt))))]) rfl ?_
    exact ar_iret C hr hW dX3_shapeFound_102 (⟨rfl, rfl, rfl⟩)
  · skip
    refine lv_tableIn (off := 99) (tgt := 103) hx hb dX3_shapeFound_4 (by decide) (by decide) (by decide) (by decide) ?_
    refine lv_aload_n hx hb dX3_shapeFound_103 rfl (lv_at hl 0 rfl) ?_
    refine xg_right (k := k) C hW q101 (by first | omega | (have := (hR (by decide)).2; omega) | (have := (hL (by decide)).2; omega) | (have := hv rfl; omega)) dX3_shapeFound_104 ?_
    refine ln_opt ((hR (by decide)).1) ?_
    refine xg_result (k := rt) C hW q104 (by first | omega | (have := (hR (by decide)).2; omega) | (have := (hL (by decide)).2; omega) | (have := hv rfl; omega)) dX3_shapeFound_107 ?_
    refine xg_shape (j := 8 + rt) C hW q37 (by first | omega | (have := (hR (by decide)).2; omega) | (have := (hL (by decide)).2; omega) | (have := hv rfl; omega)) dX3_shapeFound_110 ?_
    refine ln_top (hs _ (by have := (hR (by decide)).2; omega)) ?_
    refine ar_callS (As := [.int (nI (s9 (8 + rt)))]) (rest := []) C hW (c_X3_shapeReduced hl9 _ (s9 (8 + rt)) ((ho (8 + rt) (by have := (hR (by decide)).2; omega)).1)) q479 q480 q17 q481 hd_X3_shapeReduced ⟨Nat.le_of_ble_eq_true rfl, Nat.le_of_ble_eq_true rfl⟩ hl.1 (Nat.le_of_ble_eq_true rfl) rfl dX3_shapeFound_113 (fun _ _ _ _ _ _ hp => hp.elim) (fun v9 u9 H locs hp hW => ?_)
    obtain ⟨rfl, hu9⟩ := hp
    rw [hu9] at hW
    refine W.eq (g2 := F0 m 116 ls [.int (nI (zRed (s9 (8 + rt))))]) rfl ?_
    exact ar_iret C hr hW dX3_shapeFound_116 (⟨rfl, rfl, rfl⟩)
  · skip
    refine lv_tableIn (off := 74) (tgt := 78) hx hb dX3_shapeFound_4 (by decide) (by decide) (by decide) (by decide) ?_
    refine lv_aload_n hx hb dX3_shapeFound_78 rfl (lv_at hl 0 rfl) ?_
    refine xg_right (k := k) C hW q101 (by first | omega | (have := (hR (by decide)).2; omega) | (have := (hL (by decide)).2; omega) | (have := hv rfl; omega)) dX3_shapeFound_79 ?_
    refine ln_opt ((hR (by decide)).1) ?_
    refine xg_result (k := rt) C hW q104 (by first | omega | (have := (hR (by decide)).2; omega) | (have := (hL (by decide)).2; omega) | (have := hv rfl; omega)) dX3_shapeFound_82 ?_
    refine xg_shape (j := 8 + rt) C hW q37 (by first | omega | (have := (hR (by decide)).2; omega) | (have := (hL (by decide)).2; omega) | (have := hv rfl; omega)) dX3_shapeFound_85 ?_
    refine ln_top (hs _ (by have := (hR (by decide)).2; omega)) ?_
    exact ar_iret C hr hW dX3_shapeFound_88 (⟨rfl, rfl, rfl⟩)
  · skip
    refine lv_tableIn (off := 113) (tgt := 117) hx hb dX3_shapeFound_4 (by decide) (by decide) (by decide) (by decide) ?_
    refine lv_aload_n hx hb dX3_shapeFound_117 rfl (lv_at hl 0 rfl) ?_
    refine xg_left (k := k) C hW q97 (by first | omega | (have := (hR (by decide)).2; omega) | (have := (hL (by decide)).2; omega) | (have := hv rfl; omega)) dX3_shapeFound_118 ?_
    refine ln_opt ((hL (by decide)).1) ?_
    refine xg_result (k := lf) C hW q104 (by first | omega | (have := (hR (by decide)).2; omega) | (have := (hL (by decide)).2; omega) | (have := hv rfl; omega)) dX3_shapeFound_121 ?_
    refine xg_shape (j := 8 + lf) C hW q37 (by first | omega | (have := (hR (by decide)).2; omega) | (have := (hL (by decide)).2; omega) | (have := hv rfl; omega)) dX3_shapeFound_124 ?_
    refine ln_top (hs _ (by have := (hL (by decide)).2; omega)) ?_
    refine lv_aload_n hx hb dX3_shapeFound_127 rfl (lv_at hl 0 rfl) ?_
    refine xg_right (k := k) C hW q101 (by first | omega | (have := (hR (by decide)).2; omega) | (have := (hL (by decide)).2; omega) | (have := hv rfl; omega)) dX3_shapeFound_128 ?_
    refine ln_opt ((hR (by decide)).1) ?_
    refine xg_result (k := rt) C hW q104 (by first | omega | (have := (hR (by decide)).2; omega) | (have := (hL (by decide)).2; omega) | (have := hv rfl; omega)) dX3_shapeFound_131 ?_
    refine xg_shape (j := 8 + rt) C hW q37 (by first | omega | (have := (hR (by decide)).2; omega) | (have := (hL (by decide)).2; omega) | (have := hv rfl; omega)) dX3_shapeFound_134 ?_
    refine ln_top (hs _ (by have := (hR (by decide)).2; omega)) ?_
    refine ar_callS (As := [.int (nI (s9 (8 + lf))), .int (nI (s9 (8 + rt)))]) (rest := []) C hW (c_X3_shapeOfEach hl9 _ (s9 (8 + lf)) (s9 (8 + rt)) ((ho (8 + lf) (by have := (hL (by decide)).2; omega)).1) ((ho (8 + rt) (by have := (hR (by decide)).2; omega)).1)) q482 q483 q17 q484 hd_X3_shapeOfEach ⟨Nat.le_of_ble_eq_true rfl, Nat.le_of_ble_eq_true rfl⟩ hl.1 (Nat.le_of_ble_eq_true rfl) rfl dX3_shapeFound_137 (fun E9 ce9 q9 u9 H locs hp hW h91 h92 h93 => ar_out C hW h91 h92 h93 (hp)) (fun v9 u9 H locs hp hW => ?_)
    obtain ⟨hz9, rfl, hu9⟩ := hp
    rw [hu9] at hW
    refine W.eq (g2 := F0 m 140 ls [.int (nI ((zEach (s9 (8 + lf)) (s9 (8 + rt))).2))]) rfl ?_
    exact ar_iret C hr hW dX3_shapeFound_140 (⟨hz9, rfl, rfl⟩)
  · skip
    refine lv_tableIn (off := 137) (tgt := 141) hx hb dX3_shapeFound_4 (by decide) (by decide) (by decide) (by decide) ?_
    refine lv_aload_n hx hb dX3_shapeFound_141 rfl (lv_at hl 0 rfl) ?_
    refine xg_left (k := k) C hW q97 (by first | omega | (have := (hR (by decide)).2; omega) | (have := (hL (by decide)).2; omega) | (have := hv rfl; omega)) dX3_shapeFound_142 ?_
    refine ln_opt ((hL (by decide)).1) ?_
    refine xg_result (k := lf) C hW q104 (by first | omega | (have := (hR (by decide)).2; omega) | (have := (hL (by decide)).2; omega) | (have := hv rfl; omega)) dX3_shapeFound_145 ?_
    refine xg_shape (j := 8 + lf) C hW q37 (by first | omega | (have := (hR (by decide)).2; omega) | (have := (hL (by decide)).2; omega) | (have := hv rfl; omega)) dX3_shapeFound_148 ?_
    refine ln_top (hs _ (by have := (hL (by decide)).2; omega)) ?_
    refine lv_aload_n hx hb dX3_shapeFound_151 rfl (lv_at hl 0 rfl) ?_
    refine xg_right (k := k) C hW q101 (by first | omega | (have := (hR (by decide)).2; omega) | (have := (hL (by decide)).2; omega) | (have := hv rfl; omega)) dX3_shapeFound_152 ?_
    refine ln_opt ((hR (by decide)).1) ?_
    refine xg_result (k := rt) C hW q104 (by first | omega | (have := (hR (by decide)).2; omega) | (have := (hL (by decide)).2; omega) | (have := hv rfl; omega)) dX3_shapeFound_155 ?_
    refine xg_shape (j := 8 + rt) C hW q37 (by first | omega | (have := (hR (by decide)).2; omega) | (have := (hL (by decide)).2; omega) | (have := hv rfl; omega)) dX3_shapeFound_158 ?_
    refine ln_top (hs _ (by have := (hR (by decide)).2; omega)) ?_
    refine ar_callS (As := [.int (nI (s9 (8 + lf))), .int (nI (s9 (8 + rt)))]) (rest := []) C hW (c_X3_shapeJoined hl9 _ (s9 (8 + lf)) (s9 (8 + rt)) ((ho (8 + lf) (by have := (hL (by decide)).2; omega)).1) ((ho (8 + rt) (by have := (hR (by decide)).2; omega)).1) ((ho (8 + lf) (by have := (hL (by decide)).2; omega)).2) ((ho (8 + rt) (by have := (hR (by decide)).2; omega)).2)) q501 q502 q17 q503 hd_X3_shapeJoined ⟨Nat.le_of_ble_eq_true rfl, Nat.le_of_ble_eq_true rfl⟩ hl.1 (Nat.le_of_ble_eq_true rfl) rfl dX3_shapeFound_161 (fun E9 ce9 q9 u9 H locs hp hW h91 h92 h93 => ar_out C hW h91 h92 h93 (hp)) (fun v9 u9 H locs hp hW => ?_)
    obtain ⟨hz9, rfl, hu9⟩ := hp
    rw [hu9] at hW
    refine W.eq (g2 := F0 m 164 ls [.int (nI ((zJoi (s9 (8 + lf)) (s9 (8 + rt))).2))]) rfl ?_
    exact ar_iret C hr hW dX3_shapeFound_164 (⟨hz9, rfl, rfl⟩)
  · skip
    refine lv_tableIn (off := 161) (tgt := 165) hx hb dX3_shapeFound_4 (by decide) (by decide) (by decide) (by decide) ?_
    refine lv_aload_n hx hb dX3_shapeFound_165 rfl (lv_at hl 0 rfl) ?_
    refine xg_left (k := k) C hW q97 (by first | omega | (have := (hR (by decide)).2; omega) | (have := (hL (by decide)).2; omega) | (have := hv rfl; omega)) dX3_shapeFound_166 ?_
    refine ln_opt ((hL (by decide)).1) ?_
    refine lv_aload_n hx hb dX3_shapeFound_169 rfl (lv_at hl 0 rfl) ?_
    refine xg_right (k := k) C hW q101 (by first | omega | (have := (hR (by decide)).2; omega) | (have := (hL (by decide)).2; omega) | (have := hv rfl; omega)) dX3_shapeFound_170 ?_
    refine ln_opt ((hR (by decide)).1) ?_
    refine xg_result (k := rt) C hW q104 (by first | omega | (have := (hR (by decide)).2; omega) | (have := (hL (by decide)).2; omega) | (have := hv rfl; omega)) dX3_shapeFound_173 ?_
    refine ar_callV (As := []) (rest := [.ref (ad (104 + lf))]) C hW (c_X1_count hl9 sc sg sh el nf lr (8 + rt) (by have := (hR (by decide)).2; omega) (s9 (8 + rt)) (by have := (ho (8 + rt) (by have := (hR (by decide)).2; omega)).1; omega) (hs _ (by have := (hR (by decide)).2; omega))) (xl_at (by have := (hR (by decide)).2; omega) (xc_na (j := 8 + rt) (by have := (hR (by decide)).2; omega))) rfl q507 q214 q215 q2 q216 hd_X1_count ⟨Nat.le_of_ble_eq_true rfl, Nat.le_of_ble_eq_true rfl⟩ hl.1 (Nat.le_of_ble_eq_true rfl) rfl dX3_shapeFound_176 (fun _ _ _ _ _ _ hp => hp.elim) (fun v9 u9 H locs hp hW => ?_)
    obtain ⟨rfl, hu9⟩ := hp
    rw [hu9] at hW
    refine W.eq (g2 := F0 m 179 ls [.int (nI (zCt (s9 (8 + rt)))), .ref (ad (104 + lf))]) rfl ?_
    refine ar_callS (As := [.ref (ad (104 + lf)), .int (nI (zCt (s9 (8 + rt))))]) (rest := []) C hW (c_X3_shapeAnew hl9 sc sg sh el nf lr lf (hL (by decide)).2 kl (hkl rfl).2 (hkl rfl).1 (s9 (8 + lf)) (ho _ (by have := (hL (by decide)).2; omega)).1 (hs _ (by have := (hL (by decide)).2; omega)) v0 v1 (zCt (s9 (8 + rt))) hv0 hv1 (ho _ (by have := (hR (by decide)).2; omega)).2 (fun q => hcv rfl q)) q508 q509 q17 q510 hd_X3_shapeAnew ⟨Nat.le_of_ble_eq_true rfl, Nat.le_of_ble_eq_true rfl⟩ hl.1 (Nat.le_of_ble_eq_true rfl) rfl dX3_shapeFound_179 (fun E9 ce9 q9 u9 H locs hp hW h91 h92 h93 => ar_out C hW h91 h92 h93 (hp)) (fun v9 u9 H locs hp hW => ?_)
    obtain ⟨hz9, rfl, hu9⟩ := hp
    rw [hu9] at hW
    refine W.eq (g2 := F0 m 182 ls [.int (nI ((zAnw (decide (kl = 2)) (s9 (8 + lf)) v0 v1 (zCt (s9 (8 + rt)))).2))]) rfl ?_
    exact ar_iret C hr hW dX3_shapeFound_182 (⟨hz9, rfl, rfl⟩)
end
section
theorem zOkA {s : Nat → Nat} (h : ∀ j, j < 49 → zOk (s j) = true) : ∀ j, j < 49 → s j ≤ 792 ∧ zCt (s j) ≤ 24 := fun j hj => ⟨(zOk_num (h j hj)).1, (zOk_num (h j hj)).2.2.1⟩
theorem zSfN_ok {nf : Nat → Nat → Int32} {lr : Nat → Nat → Option Nat} {kd sgn num l9 r9 : Nat → Nat} {w : Nat → Nat → Nat} {b k : Nat} {s : Nat → Nat} (hb : b ≤ 41) (hk : k < b) (hn : zNok nf lr kd sgn num l9 r9 b k) (hs : ∀ j, j < 49 → zOk (s j) = true) (h : (zSfN kd num l9 r9 w s k).1 = 0) : zOk (zSfN kd num l9 r9 w s k).2 = true := by
  obtain ⟨-, -, -, -, -, -, h1, h2, h3, -⟩ := hn
  exact zSf_ok (fun q => hs _ (by have := h1 q; omega)) (fun q => hs _ (by have := (h2 q).2; omega)) (fun q => hs _ (by have := (h3 q).2; omega)) (hs _ (by omega)) h
theorem zSfN_cst {kd num l9 r9 : Nat → Nat} {w : Nat → Nat → Nat} {s : Nat → Nat} {k : Nat} (h : kd k = 2) : zSfN kd num l9 r9 w s k = (0, s (8 + k)) := by
  unfold zSfN zSf
  rw [h]
  rfl
theorem hd_X3_findAll : yX3_findAll.cls ≠ "java/lang/invoke/MethodHandle" ∧ yX3_findAll.cls ≠ "java/lang/invoke/VarHandle" ∧ (parseMethodDescriptor yX3_findAll.desc).map (fun d => d.parameters.length) = some 2 := by decide +kernel
set_option maxHeartbeats 4000000 in
set_option maxRecDepth 100000 in
theorem c_X3_findAll {l : Launch} (hl9 : l.stackTraces = false) {D : va_G} {ct : Nat → ClassId} {ad : Nat → Nat} (sc sg sh : Nat → Int32) (el : Nat → Nat → UInt64) (nf : Nat → Nat → Int32) (lr : Nat → Nat → Option Nat) (b : Nat) (hb9 : b ≤ 41) (hct : sc 4 = nI b) (kd sgn num l9 r9 : Nat → Nat) (w : Nat → Nat → Nat) (hnk : ∀ k, k < b → zNok nf lr kd sgn num l9 r9 b k) (hw15 : ∀ k i, w k i < 2 ^ 15) (s9 : Nat → Nat) (hs9 : ∀ j, j < 49 → sh j = nI (s9 j)) (ho9 : ∀ j, j < 49 → zOk (s9 j) = true) (hck : ∀ k, k < b → zCok el kd w s9 k) : ar_M l yX3_findAll cX3_findAll 4 none 8 135 D ct (xL ad ct) [.ref (ad 4), .ref (ad 1)] (sc, sg, sh, el, nf, lr) (fun v9 u9 => ∃ f : Nat → Int32, v9 = none ∧ (zShs kd num l9 r9 w b s9).1 = 0 ∧ (∀ j, j < 49 → f j = nI ((zShs kd num l9 r9 w b s9).2 j)) ∧ (∀ j, j < 49 → zOk ((zShs kd num l9 r9 w b s9).2 j) = true) ∧ (∀ j, j < 8 → (zShs kd num l9 r9 w b s9).2 j = s9 j) ∧ u9 = (sc, sg, f, el, nf, lr)) (fun E9 u9 => ∃ (f : Nat → Int32) (s8 : Nat → Nat), (zShs kd num l9 r9 w b s9).1 ≠ 0 ∧ E9 = zEc (zShs kd num l9 r9 w b s9).1 ∧ (∀ j, j < 49 → f j = nI (s8 j)) ∧ (∀ j, j < 49 → zOk (s8 j) = true) ∧ (∀ j, j < 8 → s8 j = s9 j) ∧ u9 = (sc, sg, f, el, nf, lr)) := by
  refine ar_ofW hl9 (by decide) (Nat.le_of_ble_eq_true rfl) ?_
  intro p e s m below meth c A ls C hr hnm hW hl
  have hx := C.1
  have hb := C.2.1
  have hown := C.2.2.2.1
  have hts := C.2.2.2.2.1
  have hl : lv_has ls 4 [(0, .ref (ad 4)), (1, .ref (ad 1))] := hl
  refine lv_aload_n hx hb dX3_findAll_0 rfl (lv_at hl 0 rfl) ?_
  refine xg_count C hW q124 dX3_findAll_1 ?_
  refine ln_top (hct) ?_
  refine lv_iconst (v := nI 1) hx hb dX3_findAll_4 (by decide) ?_
  refine lv_isub hx hb dX3_findAll_5 ?_
  refine W.eq (g2 := F0 m 6 ls [.int (zPr b)]) rfl ?_
  refine lv_istore_n (lv' := [(2, .int (zPr b)), (0, .ref (ad 4)), (1, .ref (ad 1))]) hx hb dX3_findAll_6 rfl hl (by decide) rfl (fun ls hl => ?_)
  have lp : ∀ (N9 : Nat) (i : Nat) (s8 : Nat → Nat) (f : Nat → Int32) (H : Heap) (locs : List Loc) (ls : Array Slot), i < N9 → (i ≤ b) → (∀ j, j < 49 → f j = nI (s8 j)) → (∀ j, j < 49 → zOk (s8 j) = true) → (∀ k, k < b → kd k = 2 → s8 (8 + k) = s9 (8 + k)) → (zShs kd num l9 r9 w b s9 = zShs kd num l9 r9 w i s8) → (∀ j, j < 8 → s8 j = s9 j) → ar_W D A s.heap H locs (xL ad ct (sc, sg, f, el, nf, lr)) → lv_has ls 4 [(0, .ref (ad 4)), (1, .ref (ad 1)), (2, .int (zPr i))] → W p l e (ar_rm 8 135) s m [.ref (ad 4), .ref (ad 1)].toArray below meth c H locs 0 0 (ar_E below (ar_Q D ct (xL ad ct) A (fun v9 u9 => ∃ f : Nat → Int32, v9 = none ∧ (zShs kd num l9 r9 w b s9).1 = 0 ∧ (∀ j, j < 49 → f j = nI ((zShs kd num l9 r9 w b s9).2 j)) ∧ (∀ j, j < 49 → zOk ((zShs kd num l9 r9 w b s9).2 j) = true) ∧ (∀ j, j < 8 → (zShs kd num l9 r9 w b s9).2 j = s9 j) ∧ u9 = (sc, sg, f, el, nf, lr)) (fun E9 u9 => ∃ (f : Nat → Int32) (s8 : Nat → Nat), (zShs kd num l9 r9 w b s9).1 ≠ 0 ∧ E9 = zEc (zShs kd num l9 r9 w b s9).1 ∧ (∀ j, j < 49 → f j = nI (s8 j)) ∧ (∀ j, j < 49 → zOk (s8 j) = true) ∧ (∀ j, j < 8 → s8 j = s9 j) ∧ u9 = (sc, sg, f, el, nf, lr))) [.ref (ad 4), .ref (ad 1)].toArray s) (F0 m 7 ls []) := by
    intro N9
    induction N9 with
    | zero =>
      intro i s8 f H locs ls hN9
      exact absurd hN9 (Nat.not_lt_zero _)
    | succ N9 ihlp =>
      intro i s8 f H locs ls hN9 hi hs8 ho8 hcs hzz hvv hW hl
      refine lv_iload_n hx hb dX3_findAll_7 rfl (lv_at hl 2 rfl) ?_
      refine lv_if_lt (tgt := 36) hx hb dX3_findAll_8 (by decide) (fun h1 => ?_) (fun h1 => ?_)
      · skip
        have hi0 := zPr_neg (by omega) h1
        subst hi0
        exact ar_vret C hr hW dX3_findAll_36 (⟨f, rfl, by rw [hzz]; rfl, by rw [hzz]; exact hs8, by rw [hzz]; exact ho8, by rw [hzz]; exact hvv, rfl⟩)
      · skip
        obtain ⟨k, rfl⟩ := zPr_pos h1
        rw [zPr_s] at hl
        have hnok := hnk k (by omega)
        obtain ⟨n1, n2, n3, n4, n5, n6, n7, n8, n9, n10⟩ := id hnok
        refine lv_aload_n hx hb dX3_findAll_11 rfl (lv_at hl 0 rfl) ?_
        refine xg_nodes C hW q122 dX3_findAll_12 ?_
        refine lv_iload_n hx hb dX3_findAll_15 rfl (lv_at hl 2 rfl) ?_
        refine xl_nodes (j := k) C hW (by omega) dX3_findAll_16 ?_
        refine lv_astore_n (lv' := [(3, .ref (ad (104 + k))), (0, .ref (ad 4)), (1, .ref (ad 1)), (2, .int (nI k))]) hx hb dX3_findAll_17 rfl hl (by decide) rfl (fun ls hl => ?_)
        refine lv_aload_n hx hb dX3_findAll_18 rfl (lv_at hl 0 rfl) ?_
        refine xg_result (k := k) C hW q104 (by omega) dX3_findAll_19 ?_
        refine lv_aload_n hx hb dX3_findAll_22 rfl (lv_at hl 0 rfl) ?_
        refine lv_aload_n hx hb dX3_findAll_23 rfl (lv_at hl 2 rfl) ?_
        refine ar_callS (As := [.ref (ad (104 + k)), .ref (ad 1)]) (rest := [.ref (ad (6 + (8 + k)))]) C hW (c_X3_shapeFound hl9 sc sg f el nf lr k (by omega) (kd k) n2 n1 (num k) n5 n6 n7 (l9 k) (r9 k) (fun q => ⟨(n8 q).1, by have := (n8 q).2; omega⟩) (fun q => ⟨(n9 q).1, by have := (n9 q).2; omega⟩) s8 hs8 (zOkA ho8) (kd (l9 k)) (fun q => by have h55 := hnk (l9 k) (n8 (by omega)).2.2; exact ⟨h55.1, h55.2.1⟩) (w (l9 k) 0) (w (l9 k) 1) (hw15 _ 0) (hw15 _ 1) (fun q q2 => by have h56 := hck (l9 k) (n8 (by omega)).2.2 q2; exact ⟨h56.2.2.1, trivial, fun q3 => ⟨h56.2.2.2 (by rw [← hcs _ (n8 (by omega)).2.2 q2]; exact q3), trivial⟩⟩)) q447 q448 q17 q449 hd_X3_shapeFound ⟨Nat.le_of_ble_eq_true rfl, Nat.le_of_ble_eq_true rfl⟩ hl.1 (Nat.le_of_ble_eq_true rfl) rfl dX3_findAll_24 (fun E9 ce9 q9 u9 H locs hp hW h91 h92 h93 => ar_out C hW h91 h92 h93 (⟨f, s8, by rw [hzz, zShs, if_pos (show (zSfN kd num l9 r9 w s8 k).1 ≠ 0 from hp.1)]; exact hp.1, by rw [hzz, zShs, if_pos (show (zSfN kd num l9 r9 w s8 k).1 ≠ 0 from hp.1)]; exact hp.2.1, hs8, ho8, hvv, hp.2.2⟩)) (fun v9 u9 H locs hp hW => ?_)
        obtain ⟨hz9, rfl, hu9⟩ := hp
        rw [hu9] at hW
        have hz9 : (zSfN kd num l9 r9 w s8 k).1 = 0 := hz9
        refine W.eq (g2 := F0 m 27 ls [.int (nI ((zSfN kd num l9 r9 w s8 k).2)), .ref (ad (6 + (8 + k)))]) rfl ?_
        refine xp_shape (j := 8 + k) C hW q37 (by omega) dX3_findAll_27 (fun H locs hW => ?_)
        refine lv_iinc (k := 3) (v := zPr k) (lv' := [(2, .int (zPr k)), (3, .ref (ad (104 + k))), (0, .ref (ad 4)), (1, .ref (ad 1))]) hx hb dX3_findAll_30 hl rfl (zPr_d _) (by decide) rfl (fun ls hl => ?_)
        refine lv_goto (tgt := 7) hx hb dX3_findAll_33 (by decide) ?_
        exact ihlp k (va_up s8 (8 + k) (zSfN kd num l9 r9 w s8 k).2) (va_up f (8 + k) (nI (zSfN kd num l9 r9 w s8 k).2)) _ _ _ (by omega) (by omega) (fun j hj => by unfold va_up; split; rfl; exact hs8 j hj) (fun j hj => by unfold va_up; split; exact zSfN_ok hb9 (by omega) hnok ho8 hz9; exact ho8 j hj) (fun q hq hq2 => by unfold va_up; split; (rename_i h77; have h78 : q = k := by omega); (subst h78; rw [zSfN_cst hq2]; exact hcs q hq hq2); exact hcs q hq hq2) (by rw [hzz, zShs, if_neg (by rw [hz9]; exact fun q => q rfl)]) (fun j hj => by rw [va_up_ne _ _ (by omega)]; exact hvv j hj) (hW) (lv_sub hl [2, 3, 0] rfl)
  exact lp _ b s9 sh _ _ _ (Nat.lt_succ_self _) (Nat.le_refl _) (hs9) (ho9) (fun _ _ _ => rfl) (rfl) (fun _ _ => rfl) (hW) (lv_sub hl [1, 2, 0] rfl)
end
section
/-! numbers in range -/
theorem zLo_int : FP.Core.DInt (-1000000000000) 14009883241494872064 := by
  unfold FP.Core.DInt
  have h : FP.Core.val64 14009883241494872064 = .fin true 8192000000000000 (-13) := by decide +kernel
  rw [h]
  show FP.Core.signed true (8192000000000000 * 2 ^ (-13 : Int).toNat) = (-1000000000000) * ((2 ^ (-(-13 : Int)).toNat : Nat) : Int)
  decide +kernel
theorem zHi_int : FP.Core.DInt 1000000000000 4786511204640096256 := by
  unfold FP.Core.DInt
  have h : FP.Core.val64 4786511204640096256 = .fin false 8192000000000000 (-13) := by decide +kernel
  rw [h]
  show FP.Core.signed false (8192000000000000 * 2 ^ (-13 : Int).toNat) = 1000000000000 * ((2 ^ (-(-13 : Int)).toNat : Nat) : Int)
  decide +kernel
theorem zRg_iff {x : UInt64} : zRg x = true ↔ (FP.dcmp x 14009883241494872064 = some .gt ∨ FP.dcmp x 14009883241494872064 = some .eq) ∧ (FP.dcmp x 4786511204640096256 = some .lt ∨ FP.dcmp x 4786511204640096256 = some .eq) := by
  unfold zRg
  rw [decide_eq_true_iff]
  rcases h1 : FP.dcmp x 14009883241494872064 with _ | _ | _ | _ <;> rcases h2 : FP.dcmp x 4786511204640096256 with _ | _ | _ | _ <;> simp <;> decide
theorem zRg_fin {x : UInt64} (h : zRg x = true) : FP.Core.DFin x := by
  obtain ⟨h1, h2⟩ := zRg_iff.mp h
  have e1 : FP.Core.val64 14009883241494872064 = .fin true 8192000000000000 (-13) := by decide +kernel
  have e2 : FP.Core.val64 4786511204640096256 = .fin false 8192000000000000 (-13) := by decide +kernel
  have g1 : FP.dcmp x 14009883241494872064 = FP.Core.order (FP.Core.val64 x) (FP.Core.val64 14009883241494872064) := rfl
  have g2 : FP.dcmp x 4786511204640096256 = FP.Core.order (FP.Core.val64 x) (FP.Core.val64 4786511204640096256) := rfl
  rw [g1, e1] at h1
  rw [g2, e2] at h2
  cases hx : FP.Core.val64 x with
  | nan => rw [hx] at h1; rcases h1 with h1 | h1 <;> cases h1
  | inf s =>
    rw [hx] at h1 h2
    cases s
    · rcases h2 with h2 | h2 <;> exact absurd h2 (by decide)
    · rcases h1 with h1 | h1 <;> exact absurd h1 (by decide)
  | fin s c q => exact ⟨s, c, q, hx⟩
theorem zRg_i2d (v : Int32) : zRg (FP.i2d v) = true := by
  have h1 : FP.dcmp (FP.i2d v) 14009883241494872064 = some (compare v.toInt (-1000000000000)) := FP.Core.dcmp_int (FP.Core.i2d_int v) zLo_int
  have h2 : FP.dcmp (FP.i2d v) 4786511204640096256 = some (compare v.toInt 1000000000000) := FP.Core.dcmp_int (FP.Core.i2d_int v) zHi_int
  have h3 := v.toInt_lt
  have h4 := v.le_toInt
  refine zRg_iff.mpr ⟨Or.inl ?_, Or.inl ?_⟩
  · rw [h1, (Int.compare_eq_gt).mpr (by omega)]
  · rw [h2, (Int.compare_eq_lt).mpr (by omega)]
theorem order_neg (x y : FP.Core.Datum) : FP.Core.order (FP.Core.negate x) (FP.Core.negate y) = FP.Core.order y x := by
  have sg : ∀ (s : Bool) (k : Nat), FP.Core.signed (!s) k = - FP.Core.signed s k := by
    intro s k
    cases s <;> simp [FP.Core.signed]
  have cn : ∀ a b : Int, compare (-a) (-b) = compare b a := by
    intro a b
    simp only [compare, compareOfLessAndEq]
    have e1 : (-a < -b) = (b < a) := propext ⟨fun h => by omega, fun h => by omega⟩
    have e2 : (-a = -b) = (b = a) := propext ⟨fun h => by omega, fun h => by omega⟩
    simp only [e1, e2]
  have c0 : ∀ a : Int, compare (-a) 0 = compare 0 a := fun a => by have := cn a 0; rw [Int.neg_zero] at this; exact this
  have c1 : ∀ a : Int, compare 0 (-a) = compare a 0 := fun a => by have := cn 0 a; rw [Int.neg_zero] at this; exact this
  cases x <;> cases y <;> simp only [FP.Core.negate, FP.Core.order, sg, cn, c0, c1]
  rename_i s c q t d r
  rw [Int.min_comm q r]
theorem zRg_neg {x : UInt64} (h : zRg x = true) : zRg (FP.dneg x) = true := by
  obtain ⟨h1, h2⟩ := zRg_iff.mp h
  have k1 : FP.dcmp (FP.dneg x) (FP.dneg 14009883241494872064) = FP.dcmp 14009883241494872064 x := by
    show FP.Core.order (FP.Core.val64 (FP.dneg x)) (FP.Core.val64 (FP.dneg 14009883241494872064)) = FP.Core.order (FP.Core.val64 14009883241494872064) (FP.Core.val64 x)
    rw [FP.val64_dneg, FP.val64_dneg, order_neg]
  have k2 : FP.dcmp (FP.dneg x) (FP.dneg 4786511204640096256) = FP.dcmp 4786511204640096256 x := by
    show FP.Core.order (FP.Core.val64 (FP.dneg x)) (FP.Core.val64 (FP.dneg 4786511204640096256)) = FP.Core.order (FP.Core.val64 4786511204640096256) (FP.Core.val64 x)
    rw [FP.val64_dneg, FP.val64_dneg, order_neg]
  rw [show FP.dneg 14009883241494872064 = 4786511204640096256 by decide, show FP.dcmp 14009883241494872064 x = (FP.dcmp x 14009883241494872064).map Ordering.swap from FP.Core.dcmp_swap _ _] at k1
  rw [show FP.dneg 4786511204640096256 = 14009883241494872064 by decide, show FP.dcmp 4786511204640096256 x = (FP.dcmp x 4786511204640096256).map Ordering.swap from FP.Core.dcmp_swap _ _] at k2
  refine zRg_iff.mpr ⟨?_, ?_⟩
  · rcases h2 with h2 | h2
    · exact Or.inl (by rw [k2, h2]; rfl)
    · exact Or.inr (by rw [k2, h2]; rfl)
  · rcases h1 with h1 | h1
    · exact Or.inl (by rw [k1, h1]; rfl)
    · exact Or.inr (by rw [k1, h1]; rfl)
theorem zNan_bits {x : UInt64} (h : FP.Core.dIsNaN x = false) : vf_n64 x := by
  unfold vf_n64
  have h1 := (FP.Core.ne_nan x).mp ((FP.Core.notNaN_iff x).mp h)
  rw [UInt64.le_iff_toNat_le, UInt64.toNat_and, show (0x7fffffffffffffff : UInt64).toNat = 2 ^ 63 - 1 from rfl, Nat.and_two_pow_sub_one_eq_mod]
  exact h1
theorem zRg_nn {x y : UInt64} (c : Nat) (hx : zRg x = true) (hy : zRg y = true) : zNn c x y :=
  ⟨fun _ => zNan_bits (FP.Core.dadd_out (zRg_fin hx).notNaN (zRg_fin hy)), fun _ => zNan_bits (FP.Core.dsub_out (zRg_fin hx).notNaN (zRg_fin hy)), fun _ => zNan_bits (FP.Core.dmul_out (zRg_fin hx) (zRg_fin hy))⟩
end
