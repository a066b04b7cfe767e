theorem lw_tm {w : Cond} (i : Nat) (h : tables_1[i]? = some w) : w ∈ lw_tbl := List.mem_append_right _ (List.mem_of_getElem? h)
theorem lw_fc {C : String} {args : Array Value} {s : State} (h : (Cond.initialized C).before args s = true) : ∃ c, s.vm.findClass C = some c := by
  cases hc : s.vm.findClass C with
  | some c => exact ⟨c, rfl⟩
  | none => simp [Cond.before, Cond.holds, Cond.value, hc] at h
theorem lw_fi {C : String} {n : Nat} {args : Array Value} {s : State} (h : (Cond.instantiable C n).before args s = true) : ∃ c, s.vm.findClass C = some c := by
  obtain ⟨cC, kC, hfc, -⟩ := Cond.instantiable_spec h
  exact ⟨cC, hfc⟩
theorem lw_tx {own tx : String} {k : Nat} {args : Array Value} {s : State} (hc : ∃ c, s.vm.findClass own = some c) (h : (Cond.stringRef own k tx).before args s = true) : ∃ sa : Nat, vk_R own k tx sa s := by
  obtain ⟨c, hc⟩ := hc
  obtain ⟨k9, cf, i, a, -, -, -, -, -, hev⟩ := Cond.stringRef_spec hc h
  exact ⟨a, vk_R.of h hev⟩
theorem lw_arr {ty : FieldType} {args : Array Value} {s : State} (h : (Cond.arrayClass ty).before args s = true) (hty : ∀ C, ty ≠ .object C) : ∃ cA : ClassId, ArrOfT s cA ty ∧ va_RA s cA ty := by
  obtain ⟨c, k, comp, h1, h2, h3⟩ := Cond.arrayClass_spec h
  refine ⟨c, fun n z => ⟨fun k h => (by cases h), k, h2, comp, h3⟩, ?_⟩
  cases ty with
  | object C => exact absurd rfl (hty C)
  | _ => exact h1
theorem lw_arq {C : String} {args : Array Value} {s : State} (h : (Cond.arrayOver (.object C)).before args s = true) : ∃ cA : ClassId, ArrOfT s cA (.object C) ∧ va_RA s cA (.object C) := by
  obtain ⟨comp, c, k, h1, -, h3, h4, h5⟩ := Cond.arrayOver_spec h
  exact ⟨c, fun n z => ⟨fun k h => (by cases h), k, h3, comp, h4⟩, k, comp, h3, h4, h1, h5⟩
theorem ar_inJ0 : ∀ w ∈ u_ws RJ0 TJ0 2, w ∈ lw_all := by decide +kernel
theorem ar_inJ1 : ∀ w ∈ u_ws RJx00060 TJx00060 6, w ∈ lw_all := by decide +kernel
theorem lw_know {args : Array Value} {s : State} (hts : ∀ w ∈ lw_tbl, w.before args s = true) : ∃ (D : va_G) (ct : Nat → ClassId), va_K D vwCl (ar_T ct) s := by
  have hta : ∀ w ∈ lw_all, w.before args s = true := fun w h => hts w (lw_allTbl h)
  obtain ⟨c0, i0, h0⟩ := u_known (C := RJ0) (T := TJ0) (N := 2) hta ar_inJ0 (hts (Jvm.Cond.instantiable "java/lang/String" (4 : Nat)) (lw_tm 317 (by decide +kernel)))
  obtain ⟨c1, i1, h1⟩ := u_known (C := RJx00060) (T := TJx00060) (N := 6) hta ar_inJ1 (hts (Jvm.Cond.instantiable "java/lang/ArrayIndexOutOfBoundsException" (6 : Nat)) (lw_tm 245 (by decide +kernel)))
  obtain ⟨c2, i2, h2⟩ := u_known (C := RX0) (T := TX0) (N := 6) hta ar_in0 (hts (Jvm.Cond.instantiable "ArrayText$Node" (6 : Nat)) (lw_tm 77 (by decide +kernel)))
  obtain ⟨c3, i3, h3⟩ := u_known (C := RX1) (T := TX1) (N := 2) hta ar_in1 (hts (Jvm.Cond.instantiable "ArrayText$NumberArray" (2 : Nat)) (lw_tm 31 (by decide +kernel)))
  obtain ⟨c4, i4, h4⟩ := u_known (C := RX5) (T := TX5) (N := 3) hta ar_in5 (hts (Jvm.Cond.instantiable "ArrayText$Text" (3 : Nat)) (lw_tm 53 (by decide +kernel)))
  obtain ⟨c5, i5, h5⟩ := u_known (C := RX6) (T := TX6) (N := 2) hta ar_in6 (hts (Jvm.Cond.instantiable "ArrayText$Tree" (2 : Nat)) (lw_tm 70 (by decide +kernel)))
  obtain ⟨c6, i6, h6⟩ := u_known (C := RX8) (T := TX8) (N := 5) hta ar_in8 (hts (Jvm.Cond.instantiable "ArrayText" (5 : Nat)) (lw_tm 22 (by decide +kernel)))
  obtain ⟨c7, i7, h7⟩ := u_known (C := RX9) (T := TX9) (N := 27) hta ar_in9 (hts (Jvm.Cond.instantiable "ArrayTextModel" (27 : Nat)) (lw_tm 582 (by decide +kernel)))
  obtain ⟨a0, b0⟩ := lw_arr (ty := .char) (hts (Jvm.Cond.arrayClass Jvm.ClassFile.FieldType.char) (lw_tm 68 (by decide +kernel))) (fun C h => by cases h)
  obtain ⟨a1, b1⟩ := lw_arr (ty := .double) (hts (Jvm.Cond.arrayClass Jvm.ClassFile.FieldType.double) (lw_tm 51 (by decide +kernel))) (fun C h => by cases h)
  obtain ⟨a2, b2⟩ := lw_arr (ty := .int) (hts (Jvm.Cond.arrayClass Jvm.ClassFile.FieldType.int) (lw_tm 669 (by decide +kernel))) (fun C h => by cases h)
  obtain ⟨a3, b3⟩ := lw_arr (ty := .long) (hts (Jvm.Cond.arrayClass Jvm.ClassFile.FieldType.long) (lw_tm 814 (by decide +kernel))) (fun C h => by cases h)
  obtain ⟨a4, b4⟩ := lw_arq (C := "ArrayText$Node") (hts (Jvm.Cond.arrayOver (Jvm.ClassFile.FieldType.object "ArrayText$Node")) (lw_tm 76 (by decide +kernel)))
  obtain ⟨a5, b5⟩ := lw_arq (C := "ArrayText$NumberArray") (hts (Jvm.Cond.arrayOver (Jvm.ClassFile.FieldType.object "ArrayText$NumberArray")) (lw_tm 30 (by decide +kernel)))
  refine ⟨(fun k => [c0, c1, c2, c3, c4, c5, c6, c7].getD k c0, fun k => [i0, i1, i2, i3, i4, i5, i6, i7].getD k i0), fun k => [a0, a1, a2, a3, a4, a5].getD k a0, fun c q hq => ?_, fun k q hq => ?_⟩
  · match c, hq with
    | 0, hq => cases hq; exact h0
    | 1, hq => cases hq; exact h1
    | 2, hq => cases hq; exact h2
    | 3, hq => cases hq; exact h3
    | 4, hq => cases hq; exact h4
    | 5, hq => cases hq; exact h5
    | 6, hq => cases hq; exact h6
    | 7, hq => cases hq; exact h7
    | n + 8, hq => exact absurd (List.getElem?_eq_some_iff.mp hq).1 (by show ¬ n + 8 < 8; omega)
  · match k, hq with
    | 0, hq => cases hq; exact b0
    | 1, hq => cases hq; exact b1
    | 2, hq => cases hq; exact b2
    | 3, hq => cases hq; exact b3
    | 4, hq => cases hq; exact b4
    | 5, hq => cases hq; exact b5
    | n + 6, hq => exact absurd (List.getElem?_eq_some_iff.mp hq).1 (by show ¬ n + 6 < 6; omega)
theorem lw_V {args : Array Value} {s : State} (hts : ∀ w ∈ lw_tbl, w.before args s = true) : ar_V s :=
  ⟨List.forall_mem_cons.mpr ⟨va_Nw.of rfl (hts (Jvm.Cond.methodLinkNest "ArrayText" (15 : Nat) ({ cls := "ArrayText$NumberArray", name := "<init>", desc := "()V" } : Jvm.MethodName) "ArrayText") (lw_tm 32 (by decide +kernel))), List.forall_mem_cons.mpr ⟨va_Nw.of rfl (hts (Jvm.Cond.methodLinkNest "ArrayText" (18 : Nat) ({ cls := "ArrayText$Text", name := "<init>", desc := "()V" } : Jvm.MethodName) "ArrayText") (lw_tm 54 (by decide +kernel))), List.forall_mem_cons.mpr ⟨va_Nw.of rfl (hts (Jvm.Cond.methodLinkNest "ArrayText$Tree" (17 : Nat) ({ cls := "ArrayText$Node", name := "<init>", desc := "()V" } : Jvm.MethodName) "ArrayText") (lw_tm 78 (by decide +kernel))), List.forall_mem_cons.mpr ⟨va_Nw.of rfl (hts (Jvm.Cond.methodLinkNest "ArrayText$Node" (11 : Nat) ({ cls := "ArrayText$NumberArray", name := "<init>", desc := "()V" } : Jvm.MethodName) "ArrayText") (lw_tm 83 (by decide +kernel))), List.forall_mem_cons.mpr ⟨va_Nw.of rfl (hts (Jvm.Cond.methodLinkNest "ArrayText$Parser" (67 : Nat) ({ cls := "ArrayText", name := "isVariable", desc := "(I)Z" } : Jvm.MethodName) "ArrayText") (lw_tm 426 (by decide +kernel))), List.forall_mem_cons.mpr ⟨va_Nw.of rfl (hts (Jvm.Cond.methodLinkNest "ArrayText$Worker" (116 : Nat) ({ cls := "ArrayText", name := "isInRange", desc := "(D)Z" } : Jvm.MethodName) "ArrayText") (lw_tm 546 (by decide +kernel))), fun _ h => absurd h List.not_mem_nil⟩⟩⟩⟩⟩⟩,
   List.forall_mem_cons.mpr ⟨va_Nw.of rfl (hts (Jvm.Cond.castable "java/lang/ArithmeticException" "java/lang/ArithmeticException") (lw_tm 338 (by decide +kernel))), List.forall_mem_cons.mpr ⟨va_Nw.of rfl (hts (Jvm.Cond.castable "java/lang/IndexOutOfBoundsException" "java/lang/IndexOutOfBoundsException") (lw_tm 346 (by decide +kernel))), List.forall_mem_cons.mpr ⟨va_Nw.of rfl (hts (Jvm.Cond.castable "java/lang/IllegalArgumentException" "java/lang/IllegalArgumentException") (lw_tm 373 (by decide +kernel))), List.forall_mem_cons.mpr ⟨va_Nw.of rfl (hts (Jvm.Cond.castable "java/lang/UnsupportedOperationException" "java/lang/UnsupportedOperationException") (lw_tm 456 (by decide +kernel))), List.forall_mem_cons.mpr ⟨va_Nw.of rfl (hts (Jvm.Cond.castable "java/lang/IllegalStateException" "java/lang/IllegalStateException") (lw_tm 487 (by decide +kernel))), fun _ h => absurd h List.not_mem_nil⟩⟩⟩⟩⟩,
   List.forall_mem_cons.mpr ⟨lw_tx (lw_fc (hts (Jvm.Cond.initialized "ArrayText") (lw_tm 1 (by decide +kernel)))) (hts (Jvm.Cond.stringRef "ArrayText" (71 : Nat) "no such variable") (lw_tm 353 (by decide +kernel))), List.forall_mem_cons.mpr ⟨lw_tx (lw_fc (hts (Jvm.Cond.initialized "ArrayText$Parser") (lw_tm 15 (by decide +kernel)))) (hts (Jvm.Cond.stringRef "ArrayText$Parser" (36 : Nat) "deeper than a text can be") (lw_tm 380 (by decide +kernel))), List.forall_mem_cons.mpr ⟨lw_tx (lw_fc (hts (Jvm.Cond.initialized "ArrayText$Tree") (lw_tm 4 (by decide +kernel)))) (hts (Jvm.Cond.stringRef "ArrayText$Tree" (24 : Nat) "more parts than a text can hold") (lw_tm 392 (by decide +kernel))), List.forall_mem_cons.mpr ⟨lw_tx (lw_fc (hts (Jvm.Cond.initialized "ArrayText$Parser") (lw_tm 15 (by decide +kernel)))) (hts (Jvm.Cond.stringRef "ArrayText$Parser" (119 : Nat) "no sign to reduce or run by") (lw_tm 415 (by decide +kernel))), List.forall_mem_cons.mpr ⟨lw_tx (lw_fc (hts (Jvm.Cond.initialized "ArrayText$Parser") (lw_tm 15 (by decide +kernel)))) (hts (Jvm.Cond.stringRef "ArrayText$Parser" (65 : Nat) "no closing parenthesis") (lw_tm 425 (by decide +kernel))), List.forall_mem_cons.mpr ⟨lw_tx (lw_fc (hts (Jvm.Cond.initialized "ArrayText$Parser") (lw_tm 15 (by decide +kernel)))) (hts (Jvm.Cond.stringRef "ArrayText$Parser" (105 : Nat) "no part or number") (lw_tm 433 (by decide +kernel))), List.forall_mem_cons.mpr ⟨lw_tx (lw_fc (hts (Jvm.Cond.initialized "ArrayText$Parser") (lw_tm 15 (by decide +kernel)))) (hts (Jvm.Cond.stringRef "ArrayText$Parser" (31 : Nat) "more than an expression") (lw_tm 443 (by decide +kernel))), List.forall_mem_cons.mpr ⟨lw_tx (lw_fc (hts (Jvm.Cond.initialized "ArrayText$ShapeFinder") (lw_tm 17 (by decide +kernel)))) (hts (Jvm.Cond.stringRef "ArrayText$ShapeFinder" (81 : Nat) "no elements or too many behind i") (lw_tm 463 (by decide +kernel))), List.forall_mem_cons.mpr ⟨lw_tx (lw_fc (hts (Jvm.Cond.initialized "ArrayText$ShapeFinder") (lw_tm 17 (by decide +kernel)))) (hts (Jvm.Cond.stringRef "ArrayText$ShapeFinder" (101 : Nat) "shapes that do not fit") (lw_tm 494 (by decide +kernel))), List.forall_mem_cons.mpr ⟨lw_tx (lw_fc (hts (Jvm.Cond.initialized "ArrayText$ShapeFinder") (lw_tm 17 (by decide +kernel)))) (hts (Jvm.Cond.stringRef "ArrayText$ShapeFinder" (104 : Nat) "a table joined") (lw_tm 504 (by decide +kernel))), List.forall_mem_cons.mpr ⟨lw_tx (lw_fc (hts (Jvm.Cond.initialized "ArrayText$ShapeFinder") (lw_tm 17 (by decide +kernel)))) (hts (Jvm.Cond.stringRef "ArrayText$ShapeFinder" (109 : Nat) "too many elements joined") (lw_tm 506 (by decide +kernel))), List.forall_mem_cons.mpr ⟨lw_tx (lw_fc (hts (Jvm.Cond.initialized "ArrayText$ShapeFinder") (lw_tm 17 (by decide +kernel)))) (hts (Jvm.Cond.stringRef "ArrayText$ShapeFinder" (111 : Nat) "no constant of one number or two before #") (lw_tm 511 (by decide +kernel))), List.forall_mem_cons.mpr ⟨lw_tx (lw_fc (hts (Jvm.Cond.initialized "ArrayText$ShapeFinder") (lw_tm 17 (by decide +kernel)))) (hts (Jvm.Cond.stringRef "ArrayText$ShapeFinder" (116 : Nat) "no elements or too many by #") (lw_tm 512 (by decide +kernel))), List.forall_mem_cons.mpr ⟨lw_tx (lw_fc (hts (Jvm.Cond.initialized "ArrayText$ShapeFinder") (lw_tm 17 (by decide +kernel)))) (hts (Jvm.Cond.stringRef "ArrayText$ShapeFinder" (118 : Nat) "fewer elements by # than there are") (lw_tm 513 (by decide +kernel))), List.forall_mem_cons.mpr ⟨lw_tx (lw_fc (hts (Jvm.Cond.initialized "ArrayText$Worker") (lw_tm 20 (by decide +kernel)))) (hts (Jvm.Cond.stringRef "ArrayText$Worker" (122 : Nat) "a result out of range") (lw_tm 548 (by decide +kernel))), fun _ h => absurd h List.not_mem_nil⟩⟩⟩⟩⟩⟩⟩⟩⟩⟩⟩⟩⟩⟩⟩,
   List.forall_mem_cons.mpr ⟨va_Nw.of rfl (hts (Jvm.Cond.declares ({ cls := "java/lang/RuntimeException", name := "<init>", desc := "(Ljava/lang/String;)V" } : Jvm.MethodName)) (lw_tm 302 (by decide +kernel))), List.forall_mem_cons.mpr ⟨va_Nw.of rfl (hts (Jvm.Cond.declares ({ cls := "java/lang/Exception", name := "<init>", desc := "(Ljava/lang/String;)V" } : Jvm.MethodName)) (lw_tm 304 (by decide +kernel))), List.forall_mem_cons.mpr ⟨va_Nw.of rfl (hts (Jvm.Cond.declares ({ cls := "java/lang/Throwable", name := "<init>", desc := "(Ljava/lang/String;)V" } : Jvm.MethodName)) (lw_tm 306 (by decide +kernel))), fun _ h => absurd h List.not_mem_nil⟩⟩⟩⟩
theorem lw_No {args : Array Value} {s : State} (hts : ∀ w ∈ lw_tbl, w.before args s = true) (hn : ∀ w ∈ flatC (Jvm.Cond.and given_1 narrow_1), w.before args s = true) : ac_X s :=
  List.forall_mem_cons.mpr ⟨(by obtain ⟨c9, h9⟩ := lw_fi (hts (Jvm.Cond.instantiable "java/lang/IllegalArgumentException" (6 : Nat)) (lw_tm 372 (by decide +kernel))); exact ac_no_of (args := args) h9 (hn _ (by decide +kernel)) (lw_fi (hts (Jvm.Cond.instantiable "java/lang/IndexOutOfBoundsException" (6 : Nat)) (lw_tm 345 (by decide +kernel))))), List.forall_mem_cons.mpr ⟨(by obtain ⟨c9, h9⟩ := lw_fi (hts (Jvm.Cond.instantiable "java/lang/IllegalStateException" (6 : Nat)) (lw_tm 486 (by decide +kernel))); exact ac_no_of (args := args) h9 (hn _ (by decide +kernel)) (lw_fi (hts (Jvm.Cond.instantiable "java/lang/IndexOutOfBoundsException" (6 : Nat)) (lw_tm 345 (by decide +kernel))))), List.forall_mem_cons.mpr ⟨(by obtain ⟨c9, h9⟩ := lw_fi (hts (Jvm.Cond.instantiable "java/lang/IllegalStateException" (6 : Nat)) (lw_tm 486 (by decide +kernel))); exact ac_no_of (args := args) h9 (hn _ (by decide +kernel)) (lw_fi (hts (Jvm.Cond.instantiable "java/lang/IllegalArgumentException" (6 : Nat)) (lw_tm 372 (by decide +kernel))))), List.forall_mem_cons.mpr ⟨(by obtain ⟨c9, h9⟩ := lw_fi (hts (Jvm.Cond.instantiable "java/lang/UnsupportedOperationException" (6 : Nat)) (lw_tm 455 (by decide +kernel))); exact ac_no_of (args := args) h9 (hn _ (by decide +kernel)) (lw_fi (hts (Jvm.Cond.instantiable "java/lang/IndexOutOfBoundsException" (6 : Nat)) (lw_tm 345 (by decide +kernel))))), List.forall_mem_cons.mpr ⟨(by obtain ⟨c9, h9⟩ := lw_fi (hts (Jvm.Cond.instantiable "java/lang/UnsupportedOperationException" (6 : Nat)) (lw_tm 455 (by decide +kernel))); exact ac_no_of (args := args) h9 (hn _ (by decide +kernel)) (lw_fi (hts (Jvm.Cond.instantiable "java/lang/IllegalArgumentException" (6 : Nat)) (lw_tm 372 (by decide +kernel))))), List.forall_mem_cons.mpr ⟨(by obtain ⟨c9, h9⟩ := lw_fi (hts (Jvm.Cond.instantiable "java/lang/UnsupportedOperationException" (6 : Nat)) (lw_tm 455 (by decide +kernel))); exact ac_no_of (args := args) h9 (hn _ (by decide +kernel)) (lw_fi (hts (Jvm.Cond.instantiable "java/lang/IllegalStateException" (6 : Nat)) (lw_tm 486 (by decide +kernel))))), List.forall_mem_cons.mpr ⟨(by obtain ⟨c9, h9⟩ := lw_fi (hts (Jvm.Cond.instantiable "java/lang/ArithmeticException" (6 : Nat)) (lw_tm 327 (by decide +kernel))); exact ac_no_of (args := args) h9 (hn _ (by decide +kernel)) (lw_fi (hts (Jvm.Cond.instantiable "java/lang/IndexOutOfBoundsException" (6 : Nat)) (lw_tm 345 (by decide +kernel))))), List.forall_mem_cons.mpr ⟨(by obtain ⟨c9, h9⟩ := lw_fi (hts (Jvm.Cond.instantiable "java/lang/ArithmeticException" (6 : Nat)) (lw_tm 327 (by decide +kernel))); exact ac_no_of (args := args) h9 (hn _ (by decide +kernel)) (lw_fi (hts (Jvm.Cond.instantiable "java/lang/IllegalArgumentException" (6 : Nat)) (lw_tm 372 (by decide +kernel))))), List.forall_mem_cons.mpr ⟨(by obtain ⟨c9, h9⟩ := lw_fi (hts (Jvm.Cond.instantiable "java/lang/ArithmeticException" (6 : Nat)) (lw_tm 327 (by decide +kernel))); exact ac_no_of (args := args) h9 (hn _ (by decide +kernel)) (lw_fi (hts (Jvm.Cond.instantiable "java/lang/IllegalStateException" (6 : Nat)) (lw_tm 486 (by decide +kernel))))), List.forall_mem_cons.mpr ⟨(by obtain ⟨c9, h9⟩ := lw_fi (hts (Jvm.Cond.instantiable "java/lang/ArithmeticException" (6 : Nat)) (lw_tm 327 (by decide +kernel))); exact ac_no_of (args := args) h9 (hn _ (by decide +kernel)) (lw_fi (hts (Jvm.Cond.instantiable "java/lang/UnsupportedOperationException" (6 : Nat)) (lw_tm 455 (by decide +kernel))))), fun _ h => absurd h List.not_mem_nil⟩⟩⟩⟩⟩⟩⟩⟩⟩⟩
theorem lw_H {args : Array Value} {s : State} (hts : ∀ w ∈ lw_tbl, w.before args s = true) (hn : ∀ w ∈ flatC (Jvm.Cond.and given_1 narrow_1), w.before args s = true) : ar_H (fun q => s.heap.size ≤ q) s s.heap :=
  ⟨vx_Zqof (hts (Jvm.Cond.laysStatic "java/lang/Throwable" "UNASSIGNED_STACK" "[Ljava/lang/StackTraceElement;") (lw_tm 262 (by decide +kernel))) (hts (Jvm.Cond.initialized "java/lang/Throwable") (lw_tm 8 (by decide +kernel))) (hn _ (by decide +kernel)) (fun a h => by omega), vx_Zqof (hts (Jvm.Cond.laysStatic "java/lang/Throwable" "SUPPRESSED_SENTINEL" "Ljava/util/List;") (lw_tm 264 (by decide +kernel))) (hts (Jvm.Cond.initialized "java/lang/Throwable") (lw_tm 8 (by decide +kernel))) (hn _ (by decide +kernel)) (fun a h => by omega)⟩
def R_law : String := "ArrayTextLaw"
def lw_P (b : Addr) (xs : List Int32) (args : Array Value) (s : State) : Prop := args = #[.ref b] ∧ s.IntsAt b xs ∧ xs.length ≤ 2048 ∧ (Jvm.Cond.and given_1 narrow_1).before args s = true
/-- what a walk over the start with the record d0 says of its end, said of the start itself -/
theorem lw_closed {s t : State} {o : Outcome} {d0 : Drawn} {L : List Loc} {k n : Nat} (hd0 : s.drawn.sameBut d0 lw_cs) (hv : ∃ v, o = .returned v) (hW : (s.setDrawn d0).WarmedH t.vm) (hs : (s.setDrawn d0).sameButNew ({ t with vm := s.vm } : State) L k n) : State.butDraws s t lw_cs (fun t1 => Framed s o t1 L k n) := by
  have h2 : t.drawn = d0 := congrArg State.drawn hs.1
  refine ⟨⟨hv, hW, State.sameButNew.setDrawn hs s.drawn⟩, ?_, by decide⟩
  rw [h2]
  exact hd0
def lw_Q (_ : Array Value) (s : State) (o : Outcome) (t : State) : Prop := o = .returned (some (.int 1)) ∧ State.butDraws s t lw_cs (fun t1 => Framed s o t1 [] 603072 7202922)
def lw_Z (below : List Frame) (a : Array Value) (s : State) : State → Prop := fun t => ∃ o, t.status = .running ∧ Ended t below o ∧ lw_Q a s o t
/-- the law's own end, with 1 on the stack, nothing written that was there before, its room as the claim has it; d0: the record of draws at this point (at the entry s.drawn: begin with 'refine W.base ?_' and 'have hd0 := Drawn.sameBut.refl s.drawn lw_cs') -/
theorem lw_ret {p : Program} {l : Launch} {e : Env} {s : State} {m : MethodId} {below : List Frame} {meth : Method} {c : Code} {b : Nat} {d0 : Drawn} (hd0 : s.drawn.sameBut d0 lw_cs) (hx : p.tables.exec = Jvm.exec) (hb : c.code = code) (hr : meth.sig.returnType = ret) (hlocks : meth.locks = false) {pc : Nat} {H : Heap} {ls : Array Slot} (hdg : decode code pc = .ok (.ireturn, 1)) : W p l e room_1 (s.setDrawn d0) m #[Value.ref b] below meth c H [] 603072 7202922 (lw_Z below #[Value.ref b] s) (F0 m pc ls [.int 1]) := by
  intro T hT X
  obtain ⟨fs, hret, hrun, hended, hW, hframe⟩ := X.leave (v := some (.int 1)) (hlocks := hlocks) (fun h => by rw [hr] at h; cases h)
  have hmeth' : T.vm.method? m = some meth := X.method'
  refine ⟨T.setFrames fs, ?_, .returned (some (.int 1)), hrun, hended, rfl, lw_closed hd0 ⟨_, rfl⟩ hW hframe⟩
  jvm_step X.here [X.here.top, hx, hb, hdg, hmeth', hr, ret, narrow_b1]
  (try refine ⟨rfl, ?_⟩); (try refine ⟨rfl, ?_⟩)
  first | (intro acts; rw [hret _ acts rfl rfl rfl]) | rw [hret _ _ rfl rfl rfl]
  exact Steps.refl _
/-- what holds at the law's entry: the machine, the code, the tables' words (any of lw_tbl by 'hts w (by decide +kernel)'), the script of L ints xs at the cell b, what the Statement gives of the start (any of its parts by flat_of_before) -/
def lw_At (p : Program) (s : State) (m : MethodId) (meth : Method) (c : Code) (b L : Nat) (xs : Nat → Int32) : Prop :=
  p.tables.exec = Jvm.exec ∧ c.code = code ∧ meth.sig.returnType = ret ∧ c.maxLocals = 9 ∧ s.vm.findClass R_law = some m.cls ∧ (∀ w ∈ lw_tbl, w.before #[Value.ref b] s = true) ∧ va_X b L xs s s.heap ∧ b < s.heap.size ∧ meth.locks = false ∧ (Jvm.Cond.and given_1 narrow_1).before #[Value.ref b] s = true ∧ (∀ x ∈ c.exceptionTable.toList, False)
set_option maxHeartbeats 4000000 in
theorem whole_start {p : Program} {e : Env} {s : State} {m : MethodId} {below : List Frame} {meth : Method} {c : Code} (l : Launch) (hl9 : l.stackTraces = false) {b L : Nat} {xs : Nat → Int32} (hL : L ≤ 2048) (C0 : lw_At p s m meth c b L xs) : W p l e room_1 s m #[Value.ref b] below meth c s.heap [] 0 0 (lw_Z below #[Value.ref b] s) (entryFrame m ([Value.ref b] : List Value).toArray 9) := by
  obtain ⟨hx, hb, hr, hml, hown, hts, hXs, hbl, hlocks, hgv, htab⟩ := C0
  have hn := flat_of_before _ hgv
  obtain ⟨D, ct, hK⟩ := lw_know hts
  have C : ar_C p l s m meth c cL_law 9 RL #[Value.ref b] D ct (fun q => s.heap.size ≤ q) := ⟨hx, hb, hml, hown, fun w h => hts w (lw_allTbl h), hK, lw_V hts, lw_H hts hn, fun q h => h, hlocks, htab, hl9⟩
  have hX : ai_X s := ⟨va_AO.of (hts (Jvm.Cond.arrayOver (Jvm.ClassFile.FieldType.object "ArrayText$Node")) (lw_tm 76 (by decide +kernel))), va_AO.of (hts (Jvm.Cond.arrayOver (Jvm.ClassFile.FieldType.object "ArrayText$NumberArray")) (lw_tm 30 (by decide +kernel)))⟩
  rw [lg_entry_eq]
  refine lw_begin hl9 C hX (lw_No hts hn) hXs hbl (by show ¬ s.heap.size ≤ b; omega) hL (fun H locs ls cells slots h1 h2 h3 => ?_) (lv_entry [Value.ref b] (n := 9) (Nat.le_of_ble_eq_true rfl))
  refine lv_iconst (v := 1) hx hb dL_law_560 (by decide) ?_
  refine va_forget h3 (W.widen (k := 603072) (n := 7202922) (by omega) (by omega) ?_)
  exact lw_ret (d0 := s.drawn) (Drawn.sameBut.refl s.drawn lw_cs) hx hb hr hlocks dL_law_561
set_option maxHeartbeats 4000000 in
theorem lw_walk (l : Launch) (hl9 : l.stackTraces = false) (b : Addr) (xs : List Int32) : MetFree l x (headSpec (Jvm.Cond.code x code maxLocals ret :: tables_1) room_1) (lw_P b xs) (fun _ _ _ _ _ => True) lw_Q := by
  refine MetFree.of_bodyS (code := code) (maxLocals := maxLocals) (ret := ret) (by decide) ?_ ?_
  · intro args s m h hn
    obtain ⟨meth, c, h1, h2, h3, h4, h5, h6, -, -⟩ := Cond.code_spec hn (atoms_spec (ws := Jvm.Cond.code x code maxLocals ret :: tables_1) h _ List.mem_cons_self)
    exact ⟨meth, c, h1, h2, h3, h4, h5, h6⟩
  · intro p e s m args below meth c s₁ B hml0 hP _
    obtain ⟨rfl, hx, hbd, hgv⟩ := hP
    obtain ⟨scr, harrAt, hlist, hof, hsmall⟩ := hx
    obtain ⟨hcb, hkn, -, -⟩ := State.arrayAt?_spec harrAt
    have hown : s.vm.findClass R_law = some m.cls := findClass_of_methodNamed B.named
    have hts0 : ∀ c ∈ (Jvm.Cond.code x code maxLocals ret :: tables_1), c.before #[Value.ref b] s = true := atoms_spec (ws := Jvm.Cond.code x code maxLocals ret :: tables_1) B.pre
    have hts : ∀ w ∈ lw_tbl, w.before #[Value.ref b] s = true := k2_hts_sels lw_privs (fun w hw => hts0 w (List.mem_cons_of_mem _ hw)) lw_privs_ok
    have hml : c.maxLocals = 9 := B.maxLocals_eq (hts0 _ List.mem_cons_self)
    have htab : ∀ x ∈ c.exceptionTable.toList, False := by
      obtain ⟨meth9, c9, h1, h2, -, -, -, -, h7, -⟩ := Cond.code_spec B.named (hts0 _ List.mem_cons_self)
      cases Option.some.inj (h1.symm.trans B.method)
      cases Option.some.inj (h2.symm.trans (Stand.of_body B).code)
      intro x hx
      rw [Array.isEmpty_iff.mp h7] at hx
      cases hx
    have X₀ : Stand p l e room_1 s m #[Value.ref b] below meth c s₁ [] 0 0 := Stand.of_body B
    have hh0 : s₁.heap = s.heap := by rw [B.state]; rfl
    have hsz : scr.slots.size = xs.length := by rw [← Array.length_toList, hlist, List.length_map]
    have hval : ∀ j : Nat, j < xs.length → scr.slots[j]? = some (.int (xs.getD j 0)) := fun j hj => by
      rw [← Array.getElem?_toList, hlist]
      simp [hj]
    have hbl : b < s.heap.size := (Array.getElem?_eq_some_iff.mp hcb).1
    have hX : va_X b xs.length (fun j => xs.getD j 0) s s.heap := ⟨scr, hcb, hof, hkn, hsz, hval⟩
    have K : W p l e room_1 s m #[Value.ref b] below meth c s₁.heap [] 0 0 (lw_Z below #[Value.ref b] s) (entryFrame m ([Value.ref b] : List Value).toArray 9) := by
      rw [hh0]
      exact whole_start l hl9 hbd ⟨B.exec, B.bytes, B.returns, hml, hown, hts, hX, hbl, B.notSynchronized, hgv, htab⟩
    obtain ⟨t, a1, o, b1, b2, b3⟩ := K s₁ rfl X₀
    exact ⟨t, o, a1, b1, b2, b3⟩
theorem lw_pre_spec {args : Array Value} {s : State} (h : (Jvm.Cond.and given_1 narrow_1).before args s = true) (hr : rest_1_c.before args s = true) : ∃ (b : Addr) (xs : List Int32), lw_P b xs args s := by
  have hs := flat_of_before _ h
  have hq := flat_of_before _ hr
  have hc : (Cond.count 1).before args s = true := hs _ (by decide +kernel)
  have harr : (Cond.arrayOf (.arg 0) .int).before args s = true := hs _ (by decide +kernel)
  have hle : (Cond.le (.length (.arg 0)) (.int 2048)).before args s = true := hs _ (by decide +kernel)
  have hlen : (Cond.isInt (.length (.arg 0))).before args s = true := hq _ (by decide +kernel)
  have hall : (Cond.all (.arg 0) (.isInt (.elem (.arg 0) (.index 0)))).before args s = true := hq _ (by decide +kernel)
  obtain ⟨b, xs, hb, hx⟩ := State.ints_of_pre rfl harr hlen hall
  have hsm : xs.length < 2 ^ 31 := hx.choose_spec.2.2.2
  have hev : (Term.length (.arg 0)).eval args s none [] s = some (.int xs.length.toInt32) := hx.length_eval hb
  have hv := Cond.le_ints hev (show (Term.int 2048).eval args s none [] s = some (.int 2048) from rfl)
  have hd : xs.length.toInt32 ≤ 2048 := by
    simpa [Cond.before, Cond.holds, hv] using hle
  have hN : xs.length ≤ 2048 := (Int32.ofNat_le_ofNat hsm (by decide)).mp (show Int32.ofNat xs.length ≤ Int32.ofNat 2048 from hd)
  exact ⟨b, xs, Cond.one_arg hc (show args[0]? = some (.ref b) from hb), hx, hN, h⟩
theorem lw_comes (l : Launch) (hl9 : l.stackTraces = false) : Comes l x (Jvm.Cond.code x code maxLocals ret :: tables_1) room_1 (fun tb e args s => Calls_1 tb e args s ∧ rest_1 tb e args s ∧ Pre_1 tb e args s)
    (fun _ _ args s o t => lw_Q args s o t) := by
  intro p e ha hc hk s m args below hf hfit hheap happ hpre
  obtain ⟨b, xs, hP⟩ := lw_pre_spec hpre.2.2 hpre.2.1
  obtain ⟨k, o, h1, h2, h3, hQ⟩ := lw_walk l hl9 b xs p e ha hc hk s m args below hf ((Spec.applies_iff_loose hf).mp happ).1 hP trivial
  exact ⟨k, o, h1, h2, h3, hQ⟩
theorem lw_frame {s t : State} {o : Outcome} {args : Array Value} (h : State.butDraws s t lw_cs (fun t1 => Framed s o t1 [] 603072 7202922)) :
    State.butDraws s t [Jvm.Choice.named "NaN.bits"] (fun t1 => Framed s o t1 (fieldLocs frame_1_writes args s ++ arrayLocs frame_1_arrays args s ++ staticLocs frame_1_statics s) 603072 7202922) := h
theorem lw_limb (L : Cond) (hL : ∀ (args : Array Value) (s t : State), L.after args s (.returned (some (.int 1))) t = true) :
    ArmFor flags0 classFile x code maxLocals ret World_1 tables_1 room_1 Calls_1 rest_1 Pre_1
      (fun tb e a s o t => postC L tb e a s o t ∧ State.butDraws s t [Jvm.Choice.named "NaN.bits"] (fun t1 => Framed s o t1 (fieldLocs frame_1_writes a s ++ arrayLocs frame_1_arrays a s ++ staticLocs frame_1_statics s) 603072 7202922)) := by
  intro l hfl _ _ p e ha hc hk s m args below hf hfit hheap happ hpre
  have hl9 : l.stackTraces = false := by unfold Launch.stackTraces; rw [hfl]; decide +kernel
  obtain ⟨k, o, h1, h2, h3, rfl, hF⟩ := lw_comes l hl9 p e ha hc hk s m args below hf hfit hheap happ hpre
  exact ⟨k, _, h1, h2, h3, hL args s _, lw_frame hF⟩
theorem i_vc : Claimed_1_1 ∧ Claimed_1_2 := ⟨lw_limb limb_1_1 (fun args s t => by simp [limb_1_1, Cond.after, Cond.holds, Cond.value]), lw_limb limb_1_2 (fun args s t => Cond.after_iff.mpr (by
  first | (rw [show limb_1_2 = Cond.eq .result (.int 1) from rfl, Cond.eq_ints (x := 1) (y := 1) rfl rfl]; simp; done) | (simp [limb_1_2, Cond.value, Term.eval]; done)))⟩
