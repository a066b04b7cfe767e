abbrev zLS : Type := (XS × (Nat → Int64)) × MS
abbrev lL (ad ad2 : Nat → Nat) (ct : Nat → ClassId) (ob : Nat) (w : zLS) : va_W := xoL ad ct ob w.1 ++ mL ad2 ct w.2
theorem ll_0 {ad ad2 : Nat → Nat} {ct : Nat → ClassId} {ob : Nat} {x : XS} {f : Nat → Int64} {u : MS} : (lL ad ad2 ct ob ((x, f), u))[0]? = some (ad 0, xC ad ct x 0) := by
  show (xL ad ct x ++ [oC ct ob f] ++ mL ad2 ct u)[0]? = _
  rw [List.append_assoc]; exact xo_0
theorem ll_m {ad ad2 : Nat → Nat} {ct : Nat → ClassId} {ob : Nat} {xo : XS × (Nat → Int64)} {u : MS} : (lL ad ad2 ct ob (xo, u))[146]? = (mL ad2 ct u)[0]? := by
  show (xL ad ct xo.1 ++ [oC ct ob xo.2] ++ mL ad2 ct u)[146]? = _
  rw [List.getElem?_append_right (by rw [List.length_append, xl_len]; exact Nat.le_refl _), List.length_append, xl_len]
  rfl
theorem ll_o {ad ad2 : Nat → Nat} {ct : Nat → ClassId} {ob : Nat} {xo : XS × (Nat → Int64)} {u : MS} : (lL ad ad2 ct ob (xo, u))[145]? = some (oC ct ob xo.2) := by
  show (xL ad ct xo.1 ++ [oC ct ob xo.2] ++ mL ad2 ct u)[145]? = _
  rw [List.getElem?_append_left (by rw [List.length_append, xl_len]; exact Nat.lt_succ_self _)]
  exact xo_get
section AL0
variable {p : Program} {l : Launch} {e : Env} {s : State} {m : MethodId} {args : Array Value} {below : List Frame} {meth : Method} {c : Code} {H : Heap} {locs : List Loc} {D : va_G} {ct : Nat → ClassId} {A : Nat → Prop} {cells slots : Nat}
variable {pc : Nat} {ls : Array Slot} {rest st0 : List Value} {Q : State → Prop} {ad ad2 : Nat → Nat} {ob : Nat}
theorem lw_cx {y : MethodName} {bytes : ByteArray} {maxL f9 k9 index : Nat} {ret : Option FieldType} {As : List Value} {x0 : XS} {f : Nat → Int64} {u : MS} {Post : Option Value → XS → Prop} (C : ar_C p l s m meth c cL_law 9 RL args D ct A) (hW : ar_W D A s.heap H locs (lL ad ad2 ct ob ((x0, f), u))) (hM : ar_M l y bytes maxL ret f9 k9 D ct (xL ad ct) (.ref (ad 0) :: As) x0 Post (fun _ _ => False))
    (hc9 : vwCl[6]? = some (y.cls, TX8, 5)) (q1 : Cond.methodLink RL index y ∈ lw_all) (q2 : Cond.instanceMethod y ∈ lw_all) (q5 : Cond.selects y.cls y y ∈ lw_all) (q3 : Cond.initialized y.cls ∈ lw_all) (q4 : Cond.code y bytes maxL ret ∈ lw_all)
    (hd : y.cls ≠ "java/lang/invoke/MethodHandle" ∧ y.cls ≠ "java/lang/invoke/VarHandle" ∧ (parseMethodDescriptor y.desc).map (fun d => d.parameters.length) = some As.length) (hR : f9 + 1 ≤ 2048 ∧ 8 + (maxL + 11) + k9 ≤ 94400) (hcs : cells + 1 ≤ 603072 ∧ slots + 6 ≤ 7202922) (hls : ls.size = 9) (hrest : (rest.map fun v => v.category).sum ≤ 8) (hst : st0 = As.reverse ++ .ref (ad 0) :: rest) (hdg : decode cL_law pc = .ok (.invokevirtual index, 3))
    (kk : ∀ (v : Option Value) (x1 : XS) (H1 : Heap) (locs1 : List Loc), Post v x1 → ar_W D A s.heap H1 locs1 (lL ad ad2 ct ob ((x1, f), u)) → W p l e room_1 s m args below meth c H1 locs1 cells slots Q (F0 m (pc + 3) ls (v.toList ++ rest))) : W p l e room_1 s m args below meth c H locs cells slots Q (F0 m pc ls st0) := by
  refine ag_call (rest := rest) (maxL := maxL) (u0 := ((x0, f), u)) (wl := lL ad ad2 ct ob) C.g hW (ag_map (wl9 := lL ad ad2 ct ob) (fun x => ((x, f), u)) (fun _ => rfl) (ag_frameR (mL ad2 ct u) (ag_frameR [oC ct ob f] (ag_of hM)))) (ag_stV (q0 := 0) C.g hW ll_0 hc9 q1 q2 q5 q4 hd hst hdg) (fun _ _ => trivial) ⟨hR.1, hR.2, hcs.1, hcs.2⟩ (fun w hw => (List.mem_cons.mp hw).elim (fun e => by rw [e]; exact q4) id) (ag_cd C.2.2.2.2.1 q4) q3 hls hrest hdg (fun _ _ _ _ _ _ h9 => by obtain ⟨_, -, h9⟩ := h9; exact h9.elim) (fun v9 u9 H locs hp hW => ?_)
  obtain ⟨x1, rfl, hp⟩ := hp
  exact kk v9 x1 H locs hp hW
theorem lw_cm {y : MethodName} {bytes : ByteArray} {maxL f9 k9 index : Nat} {ret : Option FieldType} {As : List Value} {xo : XS × (Nat → Int64)} {u : MS} {Post : Option Value → MS → Prop} (C : ar_C p l s m meth c cL_law 9 RL args D ct A) (hW : ar_W D A s.heap H locs (lL ad ad2 ct ob (xo, u))) (hM : ar_M l y bytes maxL ret f9 k9 D ct (mL ad2 ct) (.ref (ad2 0) :: As) u Post (fun _ _ => False))
    (hc9 : vwCl[7]? = some (y.cls, TX9, 27)) (q1 : Cond.methodLink RL index y ∈ lw_all) (q2 : Cond.instanceMethod y ∈ lw_all) (q5 : Cond.selects y.cls y y ∈ lw_all) (q3 : Cond.initialized y.cls ∈ lw_all) (q4 : Cond.code y bytes maxL ret ∈ lw_all)
    (hd : y.cls ≠ "java/lang/invoke/MethodHandle" ∧ y.cls ≠ "java/lang/invoke/VarHandle" ∧ (parseMethodDescriptor y.desc).map (fun d => d.parameters.length) = some As.length) (hR : f9 + 1 ≤ 2048 ∧ 8 + (maxL + 11) + k9 ≤ 94400) (hcs : cells + 1 ≤ 603072 ∧ slots + 6 ≤ 7202922) (hls : ls.size = 9) (hrest : (rest.map fun v => v.category).sum ≤ 8) (hst : st0 = As.reverse ++ .ref (ad2 0) :: rest) (hdg : decode cL_law pc = .ok (.invokevirtual index, 3))
    (kk : ∀ (v : Option Value) (u1 : MS) (H1 : Heap) (locs1 : List Loc), Post v u1 → ar_W D A s.heap H1 locs1 (lL ad ad2 ct ob (xo, u1)) → W p l e room_1 s m args below meth c H1 locs1 cells slots Q (F0 m (pc + 3) ls (v.toList ++ rest))) : W p l e room_1 s m args below meth c H locs cells slots Q (F0 m pc ls st0) := by
  refine ag_call (rest := rest) (maxL := maxL) (u0 := (xo, u)) (wl := lL ad ad2 ct ob) C.g hW (ag_map (wl9 := lL ad ad2 ct ob) (fun u => (xo, u)) (fun _ => rfl) (ag_frameL (xoL ad ct ob xo) (ag_of hM))) (ag_stV (q0 := 146) C.g hW (ll_m.trans rfl) hc9 q1 q2 q5 q4 hd hst hdg) (fun _ _ => trivial) ⟨hR.1, hR.2, hcs.1, hcs.2⟩ (fun w hw => (List.mem_cons.mp hw).elim (fun e => by rw [e]; exact q4) id) (ag_cd C.2.2.2.2.1 q4) q3 hls hrest hdg (fun _ _ _ _ _ _ h9 => by obtain ⟨_, -, h9⟩ := h9; exact h9.elim) (fun v9 u9 H locs hp hW => ?_)
  obtain ⟨u1, rfl, hp⟩ := hp
  exact kk v9 u1 H locs hp hW
/-- the law's own run or look -/
theorem lw_cr {y : MethodName} {bytes : ByteArray} {maxL f9 k9 index : Nat} {ret : Option FieldType} {hh : List (Nat × Nat × Nat × Nat)} {As : List Value} {xo : XS × (Nat → Int64)} {u : MS} {Post : Option Value → XS × (Nat → Int64) → Prop} (C : ar_C p l s m meth c cL_law 9 RL args D ct A) (hNo : ac_X s) (hW : ar_W D A s.heap H locs (lL ad ad2 ct ob (xo, u))) (hM : ag_M l y (.codeWith y bytes maxL ret hh :: lw_all) { frames := f9, cells := 1, slots := 6, locals := k9 } 1 6 ac_X D ct (xoL ad ct ob) As xo Post (fun _ _ => False))
    (q1 : Cond.methodLink RL index y ∈ lw_all) (q2 : Cond.static y ∈ lw_all) (q3 : Cond.initialized y.cls ∈ lw_all) (q4 : Cond.codeWith y bytes maxL ret hh ∈ lw_all)
    (hd : y.cls ≠ "java/lang/invoke/MethodHandle" ∧ y.cls ≠ "java/lang/invoke/VarHandle" ∧ (parseMethodDescriptor y.desc).map (fun d => d.parameters.length) = some As.length) (hR : f9 + 1 ≤ 2048 ∧ 8 + (maxL + 11) + k9 ≤ 94400) (hcs : cells + 1 ≤ 603072 ∧ slots + 6 ≤ 7202922) (hls : ls.size = 9) (hrest : (rest.map fun v => v.category).sum ≤ 8) (hst : st0 = As.reverse ++ rest) (hdg : decode cL_law pc = .ok (.invokestatic index, 3))
    (kk : ∀ (v : Option Value) (xo1 : XS × (Nat → Int64)) (H1 : Heap) (locs1 : List Loc), Post v xo1 → ar_W D A s.heap H1 locs1 (lL ad ad2 ct ob (xo1, u)) → W p l e room_1 s m args below meth c H1 locs1 (cells + 1) (slots + 6) Q (F0 m (pc + 3) ls (v.toList ++ rest))) : W p l e room_1 s m args below meth c H locs cells slots Q (F0 m pc ls st0) := by
  have hnm : ∃ (mk : MethodId) (methM : Method), s.methodNamed? y = some mk ∧ s.vm.method? mk = some methM ∧ parseMethodDescriptor y.desc = some methM.sig := by
    obtain ⟨mk, methM, cM, h0, h1, -, -, -, -, -, -, h2⟩ := Cond.codeWith_spec (C.2.2.2.2.1 _ q4)
    exact ⟨mk, methM, h0, h1, h2⟩
  refine ag_call (rest := rest) (maxL := maxL) (u0 := (xo, u)) (wl := lL ad ad2 ct ob) C.g hW (ag_map (wl9 := lL ad ad2 ct ob) (fun xo => (xo, u)) (fun _ => rfl) (ag_frameR (mL ad2 ct u) hM)) (ag_stS C.g hnm q1 q2 q3 hd hst hdg) (fun U h9 => fun x hx => (hNo x hx).warm h9) ⟨hR.1, hR.2, hcs.1, hcs.2⟩ (fun w hw => (List.mem_cons.mp hw).elim (fun e => by rw [e]; exact q4) id) (ag_cdW C.2.2.2.2.1 q4) q3 hls hrest hdg (fun _ _ _ _ _ _ h9 => by obtain ⟨_, -, h9⟩ := h9; exact h9.elim) (fun v9 u9 H locs hp hW => ?_)
  obtain ⟨xo1, rfl, hp⟩ := hp
  exact kk v9 xo1 H locs hp hW
variable {b L : Nat} {xs : Nat → Int32} {ws : va_W} {R : Room} {lv : List (Nat × Value)} {j i k : Nat}
theorem lw_ld (C : ar_C p l s m meth c cL_law 9 RL args D ct A) (hW : ar_W D A s.heap H locs ws) (hXs : va_X b L xs s s.heap) (hbl : b < s.heap.size) (hbA : ¬ A b) (hj : j < L) (hL : L ≤ 2048) (hdg : decode cL_law pc = .ok (.iaload, 1)) (kk : W p l e R s m args below meth c H locs cells slots Q (F0 m (pc + 1) ls (.int (xs j) :: rest))) : W p l e R s m args below meth c H locs cells slots Q (F0 m pc ls (.int (nI j) :: .ref b :: rest)) :=
  va_sld C.1 C.2.1 hXs hbl hbA hW.2.2 (ar_cl (j := j) (N := L) hj (by omega)).1 hdg (by rw [(ar_cl (j := j) (N := L) hj (by omega)).2]; exact kk)
/-- the script's number at i + n -/
theorem lw_arg {n : Int} (C : ar_C p l s m meth c cL_law 9 RL args D ct A) (hW : ar_W D A s.heap H locs ws) (hXs : va_X b L xs s s.heap) (hbl : b < s.heap.size) (hbA : ¬ A b) (hL : L ≤ 2048) (hb9 : ls[0]? = some (.val (.ref b))) (hi9 : ls[4]? = some (.val (.int (nI i)))) (hj : i + k < L) (hn : Int32.ofInt n = nI k)
    (d0 : decode cL_law pc = .ok (.aload_n 0, 1)) (d1 : decode cL_law (pc + 1) = .ok (.iload 4, 2)) (d3 : decode cL_law (pc + 3) = .ok (.iconst n, 1)) (d4 : decode cL_law (pc + 4) = .ok (.iadd, 1)) (d5 : decode cL_law (pc + 5) = .ok (.iaload, 1))
    (kk : W p l e R s m args below meth c H locs cells slots Q (F0 m (pc + 6) ls (.int (xs (i + k)) :: rest))) : W p l e R s m args below meth c H locs cells slots Q (F0 m pc ls rest) := by
  refine lv_aload_n C.1 C.2.1 d0 rfl hb9 ?_
  refine lv_iload C.1 C.2.1 d1 hi9 ?_
  refine lv_iconst C.1 C.2.1 d3 hn ?_
  refine lv_iadd C.1 C.2.1 d4 ?_
  rw [nI_add]
  exact lw_ld C hW hXs hbl hbA hj hL d5 kk
abbrev zDb (x : Int32) : UInt64 := FP.dmul (FP.i2d x) 4593671619917905920
theorem lw_dbl {x : Int32} (C : ar_C p l s m meth c cL_law 9 RL args D ct A) (d0 : decode cL_law pc = .ok (.i2d, 1)) (d1 : decode cL_law (pc + 1) = .ok (.ldc2_w 42, 3)) (d4 : decode cL_law (pc + 4) = .ok (.dmul, 1)) (kk : W p l e R s m args below meth c H locs cells slots Q (F0 m (pc + 5) ls (.double (zDb x) :: rest))) : W p l e R s m args below meth c H locs cells slots Q (F0 m pc ls (.int x :: rest)) := by
  refine lv_i2d C.1 C.2.1 d0 ?_
  refine lv_ldc2d (own := RL) C.1 C.2.1 C.2.2.2.1 (C.2.2.2.2.1 _ q813) d1 ?_
  exact lv_dmul C.1 C.2.1 d4 (zNan_bits (FP.Core.dmul_out (zRg_fin (zRg_i2d x)) (zRg_fin (by decide +kernel)))) kk
abbrev zWd (x y : Int32) : Int64 := x.toInt64 <<< ((nI 32).toInt64 &&& 63) ||| (y.toInt64 &&& 4294967295)
end AL0
set_option maxHeartbeats 4000000 in
set_option maxRecDepth 100000 in
theorem lw_made {p : Program} {l : Launch} {e : Env} {s : State} {m : MethodId} {below : List Frame} {meth : Method} {c : Code} {H : Heap} {locs : List Loc} {D : va_G} {ct : Nat → ClassId} {A : Nat → Prop} {cells slots : Nat} {ls : Array Slot} {Q : State → Prop} {ad ad2 : Nat → Nat} {ob b L k : Nat} {xs : Nat → Int32} {n : Nat} {tx : Nat → Nat} {sc sg sh : Nat → Int32} {el : Nat → Nat → UInt64} {nf : Nat → Nat → Int32} {lr : Nat → Nat → Option Nat} {g : Nat → Int32} {a : Nat → Nat → Int32} {d : Nat → Nat → UInt64} {f : Nat → Int64} (hl9 : l.stackTraces = false) (C : ar_C p l s m meth c cL_law 9 RL #[Value.ref b] D ct A) (hNo : ac_X s) (hXs : va_X b L xs s s.heap) (hbl : b < s.heap.size) (hbA : ¬ A b) (hL : L ≤ 2048) (hk : 4 * k + 4 ≤ L) (hcs : cells + 1 ≤ 603072 ∧ slots + 6 ≤ 7202922) (hcs2 : cells + 1 + 1 ≤ 603072 ∧ slots + 6 + 6 ≤ 7202922) (hJ : zJ n tx (sc, sg, sh, el, nf, lr) (g, a, d)) (hW : ar_W D A s.heap H locs (lL ad ad2 ct ob (((sc, sg, sh, el, nf, lr), f), (g, a, d)))) (hl : lv_has ls 9 [(4, .int (nI (4 * k))), (3, .ref ob), (2, .ref (ad2 0)), (1, .ref (ad 0)), (0, .ref b)]) (nx : ∀ (H : Heap) (locs : List Loc) (ls : Array Slot) (x : XS) (f : Nat → Int64) (u : MS) (n : Nat) (tx : Nat → Nat), zJ n tx x u → ar_W D A s.heap H locs (lL ad ad2 ct ob ((x, f), u)) → lv_has ls 9 [(4, .int (nI (4 * k))), (3, .ref ob), (2, .ref (ad2 0)), (1, .ref (ad 0)), (0, .ref b)] → W p l e room_1 s m #[Value.ref b] below meth c H locs (cells + 1) (slots + 6) Q (F0 m 554 ls [])) : W p l e room_1 s m #[Value.ref b] below meth c H locs cells slots Q (F0 m 528 ls []) := by
  have hx := C.1
  have hb := C.2.1
  have hown := C.2.2.2.1
  have hts := C.2.2.2.2.1
  have hvs := zJ_vs hJ
  refine lv_aload_n hx hb dL_law_528 rfl (lv_at hl 3 rfl) ?_
  refine lw_cx (As := []) (rest := []) C hW (c_X8_made hl9 sc sg sh el nf lr ) rfl q233 q234 q235 q1 q236 hd_X8_made ⟨Nat.le_of_ble_eq_true rfl, Nat.le_of_ble_eq_true rfl⟩ hcs hl.1 (Nat.le_of_ble_eq_true rfl) rfl dL_law_529 (fun v9 x1 H locs h8 hW => ?_)
  obtain ⟨r, rfl⟩ : ∃ r : Int32, v9 = some (.int r) := by
    first | exact ⟨_, h8.1⟩ | (rcases h8.2 with ⟨-, h⟩ | ⟨_, _, _, h⟩ <;> exact ⟨_, h⟩) | (rcases h8 with ⟨-, h, -⟩ | ⟨_, _, _, _, h, -⟩ <;> exact ⟨_, h⟩) | (rcases h8 with ⟨-, h, -⟩ | ⟨_, _, _, _, _, _, _, h, -⟩ <;> exact ⟨_, h⟩) | (rcases h8 with ⟨-, h, -⟩ | ⟨_, _, h, -⟩ <;> exact ⟨_, h⟩)
  refine W.eq (g2 := F0 m 532 ls [.int r]) rfl ?_
  refine lv_aload_n hx hb dL_law_532 rfl (lv_at hl 2 rfl) ?_
  refine lw_cm (As := []) (rest := [.int r]) C hW (c_X9_made hl9 g a d ) rfl q804 q805 q806 q6 q807 hd_X9_made ⟨Nat.le_of_ble_eq_true rfl, Nat.le_of_ble_eq_true rfl⟩ hcs hl.1 (Nat.le_of_ble_eq_true rfl) rfl dL_law_533 (fun v9 u1 H locs h9 hW => ?_)
  obtain ⟨r2, e1, rfl, n2, tx2, hJ2⟩ := zj_made hJ h8 h9
  cases e1
  refine W.eq (g2 := F0 m 536 ls [.int r, .int r]) rfl ?_
  refine lv_icmp_eq (tgt := 554) hx hb dL_law_536 (by decide) (fun _ => ?_) (fun q => absurd rfl q)
  exact W.widen (Nat.le_succ _) (Nat.le_add_right _ _) (nx H locs ls x1 f u1 n2 tx2 hJ2 hW hl)
set_option maxHeartbeats 4000000 in
set_option maxRecDepth 100000 in
theorem lw_runs {p : Program} {l : Launch} {e : Env} {s : State} {m : MethodId} {below : List Frame} {meth : Method} {c : Code} {H : Heap} {locs : List Loc} {D : va_G} {ct : Nat → ClassId} {A : Nat → Prop} {cells slots : Nat} {ls : Array Slot} {Q : State → Prop} {ad ad2 : Nat → Nat} {ob b L k : Nat} {xs : Nat → Int32} {n : Nat} {tx : Nat → Nat} {sc sg sh : Nat → Int32} {el : Nat → Nat → UInt64} {nf : Nat → Nat → Int32} {lr : Nat → Nat → Option Nat} {g : Nat → Int32} {a : Nat → Nat → Int32} {d : Nat → Nat → UInt64} {f : Nat → Int64} (hl9 : l.stackTraces = false) (C : ar_C p l s m meth c cL_law 9 RL #[Value.ref b] D ct A) (hNo : ac_X s) (hXs : va_X b L xs s s.heap) (hbl : b < s.heap.size) (hbA : ¬ A b) (hL : L ≤ 2048) (hk : 4 * k + 4 ≤ L) (hcs : cells + 1 ≤ 603072 ∧ slots + 6 ≤ 7202922) (hcs2 : cells + 1 + 1 ≤ 603072 ∧ slots + 6 + 6 ≤ 7202922) (hJ : zJ n tx (sc, sg, sh, el, nf, lr) (g, a, d)) (hW : ar_W D A s.heap H locs (lL ad ad2 ct ob (((sc, sg, sh, el, nf, lr), f), (g, a, d)))) (hl : lv_has ls 9 [(4, .int (nI (4 * k))), (3, .ref ob), (2, .ref (ad2 0)), (1, .ref (ad 0)), (0, .ref b)]) (nx : ∀ (H : Heap) (locs : List Loc) (ls : Array Slot) (x : XS) (f : Nat → Int64) (u : MS) (n : Nat) (tx : Nat → Nat), zJ n tx x u → ar_W D A s.heap H locs (lL ad ad2 ct ob ((x, f), u)) → lv_has ls 9 [(4, .int (nI (4 * k))), (3, .ref ob), (2, .ref (ad2 0)), (1, .ref (ad 0)), (0, .ref b)] → W p l e room_1 s m #[Value.ref b] below meth c H locs (cells + 1) (slots + 6) Q (F0 m 554 ls [])) : W p l e room_1 s m #[Value.ref b] below meth c H locs cells slots Q (F0 m 541 ls []) := by
  have hx := C.1
  have hb := C.2.1
  have hown := C.2.2.2.1
  have hts := C.2.2.2.2.1
  have hvs := zJ_vs hJ
  refine lv_aload_n hx hb dL_law_541 rfl (lv_at hl 3 rfl) ?_
  refine lw_cx (As := []) (rest := []) C hW (c_X8_runs hl9 sc sg sh el nf lr ) rfl q237 q238 q239 q1 q240 hd_X8_runs ⟨Nat.le_of_ble_eq_true rfl, Nat.le_of_ble_eq_true rfl⟩ hcs hl.1 (Nat.le_of_ble_eq_true rfl) rfl dL_law_542 (fun v9 x1 H locs h8 hW => ?_)
  obtain ⟨r, rfl⟩ : ∃ r : Int32, v9 = some (.int r) := by
    first | exact ⟨_, h8.1⟩ | (rcases h8.2 with ⟨-, h⟩ | ⟨_, _, _, h⟩ <;> exact ⟨_, h⟩) | (rcases h8 with ⟨-, h, -⟩ | ⟨_, _, _, _, h, -⟩ <;> exact ⟨_, h⟩) | (rcases h8 with ⟨-, h, -⟩ | ⟨_, _, _, _, _, _, _, h, -⟩ <;> exact ⟨_, h⟩) | (rcases h8 with ⟨-, h, -⟩ | ⟨_, _, h, -⟩ <;> exact ⟨_, h⟩)
  refine W.eq (g2 := F0 m 545 ls [.int r]) rfl ?_
  refine lv_aload_n hx hb dL_law_545 rfl (lv_at hl 2 rfl) ?_
  refine lw_cm (As := []) (rest := [.int r]) C hW (c_X9_runs hl9 g a d ) rfl q808 q809 q810 q6 q811 hd_X9_runs ⟨Nat.le_of_ble_eq_true rfl, Nat.le_of_ble_eq_true rfl⟩ hcs hl.1 (Nat.le_of_ble_eq_true rfl) rfl dL_law_546 (fun v9 u1 H locs h9 hW => ?_)
  obtain ⟨r2, e1, rfl, n2, tx2, hJ2⟩ := zj_runs hJ h8 h9
  cases e1
  refine W.eq (g2 := F0 m 549 ls [.int r, .int r]) rfl ?_
  refine lv_icmp_eq (tgt := 554) hx hb dL_law_549 (by decide) (fun _ => ?_) (fun q => absurd rfl q)
  exact W.widen (Nat.le_succ _) (Nat.le_add_right _ _) (nx H locs ls x1 f u1 n2 tx2 hJ2 hW hl)
set_option maxHeartbeats 4000000 in
set_option maxRecDepth 100000 in
theorem lw_erase {p : Program} {l : Launch} {e : Env} {s : State} {m : MethodId} {below : List Frame} {meth : Method} {c : Code} {H : Heap} {locs : List Loc} {D : va_G} {ct : Nat → ClassId} {A : Nat → Prop} {cells slots : Nat} {ls : Array Slot} {Q : State → Prop} {ad ad2 : Nat → Nat} {ob b L k : Nat} {xs : Nat → Int32} {n : Nat} {tx : Nat → Nat} {sc sg sh : Nat → Int32} {el : Nat → Nat → UInt64} {nf : Nat → Nat → Int32} {lr : Nat → Nat → Option Nat} {g : Nat → Int32} {a : Nat → Nat → Int32} {d : Nat → Nat → UInt64} {f : Nat → Int64} (hl9 : l.stackTraces = false) (C : ar_C p l s m meth c cL_law 9 RL #[Value.ref b] D ct A) (hNo : ac_X s) (hXs : va_X b L xs s s.heap) (hbl : b < s.heap.size) (hbA : ¬ A b) (hL : L ≤ 2048) (hk : 4 * k + 4 ≤ L) (hcs : cells + 1 ≤ 603072 ∧ slots + 6 ≤ 7202922) (hcs2 : cells + 1 + 1 ≤ 603072 ∧ slots + 6 + 6 ≤ 7202922) (hJ : zJ n tx (sc, sg, sh, el, nf, lr) (g, a, d)) (hW : ar_W D A s.heap H locs (lL ad ad2 ct ob (((sc, sg, sh, el, nf, lr), f), (g, a, d)))) (hl : lv_has ls 9 [(4, .int (nI (4 * k))), (3, .ref ob), (2, .ref (ad2 0)), (1, .ref (ad 0)), (0, .ref b)]) (nx : ∀ (H : Heap) (locs : List Loc) (ls : Array Slot) (x : XS) (f : Nat → Int64) (u : MS) (n : Nat) (tx : Nat → Nat), zJ n tx x u → ar_W D A s.heap H locs (lL ad ad2 ct ob ((x, f), u)) → lv_has ls 9 [(4, .int (nI (4 * k))), (3, .ref ob), (2, .ref (ad2 0)), (1, .ref (ad 0)), (0, .ref b)] → W p l e room_1 s m #[Value.ref b] below meth c H locs (cells + 1) (slots + 6) Q (F0 m 554 ls [])) : W p l e room_1 s m #[Value.ref b] below meth c H locs cells slots Q (F0 m 157 ls []) := by
  have hx := C.1
  have hb := C.2.1
  have hown := C.2.2.2.1
  have hts := C.2.2.2.2.1
  have hvs := zJ_vs hJ
  refine lv_aload_n hx hb dL_law_157 rfl (lv_at hl 3 rfl) ?_
  refine lw_cx (As := []) (rest := []) C hW (c_X8_erase hl9 sc sg sh el nf lr n hJ.1.2.1) rfl q162 q163 q164 q1 q165 hd_X8_erase ⟨Nat.le_of_ble_eq_true rfl, Nat.le_of_ble_eq_true rfl⟩ hcs hl.1 (Nat.le_of_ble_eq_true rfl) rfl dL_law_158 (fun v9 x1 H locs h8 hW => ?_)
  obtain ⟨r, rfl⟩ : ∃ r : Int32, v9 = some (.int r) := by
    first | exact ⟨_, h8.1⟩ | (rcases h8.2 with ⟨-, h⟩ | ⟨_, _, _, h⟩ <;> exact ⟨_, h⟩) | (rcases h8 with ⟨-, h, -⟩ | ⟨_, _, _, _, h, -⟩ <;> exact ⟨_, h⟩) | (rcases h8 with ⟨-, h, -⟩ | ⟨_, _, _, _, _, _, _, h, -⟩ <;> exact ⟨_, h⟩) | (rcases h8 with ⟨-, h, -⟩ | ⟨_, _, h, -⟩ <;> exact ⟨_, h⟩)
  refine W.eq (g2 := F0 m 161 ls [.int r]) rfl ?_
  refine lv_aload_n hx hb dL_law_161 rfl (lv_at hl 2 rfl) ?_
  refine lw_cm (As := []) (rest := [.int r]) C hW (c_X9_erase hl9 g a d n hJ.1.2.2.1) rfl q678 q679 q680 q6 q681 hd_X9_erase ⟨Nat.le_of_ble_eq_true rfl, Nat.le_of_ble_eq_true rfl⟩ hcs hl.1 (Nat.le_of_ble_eq_true rfl) rfl dL_law_162 (fun v9 u1 H locs h9 hW => ?_)
  obtain ⟨r2, e1, rfl, n2, tx2, hJ2⟩ := zj_erase hJ h8 h9
  cases e1
  refine W.eq (g2 := F0 m 165 ls [.int r, .int r]) rfl ?_
  refine lv_icmp_eq (tgt := 554) hx hb dL_law_165 (by decide) (fun _ => ?_) (fun q => absurd rfl q)
  exact W.widen (Nat.le_succ _) (Nat.le_add_right _ _) (nx H locs ls x1 f u1 n2 tx2 hJ2 hW hl)
set_option maxHeartbeats 4000000 in
set_option maxRecDepth 100000 in
theorem lw_shapeOf {p : Program} {l : Launch} {e : Env} {s : State} {m : MethodId} {below : List Frame} {meth : Method} {c : Code} {H : Heap} {locs : List Loc} {D : va_G} {ct : Nat → ClassId} {A : Nat → Prop} {cells slots : Nat} {ls : Array Slot} {Q : State → Prop} {ad ad2 : Nat → Nat} {ob b L k : Nat} {xs : Nat → Int32} {n : Nat} {tx : Nat → Nat} {sc sg sh : Nat → Int32} {el : Nat → Nat → UInt64} {nf : Nat → Nat → Int32} {lr : Nat → Nat → Option Nat} {g : Nat → Int32} {a : Nat → Nat → Int32} {d : Nat → Nat → UInt64} {f : Nat → Int64} (hl9 : l.stackTraces = false) (C : ar_C p l s m meth c cL_law 9 RL #[Value.ref b] D ct A) (hNo : ac_X s) (hXs : va_X b L xs s s.heap) (hbl : b < s.heap.size) (hbA : ¬ A b) (hL : L ≤ 2048) (hk : 4 * k + 4 ≤ L) (hcs : cells + 1 ≤ 603072 ∧ slots + 6 ≤ 7202922) (hcs2 : cells + 1 + 1 ≤ 603072 ∧ slots + 6 + 6 ≤ 7202922) (hJ : zJ n tx (sc, sg, sh, el, nf, lr) (g, a, d)) (hW : ar_W D A s.heap H locs (lL ad ad2 ct ob (((sc, sg, sh, el, nf, lr), f), (g, a, d)))) (hl : lv_has ls 9 [(4, .int (nI (4 * k))), (3, .ref ob), (2, .ref (ad2 0)), (1, .ref (ad 0)), (0, .ref b)]) (nx : ∀ (H : Heap) (locs : List Loc) (ls : Array Slot) (x : XS) (f : Nat → Int64) (u : MS) (n : Nat) (tx : Nat → Nat), zJ n tx x u → ar_W D A s.heap H locs (lL ad ad2 ct ob ((x, f), u)) → lv_has ls 9 [(4, .int (nI (4 * k))), (3, .ref ob), (2, .ref (ad2 0)), (1, .ref (ad 0)), (0, .ref b)] → W p l e room_1 s m #[Value.ref b] below meth c H locs (cells + 1) (slots + 6) Q (F0 m 554 ls [])) : W p l e room_1 s m #[Value.ref b] below meth c H locs cells slots Q (F0 m 313 ls []) := by
  have hx := C.1
  have hb := C.2.1
  have hown := C.2.2.2.1
  have hts := C.2.2.2.2.1
  have hvs := zJ_vs hJ
  refine lv_aload_n hx hb dL_law_313 rfl (lv_at hl 3 rfl) ?_
  refine lw_arg (k := 1) C hW hXs hbl hbA hL (lv_at hl 4 rfl) (lv_at hl 0 rfl) (by omega) (by decide) dL_law_314 dL_law_315 dL_law_317 dL_law_318 dL_law_319 ?_
  refine lw_cx (As := [.int (xs (4 * k + 1))]) (rest := []) C hW (c_X8_shapeOf hl9 sc sg sh el nf lr (xs (4 * k + 1)) (zSN sh) hvs.1 hvs.2.2.1) rfl q220 q221 q222 q1 q223 hd_X8_shapeOf ⟨Nat.le_of_ble_eq_true rfl, Nat.le_of_ble_eq_true rfl⟩ hcs hl.1 (Nat.le_of_ble_eq_true rfl) rfl dL_law_320 (fun v9 x1 H locs h8 hW => ?_)
  obtain ⟨r, rfl⟩ : ∃ r : Int32, v9 = some (.int r) := by
    first | exact ⟨_, h8.1⟩ | (rcases h8.2 with ⟨-, h⟩ | ⟨_, _, _, h⟩ <;> exact ⟨_, h⟩) | (rcases h8 with ⟨-, h, -⟩ | ⟨_, _, _, _, h, -⟩ <;> exact ⟨_, h⟩) | (rcases h8 with ⟨-, h, -⟩ | ⟨_, _, _, _, _, _, _, h, -⟩ <;> exact ⟨_, h⟩) | (rcases h8 with ⟨-, h, -⟩ | ⟨_, _, h, -⟩ <;> exact ⟨_, h⟩)
  refine W.eq (g2 := F0 m 323 ls [.int r]) rfl ?_
  refine lv_aload_n hx hb dL_law_323 rfl (lv_at hl 2 rfl) ?_
  refine lw_arg (k := 1) C hW hXs hbl hbA hL (lv_at hl 4 rfl) (lv_at hl 0 rfl) (by omega) (by decide) dL_law_324 dL_law_325 dL_law_327 dL_law_328 dL_law_329 ?_
  refine lw_cm (As := [.int (xs (4 * k + 1))]) (rest := [.int r]) C hW (c_X9_shapeOf hl9 g a d (xs (4 * k + 1)) (zSN sh) hvs.2.1 hvs.2.2.1) rfl q712 q713 q714 q6 q715 hd_X9_shapeOf ⟨Nat.le_of_ble_eq_true rfl, Nat.le_of_ble_eq_true rfl⟩ hcs hl.1 (Nat.le_of_ble_eq_true rfl) rfl dL_law_330 (fun v9 u1 H locs h9 hW => ?_)
  obtain ⟨r2, e1, rfl, n2, tx2, hJ2⟩ := zj_shapeOf hJ h8 h9
  cases e1
  refine W.eq (g2 := F0 m 333 ls [.int r, .int r]) rfl ?_
  refine lv_icmp_eq (tgt := 554) hx hb dL_law_333 (by decide) (fun _ => ?_) (fun q => absurd rfl q)
  exact W.widen (Nat.le_succ _) (Nat.le_add_right _ _) (nx H locs ls x1 f u1 n2 tx2 hJ2 hW hl)
set_option maxHeartbeats 4000000 in
set_option maxRecDepth 100000 in
theorem lw_size {p : Program} {l : Launch} {e : Env} {s : State} {m : MethodId} {below : List Frame} {meth : Method} {c : Code} {H : Heap} {locs : List Loc} {D : va_G} {ct : Nat → ClassId} {A : Nat → Prop} {cells slots : Nat} {ls : Array Slot} {Q : State → Prop} {ad ad2 : Nat → Nat} {ob b L k : Nat} {xs : Nat → Int32} {n : Nat} {tx : Nat → Nat} {sc sg sh : Nat → Int32} {el : Nat → Nat → UInt64} {nf : Nat → Nat → Int32} {lr : Nat → Nat → Option Nat} {g : Nat → Int32} {a : Nat → Nat → Int32} {d : Nat → Nat → UInt64} {f : Nat → Int64} (hl9 : l.stackTraces = false) (C : ar_C p l s m meth c cL_law 9 RL #[Value.ref b] D ct A) (hNo : ac_X s) (hXs : va_X b L xs s s.heap) (hbl : b < s.heap.size) (hbA : ¬ A b) (hL : L ≤ 2048) (hk : 4 * k + 4 ≤ L) (hcs : cells + 1 ≤ 603072 ∧ slots + 6 ≤ 7202922) (hcs2 : cells + 1 + 1 ≤ 603072 ∧ slots + 6 + 6 ≤ 7202922) (hJ : zJ n tx (sc, sg, sh, el, nf, lr) (g, a, d)) (hW : ar_W D A s.heap H locs (lL ad ad2 ct ob (((sc, sg, sh, el, nf, lr), f), (g, a, d)))) (hl : lv_has ls 9 [(4, .int (nI (4 * k))), (3, .ref ob), (2, .ref (ad2 0)), (1, .ref (ad 0)), (0, .ref b)]) (nx : ∀ (H : Heap) (locs : List Loc) (ls : Array Slot) (x : XS) (f : Nat → Int64) (u : MS) (n : Nat) (tx : Nat → Nat), zJ n tx x u → ar_W D A s.heap H locs (lL ad ad2 ct ob ((x, f), u)) → lv_has ls 9 [(4, .int (nI (4 * k))), (3, .ref ob), (2, .ref (ad2 0)), (1, .ref (ad 0)), (0, .ref b)] → W p l e room_1 s m #[Value.ref b] below meth c H locs (cells + 1) (slots + 6) Q (F0 m 554 ls [])) : W p l e room_1 s m #[Value.ref b] below meth c H locs cells slots Q (F0 m 338 ls []) := by
  have hx := C.1
  have hb := C.2.1
  have hown := C.2.2.2.1
  have hts := C.2.2.2.2.1
  have hvs := zJ_vs hJ
  refine lv_aload_n hx hb dL_law_338 rfl (lv_at hl 3 rfl) ?_
  refine lw_arg (k := 1) C hW hXs hbl hbA hL (lv_at hl 4 rfl) (lv_at hl 0 rfl) (by omega) (by decide) dL_law_339 dL_law_340 dL_law_342 dL_law_343 dL_law_344 ?_
  refine lw_cx (As := [.int (xs (4 * k + 1))]) (rest := []) C hW (c_X8_size hl9 sc sg sh el nf lr (xs (4 * k + 1)) (zSN sh) hvs.1 hvs.2.2.1) rfl q224 q225 q226 q1 q227 hd_X8_size ⟨Nat.le_of_ble_eq_true rfl, Nat.le_of_ble_eq_true rfl⟩ hcs hl.1 (Nat.le_of_ble_eq_true rfl) rfl dL_law_345 (fun v9 x1 H locs h8 hW => ?_)
  obtain ⟨r, rfl⟩ : ∃ r : Int32, v9 = some (.int r) := by
    first | exact ⟨_, h8.1⟩ | (rcases h8.2 with ⟨-, h⟩ | ⟨_, _, _, h⟩ <;> exact ⟨_, h⟩) | (rcases h8 with ⟨-, h, -⟩ | ⟨_, _, _, _, h, -⟩ <;> exact ⟨_, h⟩) | (rcases h8 with ⟨-, h, -⟩ | ⟨_, _, _, _, _, _, _, h, -⟩ <;> exact ⟨_, h⟩) | (rcases h8 with ⟨-, h, -⟩ | ⟨_, _, h, -⟩ <;> exact ⟨_, h⟩)
  refine W.eq (g2 := F0 m 348 ls [.int r]) rfl ?_
  refine lv_aload_n hx hb dL_law_348 rfl (lv_at hl 2 rfl) ?_
  refine lw_arg (k := 1) C hW hXs hbl hbA hL (lv_at hl 4 rfl) (lv_at hl 0 rfl) (by omega) (by decide) dL_law_349 dL_law_350 dL_law_352 dL_law_353 dL_law_354 ?_
  refine lw_cm (As := [.int (xs (4 * k + 1))]) (rest := [.int r]) C hW (c_X9_size hl9 g a d (xs (4 * k + 1)) (zSN sh) hvs.2.1 hvs.2.2.1) rfl q716 q717 q718 q6 q719 hd_X9_size ⟨Nat.le_of_ble_eq_true rfl, Nat.le_of_ble_eq_true rfl⟩ hcs hl.1 (Nat.le_of_ble_eq_true rfl) rfl dL_law_355 (fun v9 u1 H locs h9 hW => ?_)
  obtain ⟨r2, e1, rfl, n2, tx2, hJ2⟩ := zj_size hJ h8 h9
  cases e1
  refine W.eq (g2 := F0 m 358 ls [.int r, .int r]) rfl ?_
  refine lv_icmp_eq (tgt := 554) hx hb dL_law_358 (by decide) (fun _ => ?_) (fun q => absurd rfl q)
  exact W.widen (Nat.le_succ _) (Nat.le_add_right _ _) (nx H locs ls x1 f u1 n2 tx2 hJ2 hW hl)
set_option maxHeartbeats 4000000 in
set_option maxRecDepth 100000 in
theorem lw_put {p : Program} {l : Launch} {e : Env} {s : State} {m : MethodId} {below : List Frame} {meth : Method} {c : Code} {H : Heap} {locs : List Loc} {D : va_G} {ct : Nat → ClassId} {A : Nat → Prop} {cells slots : Nat} {ls : Array Slot} {Q : State → Prop} {ad ad2 : Nat → Nat} {ob b L k : Nat} {xs : Nat → Int32} {n : Nat} {tx : Nat → Nat} {sc sg sh : Nat → Int32} {el : Nat → Nat → UInt64} {nf : Nat → Nat → Int32} {lr : Nat → Nat → Option Nat} {g : Nat → Int32} {a : Nat → Nat → Int32} {d : Nat → Nat → UInt64} {f : Nat → Int64} (hl9 : l.stackTraces = false) (C : ar_C p l s m meth c cL_law 9 RL #[Value.ref b] D ct A) (hNo : ac_X s) (hXs : va_X b L xs s s.heap) (hbl : b < s.heap.size) (hbA : ¬ A b) (hL : L ≤ 2048) (hk : 4 * k + 4 ≤ L) (hcs : cells + 1 ≤ 603072 ∧ slots + 6 ≤ 7202922) (hcs2 : cells + 1 + 1 ≤ 603072 ∧ slots + 6 + 6 ≤ 7202922) (hJ : zJ n tx (sc, sg, sh, el, nf, lr) (g, a, d)) (hW : ar_W D A s.heap H locs (lL ad ad2 ct ob (((sc, sg, sh, el, nf, lr), f), (g, a, d)))) (hl : lv_has ls 9 [(4, .int (nI (4 * k))), (3, .ref ob), (2, .ref (ad2 0)), (1, .ref (ad 0)), (0, .ref b)]) (nx : ∀ (H : Heap) (locs : List Loc) (ls : Array Slot) (x : XS) (f : Nat → Int64) (u : MS) (n : Nat) (tx : Nat → Nat), zJ n tx x u → ar_W D A s.heap H locs (lL ad ad2 ct ob ((x, f), u)) → lv_has ls 9 [(4, .int (nI (4 * k))), (3, .ref ob), (2, .ref (ad2 0)), (1, .ref (ad 0)), (0, .ref b)] → W p l e room_1 s m #[Value.ref b] below meth c H locs (cells + 1) (slots + 6) Q (F0 m 554 ls [])) : W p l e room_1 s m #[Value.ref b] below meth c H locs cells slots Q (F0 m 170 ls []) := by
  have hx := C.1
  have hb := C.2.1
  have hown := C.2.2.2.1
  have hts := C.2.2.2.2.1
  have hvs := zJ_vs hJ
  refine lv_aload_n hx hb dL_law_170 rfl (lv_at hl 3 rfl) ?_
  refine lw_arg (k := 1) C hW hXs hbl hbA hL (lv_at hl 4 rfl) (lv_at hl 0 rfl) (by omega) (by decide) dL_law_171 dL_law_172 dL_law_174 dL_law_175 dL_law_176 ?_
  refine lw_arg (k := 2) C hW hXs hbl hbA hL (lv_at hl 4 rfl) (lv_at hl 0 rfl) (by omega) (by decide) dL_law_177 dL_law_178 dL_law_180 dL_law_181 dL_law_182 ?_
  refine lw_dbl C dL_law_183 dL_law_184 dL_law_187 ?_
  refine lw_cx (As := [.int (xs (4 * k + 1)), .double (zDb (xs (4 * k + 2)))]) (rest := []) C hW (c_X8_put hl9 sc sg sh el nf lr (xs (4 * k + 1)) (zDb (xs (4 * k + 2)))) rfl q170 q171 q172 q1 q173 hd_X8_put ⟨Nat.le_of_ble_eq_true rfl, Nat.le_of_ble_eq_true rfl⟩ hcs hl.1 (Nat.le_of_ble_eq_true rfl) rfl dL_law_188 (fun v9 x1 H locs h8 hW => ?_)
  obtain ⟨r, rfl⟩ : ∃ r : Int32, v9 = some (.int r) := by
    first | exact ⟨_, h8.1⟩ | (rcases h8.2 with ⟨-, h⟩ | ⟨_, _, _, h⟩ <;> exact ⟨_, h⟩) | (rcases h8 with ⟨-, h, -⟩ | ⟨_, _, _, _, h, -⟩ <;> exact ⟨_, h⟩) | (rcases h8 with ⟨-, h, -⟩ | ⟨_, _, _, _, _, _, _, h, -⟩ <;> exact ⟨_, h⟩) | (rcases h8 with ⟨-, h, -⟩ | ⟨_, _, h, -⟩ <;> exact ⟨_, h⟩)
  refine W.eq (g2 := F0 m 191 ls [.int r]) rfl ?_
  refine lv_aload_n hx hb dL_law_191 rfl (lv_at hl 2 rfl) ?_
  refine lw_arg (k := 1) C hW hXs hbl hbA hL (lv_at hl 4 rfl) (lv_at hl 0 rfl) (by omega) (by decide) dL_law_192 dL_law_193 dL_law_195 dL_law_196 dL_law_197 ?_
  refine lw_arg (k := 2) C hW hXs hbl hbA hL (lv_at hl 4 rfl) (lv_at hl 0 rfl) (by omega) (by decide) dL_law_198 dL_law_199 dL_law_201 dL_law_202 dL_law_203 ?_
  refine lw_dbl C dL_law_204 dL_law_205 dL_law_208 ?_
  refine lw_cm (As := [.int (xs (4 * k + 1)), .double (zDb (xs (4 * k + 2)))]) (rest := [.int r]) C hW (c_X9_put hl9 g a d (xs (4 * k + 1)) (zDb (xs (4 * k + 2)))) rfl q682 q683 q684 q6 q685 hd_X9_put ⟨Nat.le_of_ble_eq_true rfl, Nat.le_of_ble_eq_true rfl⟩ hcs hl.1 (Nat.le_of_ble_eq_true rfl) rfl dL_law_209 (fun v9 u1 H locs h9 hW => ?_)
  obtain ⟨r2, e1, rfl, n2, tx2, hJ2⟩ := zj_put hJ h8 h9
  cases e1
  refine W.eq (g2 := F0 m 212 ls [.int r, .int r]) rfl ?_
  refine lv_icmp_eq (tgt := 554) hx hb dL_law_212 (by decide) (fun _ => ?_) (fun q => absurd rfl q)
  exact W.widen (Nat.le_succ _) (Nat.le_add_right _ _) (nx H locs ls x1 f u1 n2 tx2 hJ2 hW hl)
set_option maxHeartbeats 4000000 in
set_option maxRecDepth 100000 in
theorem lw_shape {p : Program} {l : Launch} {e : Env} {s : State} {m : MethodId} {below : List Frame} {meth : Method} {c : Code} {H : Heap} {locs : List Loc} {D : va_G} {ct : Nat → ClassId} {A : Nat → Prop} {cells slots : Nat} {ls : Array Slot} {Q : State → Prop} {ad ad2 : Nat → Nat} {ob b L k : Nat} {xs : Nat → Int32} {n : Nat} {tx : Nat → Nat} {sc sg sh : Nat → Int32} {el : Nat → Nat → UInt64} {nf : Nat → Nat → Int32} {lr : Nat → Nat → Option Nat} {g : Nat → Int32} {a : Nat → Nat → Int32} {d : Nat → Nat → UInt64} {f : Nat → Int64} (hl9 : l.stackTraces = false) (C : ar_C p l s m meth c cL_law 9 RL #[Value.ref b] D ct A) (hNo : ac_X s) (hXs : va_X b L xs s s.heap) (hbl : b < s.heap.size) (hbA : ¬ A b) (hL : L ≤ 2048) (hk : 4 * k + 4 ≤ L) (hcs : cells + 1 ≤ 603072 ∧ slots + 6 ≤ 7202922) (hcs2 : cells + 1 + 1 ≤ 603072 ∧ slots + 6 + 6 ≤ 7202922) (hJ : zJ n tx (sc, sg, sh, el, nf, lr) (g, a, d)) (hW : ar_W D A s.heap H locs (lL ad ad2 ct ob (((sc, sg, sh, el, nf, lr), f), (g, a, d)))) (hl : lv_has ls 9 [(4, .int (nI (4 * k))), (3, .ref ob), (2, .ref (ad2 0)), (1, .ref (ad 0)), (0, .ref b)]) (nx : ∀ (H : Heap) (locs : List Loc) (ls : Array Slot) (x : XS) (f : Nat → Int64) (u : MS) (n : Nat) (tx : Nat → Nat), zJ n tx x u → ar_W D A s.heap H locs (lL ad ad2 ct ob ((x, f), u)) → lv_has ls 9 [(4, .int (nI (4 * k))), (3, .ref ob), (2, .ref (ad2 0)), (1, .ref (ad 0)), (0, .ref b)] → W p l e room_1 s m #[Value.ref b] below meth c H locs (cells + 1) (slots + 6) Q (F0 m 554 ls [])) : W p l e room_1 s m #[Value.ref b] below meth c H locs cells slots Q (F0 m 217 ls []) := by
  have hx := C.1
  have hb := C.2.1
  have hown := C.2.2.2.1
  have hts := C.2.2.2.2.1
  have hvs := zJ_vs hJ
  refine lv_aload_n hx hb dL_law_217 rfl (lv_at hl 3 rfl) ?_
  refine lw_arg (k := 1) C hW hXs hbl hbA hL (lv_at hl 4 rfl) (lv_at hl 0 rfl) (by omega) (by decide) dL_law_218 dL_law_219 dL_law_221 dL_law_222 dL_law_223 ?_
  refine lw_arg (k := 2) C hW hXs hbl hbA hL (lv_at hl 4 rfl) (lv_at hl 0 rfl) (by omega) (by decide) dL_law_224 dL_law_225 dL_law_227 dL_law_228 dL_law_229 ?_
  refine lw_cx (As := [.int (xs (4 * k + 1)), .int (xs (4 * k + 2))]) (rest := []) C hW (c_X8_shape hl9 sc sg sh el nf lr (xs (4 * k + 1)) (xs (4 * k + 2))) rfl q182 q183 q184 q1 q185 hd_X8_shape ⟨Nat.le_of_ble_eq_true rfl, Nat.le_of_ble_eq_true rfl⟩ hcs hl.1 (Nat.le_of_ble_eq_true rfl) rfl dL_law_230 (fun v9 x1 H locs h8 hW => ?_)
  obtain ⟨r, rfl⟩ : ∃ r : Int32, v9 = some (.int r) := by
    first | exact ⟨_, h8.1⟩ | (rcases h8.2 with ⟨-, h⟩ | ⟨_, _, _, h⟩ <;> exact ⟨_, h⟩) | (rcases h8 with ⟨-, h, -⟩ | ⟨_, _, _, _, h, -⟩ <;> exact ⟨_, h⟩) | (rcases h8 with ⟨-, h, -⟩ | ⟨_, _, _, _, _, _, _, h, -⟩ <;> exact ⟨_, h⟩) | (rcases h8 with ⟨-, h, -⟩ | ⟨_, _, h, -⟩ <;> exact ⟨_, h⟩)
  refine W.eq (g2 := F0 m 233 ls [.int r]) rfl ?_
  refine lv_aload_n hx hb dL_law_233 rfl (lv_at hl 2 rfl) ?_
  refine lw_arg (k := 1) C hW hXs hbl hbA hL (lv_at hl 4 rfl) (lv_at hl 0 rfl) (by omega) (by decide) dL_law_234 dL_law_235 dL_law_237 dL_law_238 dL_law_239 ?_
  refine lw_arg (k := 2) C hW hXs hbl hbA hL (lv_at hl 4 rfl) (lv_at hl 0 rfl) (by omega) (by decide) dL_law_240 dL_law_241 dL_law_243 dL_law_244 dL_law_245 ?_
  refine lw_cm (As := [.int (xs (4 * k + 1)), .int (xs (4 * k + 2))]) (rest := [.int r]) C hW (c_X9_shape hl9 g a d (xs (4 * k + 1)) (xs (4 * k + 2))) rfl q694 q695 q696 q6 q697 hd_X9_shape ⟨Nat.le_of_ble_eq_true rfl, Nat.le_of_ble_eq_true rfl⟩ hcs hl.1 (Nat.le_of_ble_eq_true rfl) rfl dL_law_246 (fun v9 u1 H locs h9 hW => ?_)
  obtain ⟨r2, e1, rfl, n2, tx2, hJ2⟩ := zj_shape hJ h8 h9
  cases e1
  refine W.eq (g2 := F0 m 249 ls [.int r, .int r]) rfl ?_
  refine lv_icmp_eq (tgt := 554) hx hb dL_law_249 (by decide) (fun _ => ?_) (fun q => absurd rfl q)
  exact W.widen (Nat.le_succ _) (Nat.le_add_right _ _) (nx H locs ls x1 f u1 n2 tx2 hJ2 hW hl)
set_option maxHeartbeats 4000000 in
set_option maxRecDepth 100000 in
theorem lw_set {p : Program} {l : Launch} {e : Env} {s : State} {m : MethodId} {below : List Frame} {meth : Method} {c : Code} {H : Heap} {locs : List Loc} {D : va_G} {ct : Nat → ClassId} {A : Nat → Prop} {cells slots : Nat} {ls : Array Slot} {Q : State → Prop} {ad ad2 : Nat → Nat} {ob b L k : Nat} {xs : Nat → Int32} {n : Nat} {tx : Nat → Nat} {sc sg sh : Nat → Int32} {el : Nat → Nat → UInt64} {nf : Nat → Nat → Int32} {lr : Nat → Nat → Option Nat} {g : Nat → Int32} {a : Nat → Nat → Int32} {d : Nat → Nat → UInt64} {f : Nat → Int64} (hl9 : l.stackTraces = false) (C : ar_C p l s m meth c cL_law 9 RL #[Value.ref b] D ct A) (hNo : ac_X s) (hXs : va_X b L xs s s.heap) (hbl : b < s.heap.size) (hbA : ¬ A b) (hL : L ≤ 2048) (hk : 4 * k + 4 ≤ L) (hcs : cells + 1 ≤ 603072 ∧ slots + 6 ≤ 7202922) (hcs2 : cells + 1 + 1 ≤ 603072 ∧ slots + 6 + 6 ≤ 7202922) (hJ : zJ n tx (sc, sg, sh, el, nf, lr) (g, a, d)) (hW : ar_W D A s.heap H locs (lL ad ad2 ct ob (((sc, sg, sh, el, nf, lr), f), (g, a, d)))) (hl : lv_has ls 9 [(4, .int (nI (4 * k))), (3, .ref ob), (2, .ref (ad2 0)), (1, .ref (ad 0)), (0, .ref b)]) (nx : ∀ (H : Heap) (locs : List Loc) (ls : Array Slot) (x : XS) (f : Nat → Int64) (u : MS) (n : Nat) (tx : Nat → Nat), zJ n tx x u → ar_W D A s.heap H locs (lL ad ad2 ct ob ((x, f), u)) → lv_has ls 9 [(4, .int (nI (4 * k))), (3, .ref ob), (2, .ref (ad2 0)), (1, .ref (ad 0)), (0, .ref b)] → W p l e room_1 s m #[Value.ref b] below meth c H locs (cells + 1) (slots + 6) Q (F0 m 554 ls [])) : W p l e room_1 s m #[Value.ref b] below meth c H locs cells slots Q (F0 m 254 ls []) := by
  have hx := C.1
  have hb := C.2.1
  have hown := C.2.2.2.1
  have hts := C.2.2.2.2.1
  have hvs := zJ_vs hJ
  refine lv_aload_n hx hb dL_law_254 rfl (lv_at hl 3 rfl) ?_
  refine lw_arg (k := 1) C hW hXs hbl hbA hL (lv_at hl 4 rfl) (lv_at hl 0 rfl) (by omega) (by decide) dL_law_255 dL_law_256 dL_law_258 dL_law_259 dL_law_260 ?_
  refine lw_arg (k := 2) C hW hXs hbl hbA hL (lv_at hl 4 rfl) (lv_at hl 0 rfl) (by omega) (by decide) dL_law_261 dL_law_262 dL_law_264 dL_law_265 dL_law_266 ?_
  refine lw_arg (k := 3) C hW hXs hbl hbA hL (lv_at hl 4 rfl) (lv_at hl 0 rfl) (by omega) (by decide) dL_law_267 dL_law_268 dL_law_270 dL_law_271 dL_law_272 ?_
  refine lw_dbl C dL_law_273 dL_law_274 dL_law_277 ?_
  refine lw_cx (As := [.int (xs (4 * k + 1)), .int (xs (4 * k + 2)), .double (zDb (xs (4 * k + 3)))]) (rest := []) C hW (c_X8_set hl9 sc sg sh el nf lr (xs (4 * k + 1)) (xs (4 * k + 2)) (zDb (xs (4 * k + 3))) (zSN sh) hvs.1 hvs.2.2.1 (fun j hj => (hvs.2.2.2.1 j hj).2)) rfl q205 q206 q207 q1 q208 hd_X8_set ⟨Nat.le_of_ble_eq_true rfl, Nat.le_of_ble_eq_true rfl⟩ hcs hl.1 (Nat.le_of_ble_eq_true rfl) rfl dL_law_278 (fun v9 x1 H locs h8 hW => ?_)
  obtain ⟨r, rfl⟩ : ∃ r : Int32, v9 = some (.int r) := by
    first | exact ⟨_, h8.1⟩ | (rcases h8.2 with ⟨-, h⟩ | ⟨_, _, _, h⟩ <;> exact ⟨_, h⟩) | (rcases h8 with ⟨-, h, -⟩ | ⟨_, _, _, _, h, -⟩ <;> exact ⟨_, h⟩) | (rcases h8 with ⟨-, h, -⟩ | ⟨_, _, _, _, _, _, _, h, -⟩ <;> exact ⟨_, h⟩) | (rcases h8 with ⟨-, h, -⟩ | ⟨_, _, h, -⟩ <;> exact ⟨_, h⟩)
  refine W.eq (g2 := F0 m 281 ls [.int r]) rfl ?_
  refine lv_aload_n hx hb dL_law_281 rfl (lv_at hl 2 rfl) ?_
  refine lw_arg (k := 1) C hW hXs hbl hbA hL (lv_at hl 4 rfl) (lv_at hl 0 rfl) (by omega) (by decide) dL_law_282 dL_law_283 dL_law_285 dL_law_286 dL_law_287 ?_
  refine lw_arg (k := 2) C hW hXs hbl hbA hL (lv_at hl 4 rfl) (lv_at hl 0 rfl) (by omega) (by decide) dL_law_288 dL_law_289 dL_law_291 dL_law_292 dL_law_293 ?_
  refine lw_arg (k := 3) C hW hXs hbl hbA hL (lv_at hl 4 rfl) (lv_at hl 0 rfl) (by omega) (by decide) dL_law_294 dL_law_295 dL_law_297 dL_law_298 dL_law_299 ?_
  refine lw_dbl C dL_law_300 dL_law_301 dL_law_304 ?_
  refine lw_cm (As := [.int (xs (4 * k + 1)), .int (xs (4 * k + 2)), .double (zDb (xs (4 * k + 3)))]) (rest := [.int r]) C hW (c_X9_set hl9 g a d (xs (4 * k + 1)) (xs (4 * k + 2)) (zDb (xs (4 * k + 3))) (zSN sh) hvs.2.1 hvs.2.2.1 hvs.2.2.2.1) rfl q701 q702 q703 q6 q704 hd_X9_set ⟨Nat.le_of_ble_eq_true rfl, Nat.le_of_ble_eq_true rfl⟩ hcs hl.1 (Nat.le_of_ble_eq_true rfl) rfl dL_law_305 (fun v9 u1 H locs h9 hW => ?_)
  obtain ⟨r2, e1, rfl, n2, tx2, hJ2⟩ := zj_set hJ h8 h9
  cases e1
  refine W.eq (g2 := F0 m 308 ls [.int r, .int r]) rfl ?_
  refine lv_icmp_eq (tgt := 554) hx hb dL_law_308 (by decide) (fun _ => ?_) (fun q => absurd rfl q)
  exact W.widen (Nat.le_succ _) (Nat.le_add_right _ _) (nx H locs ls x1 f u1 n2 tx2 hJ2 hW hl)
set_option maxHeartbeats 4000000 in
set_option maxRecDepth 100000 in
theorem lw_write {p : Program} {l : Launch} {e : Env} {s : State} {m : MethodId} {below : List Frame} {meth : Method} {c : Code} {H : Heap} {locs : List Loc} {D : va_G} {ct : Nat → ClassId} {A : Nat → Prop} {cells slots : Nat} {ls : Array Slot} {Q : State → Prop} {ad ad2 : Nat → Nat} {ob b L k : Nat} {xs : Nat → Int32} {n : Nat} {tx : Nat → Nat} {sc sg sh : Nat → Int32} {el : Nat → Nat → UInt64} {nf : Nat → Nat → Int32} {lr : Nat → Nat → Option Nat} {g : Nat → Int32} {a : Nat → Nat → Int32} {d : Nat → Nat → UInt64} {f : Nat → Int64} (hl9 : l.stackTraces = false) (C : ar_C p l s m meth c cL_law 9 RL #[Value.ref b] D ct A) (hNo : ac_X s) (hXs : va_X b L xs s s.heap) (hbl : b < s.heap.size) (hbA : ¬ A b) (hL : L ≤ 2048) (hk : 4 * k + 4 ≤ L) (hcs : cells + 1 ≤ 603072 ∧ slots + 6 ≤ 7202922) (hcs2 : cells + 1 + 1 ≤ 603072 ∧ slots + 6 + 6 ≤ 7202922) (hJ : zJ n tx (sc, sg, sh, el, nf, lr) (g, a, d)) (hW : ar_W D A s.heap H locs (lL ad ad2 ct ob (((sc, sg, sh, el, nf, lr), f), (g, a, d)))) (hl : lv_has ls 9 [(4, .int (nI (4 * k))), (3, .ref ob), (2, .ref (ad2 0)), (1, .ref (ad 0)), (0, .ref b)]) (nx : ∀ (H : Heap) (locs : List Loc) (ls : Array Slot) (x : XS) (f : Nat → Int64) (u : MS) (n : Nat) (tx : Nat → Nat), zJ n tx x u → ar_W D A s.heap H locs (lL ad ad2 ct ob ((x, f), u)) → lv_has ls 9 [(4, .int (nI (4 * k))), (3, .ref ob), (2, .ref (ad2 0)), (1, .ref (ad 0)), (0, .ref b)] → W p l e room_1 s m #[Value.ref b] below meth c H locs (cells + 1) (slots + 6) Q (F0 m 554 ls [])) : W p l e room_1 s m #[Value.ref b] below meth c H locs cells slots Q (F0 m 100 ls []) := by
  have hx := C.1
  have hb := C.2.1
  have hown := C.2.2.2.1
  have hts := C.2.2.2.2.1
  have hvs := zJ_vs hJ
  refine lv_aload_n hx hb dL_law_100 rfl (lv_at hl 3 rfl) ?_
  refine lw_arg (k := 1) C hW hXs hbl hbA hL (lv_at hl 4 rfl) (lv_at hl 0 rfl) (by omega) (by decide) dL_law_101 dL_law_102 dL_law_104 dL_law_105 dL_law_106 ?_
  refine lv_i2l (v := (xs (4 * k + 1)).toInt64) hx hb dL_law_107 rfl ?_
  refine lv_bipush (v := nI 32) hx hb dL_law_108 (by decide) ?_
  refine lv_lshl (v := (xs (4 * k + 1)).toInt64 <<< ((nI 32).toInt64 &&& 63)) hx hb dL_law_110 rfl ?_
  refine lw_arg (k := 2) C hW hXs hbl hbA hL (lv_at hl 4 rfl) (lv_at hl 0 rfl) (by omega) (by decide) dL_law_111 dL_law_112 dL_law_114 dL_law_115 dL_law_116 ?_
  refine lv_i2l (v := (xs (4 * k + 2)).toInt64) hx hb dL_law_117 rfl ?_
  refine lv_ldc2 (own := RL) hx hb hown (hts _ q812) dL_law_118 ?_
  refine lv_land hx hb dL_law_121 ?_
  refine lv_lor hx hb dL_law_122 ?_
  refine lw_cx (As := [.long (zWd (xs (4 * k + 1)) (xs (4 * k + 2)))]) (rest := []) C hW (c_X8_write hl9 sc sg sh el nf lr (zWd (xs (4 * k + 1)) (xs (4 * k + 2))) n hJ.1.1 hJ.1.2.1) rfl q148 q149 q150 q1 q151 hd_X8_write ⟨Nat.le_of_ble_eq_true rfl, Nat.le_of_ble_eq_true rfl⟩ hcs hl.1 (Nat.le_of_ble_eq_true rfl) rfl dL_law_123 (fun v9 x1 H locs h8 hW => ?_)
  obtain ⟨r, rfl⟩ : ∃ r : Int32, v9 = some (.int r) := by
    first | exact ⟨_, h8.1⟩ | (rcases h8.2 with ⟨-, h⟩ | ⟨_, _, _, h⟩ <;> exact ⟨_, h⟩) | (rcases h8 with ⟨-, h, -⟩ | ⟨_, _, _, _, h, -⟩ <;> exact ⟨_, h⟩) | (rcases h8 with ⟨-, h, -⟩ | ⟨_, _, _, _, _, _, _, h, -⟩ <;> exact ⟨_, h⟩) | (rcases h8 with ⟨-, h, -⟩ | ⟨_, _, h, -⟩ <;> exact ⟨_, h⟩)
  refine W.eq (g2 := F0 m 126 ls [.int r]) rfl ?_
  refine lv_aload_n hx hb dL_law_126 rfl (lv_at hl 2 rfl) ?_
  refine lw_arg (k := 1) C hW hXs hbl hbA hL (lv_at hl 4 rfl) (lv_at hl 0 rfl) (by omega) (by decide) dL_law_127 dL_law_128 dL_law_130 dL_law_131 dL_law_132 ?_
  refine lv_i2l (v := (xs (4 * k + 1)).toInt64) hx hb dL_law_133 rfl ?_
  refine lv_bipush (v := nI 32) hx hb dL_law_134 (by decide) ?_
  refine lv_lshl (v := (xs (4 * k + 1)).toInt64 <<< ((nI 32).toInt64 &&& 63)) hx hb dL_law_136 rfl ?_
  refine lw_arg (k := 2) C hW hXs hbl hbA hL (lv_at hl 4 rfl) (lv_at hl 0 rfl) (by omega) (by decide) dL_law_137 dL_law_138 dL_law_140 dL_law_141 dL_law_142 ?_
  refine lv_i2l (v := (xs (4 * k + 2)).toInt64) hx hb dL_law_143 rfl ?_
  refine lv_ldc2 (own := RL) hx hb hown (hts _ q812) dL_law_144 ?_
  refine lv_land hx hb dL_law_147 ?_
  refine lv_lor hx hb dL_law_148 ?_
  refine lw_cm (As := [.long (zWd (xs (4 * k + 1)) (xs (4 * k + 2)))]) (rest := [.int r]) C hW (c_X9_write hl9 g a d (zWd (xs (4 * k + 1)) (xs (4 * k + 2))) n hJ.1.1 hJ.1.2.2.1) rfl q674 q675 q676 q6 q677 hd_X9_write ⟨Nat.le_of_ble_eq_true rfl, Nat.le_of_ble_eq_true rfl⟩ hcs hl.1 (Nat.le_of_ble_eq_true rfl) rfl dL_law_149 (fun v9 u1 H locs h9 hW => ?_)
  obtain ⟨r2, e1, rfl, n2, tx2, hJ2⟩ := zj_write hJ h8 h9
  cases e1
  refine W.eq (g2 := F0 m 152 ls [.int r, .int r]) rfl ?_
  refine lv_icmp_eq (tgt := 554) hx hb dL_law_152 (by decide) (fun _ => ?_) (fun q => absurd rfl q)
  exact W.widen (Nat.le_succ _) (Nat.le_add_right _ _) (nx H locs ls x1 f u1 n2 tx2 hJ2 hW hl)
set_option maxHeartbeats 4000000 in
set_option maxRecDepth 100000 in
theorem lw_at {p : Program} {l : Launch} {e : Env} {s : State} {m : MethodId} {below : List Frame} {meth : Method} {c : Code} {H : Heap} {locs : List Loc} {D : va_G} {ct : Nat → ClassId} {A : Nat → Prop} {cells slots : Nat} {ls : Array Slot} {Q : State → Prop} {ad ad2 : Nat → Nat} {ob b L k : Nat} {xs : Nat → Int32} {n : Nat} {tx : Nat → Nat} {sc sg sh : Nat → Int32} {el : Nat → Nat → UInt64} {nf : Nat → Nat → Int32} {lr : Nat → Nat → Option Nat} {g : Nat → Int32} {a : Nat → Nat → Int32} {d : Nat → Nat → UInt64} {f : Nat → Int64} (hl9 : l.stackTraces = false) (C : ar_C p l s m meth c cL_law 9 RL #[Value.ref b] D ct A) (hNo : ac_X s) (hXs : va_X b L xs s s.heap) (hbl : b < s.heap.size) (hbA : ¬ A b) (hL : L ≤ 2048) (hk : 4 * k + 4 ≤ L) (hcs : cells + 1 ≤ 603072 ∧ slots + 6 ≤ 7202922) (hcs2 : cells + 1 + 1 ≤ 603072 ∧ slots + 6 + 6 ≤ 7202922) (hJ : zJ n tx (sc, sg, sh, el, nf, lr) (g, a, d)) (hW : ar_W D A s.heap H locs (lL ad ad2 ct ob (((sc, sg, sh, el, nf, lr), f), (g, a, d)))) (hl : lv_has ls 9 [(4, .int (nI (4 * k))), (3, .ref ob), (2, .ref (ad2 0)), (1, .ref (ad 0)), (0, .ref b)]) (nx : ∀ (H : Heap) (locs : List Loc) (ls : Array Slot) (x : XS) (f : Nat → Int64) (u : MS) (n : Nat) (tx : Nat → Nat), zJ n tx x u → ar_W D A s.heap H locs (lL ad ad2 ct ob ((x, f), u)) → lv_has ls 9 [(4, .int (nI (4 * k))), (3, .ref ob), (2, .ref (ad2 0)), (1, .ref (ad 0)), (0, .ref b)] → W p l e room_1 s m #[Value.ref b] below meth c H locs (cells + 1) (slots + 6) Q (F0 m 554 ls [])) : W p l e room_1 s m #[Value.ref b] below meth c H locs cells slots Q (F0 m 363 ls []) := by
  have hx := C.1
  have hb := C.2.1
  have hown := C.2.2.2.1
  have hts := C.2.2.2.2.1
  have hvs := zJ_vs hJ
  refine lv_aload_n hx hb dL_law_363 rfl (lv_at hl 3 rfl) ?_
  refine lw_arg (k := 1) C hW hXs hbl hbA hL (lv_at hl 4 rfl) (lv_at hl 0 rfl) (by omega) (by decide) dL_law_364 dL_law_365 dL_law_367 dL_law_368 dL_law_369 ?_
  refine lw_arg (k := 2) C hW hXs hbl hbA hL (lv_at hl 4 rfl) (lv_at hl 0 rfl) (by omega) (by decide) dL_law_370 dL_law_371 dL_law_373 dL_law_374 dL_law_375 ?_
  refine lw_cx (As := [.int (xs (4 * k + 1)), .int (xs (4 * k + 2))]) (rest := []) C hW (c_X8_at hl9 sc sg sh el nf lr (xs (4 * k + 1)) (xs (4 * k + 2)) (zSN sh) hvs.1 hvs.2.2.1 (fun j hj => (hvs.2.2.2.1 j hj).2)) rfl q229 q230 q231 q1 q232 hd_X8_at ⟨Nat.le_of_ble_eq_true rfl, Nat.le_of_ble_eq_true rfl⟩ hcs hl.1 (Nat.le_of_ble_eq_true rfl) rfl dL_law_376 (fun v9 x1 H locs h8 hW => ?_)
  obtain ⟨r, rfl⟩ : ∃ r : UInt64, v9 = some (.double r) := by
    rcases h8.2 with ⟨-, h⟩ | ⟨_, _, _, _, _, _, h⟩ <;> exact ⟨_, h⟩
  refine W.eq (g2 := F0 m 379 ls [.double r]) rfl ?_
  refine lv_dstore (lv' := [(5, .double r), (4, .int (nI (4 * k))), (3, .ref ob), (2, .ref (ad2 0)), (1, .ref (ad 0)), (0, .ref b)]) hx hb dL_law_379 hl (by decide) rfl (fun ls hl => ?_)
  refine lv_aload_n hx hb dL_law_381 rfl (lv_at hl 3 rfl) ?_
  refine lw_arg (k := 1) C hW hXs hbl hbA hL (lv_at hl 5 rfl) (lv_at hl 1 rfl) (by omega) (by decide) dL_law_382 dL_law_383 dL_law_385 dL_law_386 dL_law_387 ?_
  refine lw_arg (k := 2) C hW hXs hbl hbA hL (lv_at hl 5 rfl) (lv_at hl 1 rfl) (by omega) (by decide) dL_law_388 dL_law_389 dL_law_391 dL_law_392 dL_law_393 ?_
  refine lw_cm (As := [.int (xs (4 * k + 1)), .int (xs (4 * k + 2))]) (rest := []) C hW (c_X9_at hl9 g a d (xs (4 * k + 1)) (xs (4 * k + 2)) (zSN sh) hvs.2.1 hvs.2.2.1 hvs.2.2.2.1) rfl q720 q721 q722 q6 q723 hd_X9_at ⟨Nat.le_of_ble_eq_true rfl, Nat.le_of_ble_eq_true rfl⟩ hcs hl.1 (Nat.le_of_ble_eq_true rfl) rfl dL_law_394 (fun v9 u1 H locs h9 hW => ?_)
  obtain ⟨r2, e1, rfl, n2, tx2, hJ2⟩ := zj_at hJ h8 h9
  cases e1
  refine W.eq (g2 := F0 m 397 ls [.double r]) rfl ?_
  refine lv_dstore (lv' := [(7, .double r), (5, .double r), (4, .int (nI (4 * k))), (3, .ref ob), (2, .ref (ad2 0)), (1, .ref (ad 0)), (0, .ref b)]) hx hb dL_law_397 hl (by decide) rfl (fun ls hl => ?_)
  refine lv_dload hx hb dL_law_399 (lv_at hl 1 rfl) ?_
  refine lv_dload hx hb dL_law_401 (lv_at hl 0 rfl) ?_
  refine lv_dcmp hx hb dL_law_403 ?_
  refine lv_if_eq (tgt := 425) hx hb dL_law_404 (by decide) (fun _ => ?_) (fun q1 => ?_)
  · refine lv_goto (tgt := 554) hx hb dL_law_425 (by decide) ?_
    exact W.widen (Nat.le_succ _) (Nat.le_add_right _ _) (nx H locs ls x1 f u1 n2 tx2 hJ2 hW (lv_sub hl [2, 3, 4, 5, 6] rfl))
  · skip
    refine lv_dload hx hb dL_law_407 (lv_at hl 1 rfl) ?_
    refine lv_dload hx hb dL_law_409 (lv_at hl 1 rfl) ?_
    refine lv_dcmp hx hb dL_law_411 ?_
    refine lv_if_eq (tgt := 423) hx hb dL_law_412 (by decide) (fun q => absurd q q1) (fun _ => ?_)
    refine lv_dload hx hb dL_law_415 (lv_at hl 0 rfl) ?_
    refine lv_dload hx hb dL_law_417 (lv_at hl 0 rfl) ?_
    refine lv_dcmp hx hb dL_law_419 ?_
    refine lv_if_ne (tgt := 425) hx hb dL_law_420 (by decide) (fun _ => ?_) (fun q => absurd q q1)
    refine lv_goto (tgt := 554) hx hb dL_law_425 (by decide) ?_
    exact W.widen (Nat.le_succ _) (Nat.le_add_right _ _) (nx H locs ls x1 f u1 n2 tx2 hJ2 hW (lv_sub hl [2, 3, 4, 5, 6] rfl))
set_option maxHeartbeats 4000000 in
set_option maxRecDepth 100000 in
theorem lw_run {p : Program} {l : Launch} {e : Env} {s : State} {m : MethodId} {below : List Frame} {meth : Method} {c : Code} {H : Heap} {locs : List Loc} {D : va_G} {ct : Nat → ClassId} {A : Nat → Prop} {cells slots : Nat} {ls : Array Slot} {Q : State → Prop} {ad ad2 : Nat → Nat} {ob b L k : Nat} {xs : Nat → Int32} {n : Nat} {tx : Nat → Nat} {sc sg sh : Nat → Int32} {el : Nat → Nat → UInt64} {nf : Nat → Nat → Int32} {lr : Nat → Nat → Option Nat} {g : Nat → Int32} {a : Nat → Nat → Int32} {d : Nat → Nat → UInt64} {f : Nat → Int64} (hl9 : l.stackTraces = false) (C : ar_C p l s m meth c cL_law 9 RL #[Value.ref b] D ct A) (hNo : ac_X s) (hXs : va_X b L xs s s.heap) (hbl : b < s.heap.size) (hbA : ¬ A b) (hL : L ≤ 2048) (hk : 4 * k + 4 ≤ L) (hcs : cells + 1 ≤ 603072 ∧ slots + 6 ≤ 7202922) (hcs2 : cells + 1 + 1 ≤ 603072 ∧ slots + 6 + 6 ≤ 7202922) (hJ : zJ n tx (sc, sg, sh, el, nf, lr) (g, a, d)) (hW : ar_W D A s.heap H locs (lL ad ad2 ct ob (((sc, sg, sh, el, nf, lr), f), (g, a, d)))) (hl : lv_has ls 9 [(4, .int (nI (4 * k))), (3, .ref ob), (2, .ref (ad2 0)), (1, .ref (ad 0)), (0, .ref b)]) (nx : ∀ (H : Heap) (locs : List Loc) (ls : Array Slot) (x : XS) (f : Nat → Int64) (u : MS) (n : Nat) (tx : Nat → Nat), zJ n tx x u → ar_W D A s.heap H locs (lL ad ad2 ct ob ((x, f), u)) → lv_has ls 9 [(4, .int (nI (4 * k))), (3, .ref ob), (2, .ref (ad2 0)), (1, .ref (ad 0)), (0, .ref b)] → W p l e room_1 s m #[Value.ref b] below meth c H locs (cells + 1) (slots + 6) Q (F0 m 554 ls [])) : W p l e room_1 s m #[Value.ref b] below meth c H locs cells slots Q (F0 m 428 ls []) := by
  have hx := C.1
  have hb := C.2.1
  have hown := C.2.2.2.1
  have hts := C.2.2.2.2.1
  have hvs := zJ_vs hJ
  refine lv_aload_n hx hb dL_law_428 rfl (lv_at hl 3 rfl) ?_
  refine lw_arg (k := 1) C hW hXs hbl hbA hL (lv_at hl 4 rfl) (lv_at hl 0 rfl) (by omega) (by decide) dL_law_429 dL_law_430 dL_law_432 dL_law_433 dL_law_434 ?_
  refine lv_aload_n hx hb dL_law_435 rfl (lv_at hl 1 rfl) ?_
  refine lw_cr (As := [.ref (ad 0), .int (xs (4 * k + 1)), .ref ob]) (rest := []) C hNo hW (c_L_run (sc, sg, sh, el, nf, lr) f (xs (4 * k + 1)) (c_X8_run hl9 sc sg sh el nf lr n tx hJ.1.1 hJ.1.2.1 (fun j hj => (hJ.1.2.2.2 j hj).1) (fun j hj => (hJ.1.2.2.2 j hj).2.2) hJ.2.1.1 (fun j hj q hq => (hJ.2.1.2.2 j hj q hq).2) (xs (4 * k + 1))) (fun v9 u9 h => by obtain ⟨_, _, _, _, -, -, -, -, -, h, -⟩ := h; exact ⟨_, h⟩) (fun E u9 h => by
    have hEc : ∀ z, zEc z = ISE ∨ zEc z = UOE := fun z => by unfold zEc; split <;> simp
    rcases h.1 with ⟨rfl, -⟩ | ⟨-, ⟨rfl, -⟩ | ⟨t, -, -, rfl⟩ | ⟨t, -, -, -, rfl⟩⟩
    · decide
    · decide
    · rcases hEc (zTs (zSN sh) t).1 with h | h <;> rw [h] <;> decide
    · decide)) q241 q242 q0 q243 hd_L_run ⟨Nat.le_of_ble_eq_true rfl, Nat.le_of_ble_eq_true rfl⟩ hcs hl.1 (Nat.le_of_ble_eq_true rfl) rfl dL_law_436 (fun v9 xo1 H locs h8 hW => ?_)
  obtain ⟨x1, f1⟩ := xo1
  obtain ⟨r, rfl⟩ : ∃ r : Int32, v9 = some (.int r) := by
    rcases h8 with ⟨_, -, -, h⟩ | ⟨_, -, -, -, h⟩ <;> exact ⟨_, h⟩
  refine W.eq (g2 := F0 m 439 ls [.int r]) rfl ?_
  refine lv_istore (lv' := [(5, .int r), (4, .int (nI (4 * k))), (3, .ref ob), (2, .ref (ad2 0)), (1, .ref (ad 0)), (0, .ref b)]) hx hb dL_law_439 hl (by decide) rfl (fun ls hl => ?_)
  refine lv_aload_n hx hb dL_law_441 rfl (lv_at hl 3 rfl) ?_
  refine lw_arg (k := 1) C hW hXs hbl hbA hL (lv_at hl 5 rfl) (lv_at hl 1 rfl) (by omega) (by decide) dL_law_442 dL_law_443 dL_law_445 dL_law_446 dL_law_447 ?_
  refine lw_cm (As := [.int (xs (4 * k + 1))]) (rest := []) C hW (c_X9_run hl9 g a d n tx hJ.1.1 hJ.1.2.2.1 (fun j hj => (hJ.1.2.2.2 j hj).2.1) (fun j hj => (hJ.1.2.2.2 j hj).2.2) (zSN sh) (fun j hj => ⟨hvs.2.1 j hj, hvs.2.2.2.2 j hj⟩) (fun j hj q hq => by have h1 : d 3 (24 * j + q) = el j q := (hJ.2.1.2.2 j hj q hq).1; rw [h1]; exact (hJ.2.1.2.2 j hj q hq).2) (xs (4 * k + 1))) rfl q724 q725 q726 q6 q727 hd_X9_run ⟨Nat.le_of_ble_eq_true rfl, Nat.le_of_ble_eq_true rfl⟩ hcs2 hl.1 (Nat.le_of_ble_eq_true rfl) rfl dL_law_448 (fun v9 u1 H locs h9 hW => ?_)
  obtain ⟨kc, bb, hkc, e1, rfl, h26, hout, n2, tx2, hJ2⟩ := zj_run hJ h8 h9
  cases e1
  refine W.eq (g2 := F0 m 451 ls [.int bb]) rfl ?_
  refine lv_istore (lv' := [(6, .int bb), (5, .int (nI kc)), (4, .int (nI (4 * k))), (3, .ref ob), (2, .ref (ad2 0)), (1, .ref (ad 0)), (0, .ref b)]) hx hb dL_law_451 hl (by decide) rfl (fun ls hl => ?_)
  refine lv_aload_n hx hb dL_law_453 rfl (lv_at hl 4 rfl) ?_
  obtain ⟨g1, a1, d1⟩ := u1
  refine lw_cm (As := []) (rest := []) C hW (c_X9_thrown hl9 g1 a1 d1) rfl q670 q671 q672 q6 q673 hd_X9_thrown ⟨Nat.le_of_ble_eq_true rfl, Nat.le_of_ble_eq_true rfl⟩ hcs2 hl.1 (Nat.le_of_ble_eq_true rfl) rfl dL_law_454 (fun v9 u2 H locs h10 hW => ?_)
  obtain ⟨rfl, rfl⟩ := h10
  refine W.eq (g2 := F0 m 457 ls [.int (g1 26)]) rfl ?_
  refine lv_iload hx hb dL_law_457 (lv_at hl 1 rfl) ?_
  refine lv_icmp_eq (tgt := 464) hx hb dL_law_459 (by decide) (fun _ => ?_) (fun q => absurd h26 q)
  refine lv_iload hx hb dL_law_464 (lv_at hl 1 rfl) ?_
  have nxt : W p l e room_1 s m #[Value.ref b] below meth c H locs (cells + 1) (slots + 6) Q (F0 m 481 ls []) := by
    refine lv_goto (tgt := 554) hx hb dL_law_481 (by decide) ?_
    exact nx H locs ls x1 f1 (g1, a1, d1) n2 tx2 hJ2 hW (lv_sub hl [2, 3, 4, 5, 6] rfl)
  refine lv_if_ne (tgt := 481) hx hb dL_law_466 (by decide) (fun _ => nxt) (fun q0 => ?_)
  have hk0 : kc = 0 := (nI_eq (by omega) (by decide)).mp q0
  refine lv_aload_n hx hb dL_law_469 rfl (lv_at hl 3 rfl) ?_
  refine lv_iconst (v := nI 0) hx hb dL_law_470 (by decide) ?_
  refine va_lald hx hb C.2.2.2.2.2.1 hW.1 145 3 ll_o rfl (ar_cl (j := 0) (N := 1) (by decide) (by decide)).1 dL_law_471 ?_
  refine lv_iload hx hb dL_law_472 (lv_at hl 0 rfl) ?_
  refine lv_i2l (v := bb.toInt64) hx hb dL_law_474 rfl ?_
  refine W.lcmp hx hb dL_law_475 ?_
  refine lv_if_eq (tgt := 481) hx hb dL_law_476 (by decide) (fun _ => nxt) (fun q => absurd ((lg_cmp_eq _ _).mpr (hout hk0)) q)
set_option maxHeartbeats 4000000 in
set_option maxRecDepth 100000 in
theorem lw_look {p : Program} {l : Launch} {e : Env} {s : State} {m : MethodId} {below : List Frame} {meth : Method} {c : Code} {H : Heap} {locs : List Loc} {D : va_G} {ct : Nat → ClassId} {A : Nat → Prop} {cells slots : Nat} {ls : Array Slot} {Q : State → Prop} {ad ad2 : Nat → Nat} {ob b L k : Nat} {xs : Nat → Int32} {n : Nat} {tx : Nat → Nat} {sc sg sh : Nat → Int32} {el : Nat → Nat → UInt64} {nf : Nat → Nat → Int32} {lr : Nat → Nat → Option Nat} {g : Nat → Int32} {a : Nat → Nat → Int32} {d : Nat → Nat → UInt64} {f : Nat → Int64} (hl9 : l.stackTraces = false) (C : ar_C p l s m meth c cL_law 9 RL #[Value.ref b] D ct A) (hNo : ac_X s) (hXs : va_X b L xs s s.heap) (hbl : b < s.heap.size) (hbA : ¬ A b) (hL : L ≤ 2048) (hk : 4 * k + 4 ≤ L) (hcs : cells + 1 ≤ 603072 ∧ slots + 6 ≤ 7202922) (hcs2 : cells + 1 + 1 ≤ 603072 ∧ slots + 6 + 6 ≤ 7202922) (hJ : zJ n tx (sc, sg, sh, el, nf, lr) (g, a, d)) (hW : ar_W D A s.heap H locs (lL ad ad2 ct ob (((sc, sg, sh, el, nf, lr), f), (g, a, d)))) (hl : lv_has ls 9 [(4, .int (nI (4 * k))), (3, .ref ob), (2, .ref (ad2 0)), (1, .ref (ad 0)), (0, .ref b)]) (nx : ∀ (H : Heap) (locs : List Loc) (ls : Array Slot) (x : XS) (f : Nat → Int64) (u : MS) (n : Nat) (tx : Nat → Nat), zJ n tx x u → ar_W D A s.heap H locs (lL ad ad2 ct ob ((x, f), u)) → lv_has ls 9 [(4, .int (nI (4 * k))), (3, .ref ob), (2, .ref (ad2 0)), (1, .ref (ad 0)), (0, .ref b)] → W p l e room_1 s m #[Value.ref b] below meth c H locs (cells + 1) (slots + 6) Q (F0 m 554 ls [])) : W p l e room_1 s m #[Value.ref b] below meth c H locs cells slots Q (F0 m 484 ls []) := by
  have hx := C.1
  have hb := C.2.1
  have hown := C.2.2.2.1
  have hts := C.2.2.2.2.1
  have hvs := zJ_vs hJ
  refine lv_aload_n hx hb dL_law_484 rfl (lv_at hl 3 rfl) ?_
  refine lv_aload_n hx hb dL_law_485 rfl (lv_at hl 1 rfl) ?_
  refine lw_cr (As := [.ref (ad 0), .ref ob]) (rest := []) C hNo hW (c_L_look (sc, sg, sh, el, nf, lr) f (c_X8_look hl9 sc sg sh el nf lr n tx hJ.1.1 hJ.1.2.1 (fun j hj => (hJ.1.2.2.2 j hj).1) (fun j hj => (hJ.1.2.2.2 j hj).2.2) hJ.2.1.1) (fun v9 u9 h => by obtain ⟨⟨_, -, -, h⟩, -⟩ := h; exact ⟨_, h⟩) (fun E u9 h => by
    have hEc : ∀ z, zEc z = ISE ∨ zEc z = UOE := fun z => by unfold zEc; split <;> simp
    rcases h.1 with ⟨rfl, -⟩ | ⟨t, -, -, rfl⟩
    · decide
    · rcases hEc (zTs (zSN sh) t).1 with h | h <;> rw [h] <;> decide)) q574 q575 q0 q576 hd_L_look ⟨Nat.le_of_ble_eq_true rfl, Nat.le_of_ble_eq_true rfl⟩ hcs hl.1 (Nat.le_of_ble_eq_true rfl) rfl dL_law_486 (fun v9 xo1 H locs h8 hW => ?_)
  obtain ⟨x1, f1⟩ := xo1
  obtain ⟨r, rfl⟩ : ∃ r : Int32, v9 = some (.int r) := by
    rcases h8 with ⟨_, -, -, h⟩ | ⟨_, -, -, -, h⟩ <;> exact ⟨_, h⟩
  refine W.eq (g2 := F0 m 489 ls [.int r]) rfl ?_
  refine lv_istore (lv' := [(5, .int r), (4, .int (nI (4 * k))), (3, .ref ob), (2, .ref (ad2 0)), (1, .ref (ad 0)), (0, .ref b)]) hx hb dL_law_489 hl (by decide) rfl (fun ls hl => ?_)
  refine lv_aload_n hx hb dL_law_491 rfl (lv_at hl 3 rfl) ?_
  refine lw_cm (As := []) (rest := []) C hW (c_X9_look hl9 g a d n tx hJ.1.1 hJ.1.2.2.1 (fun j hj => (hJ.1.2.2.2 j hj).2.1) (fun j hj => (hJ.1.2.2.2 j hj).2.2) (zSN sh) (fun j hj => ⟨hvs.2.1 j hj, hvs.2.2.2.2 j hj⟩) (fun j hj q hq => by have h1 : d 3 (24 * j + q) = el j q := (hJ.2.1.2.2 j hj q hq).1; rw [h1]; exact (hJ.2.1.2.2 j hj q hq).2)) rfl q800 q801 q802 q6 q803 hd_X9_look ⟨Nat.le_of_ble_eq_true rfl, Nat.le_of_ble_eq_true rfl⟩ hcs2 hl.1 (Nat.le_of_ble_eq_true rfl) rfl dL_law_492 (fun v9 u1 H locs h9 hW => ?_)
  obtain ⟨kc, bb, hkc, e1, rfl, h26, hout, n2, tx2, hJ2⟩ := zj_look hJ h8 h9
  cases e1
  refine W.eq (g2 := F0 m 495 ls [.int bb]) rfl ?_
  refine lv_istore (lv' := [(6, .int bb), (5, .int (nI kc)), (4, .int (nI (4 * k))), (3, .ref ob), (2, .ref (ad2 0)), (1, .ref (ad 0)), (0, .ref b)]) hx hb dL_law_495 hl (by decide) rfl (fun ls hl => ?_)
  refine lv_aload_n hx hb dL_law_497 rfl (lv_at hl 4 rfl) ?_
  obtain ⟨g1, a1, d1⟩ := u1
  refine lw_cm (As := []) (rest := []) C hW (c_X9_thrown hl9 g1 a1 d1) rfl q670 q671 q672 q6 q673 hd_X9_thrown ⟨Nat.le_of_ble_eq_true rfl, Nat.le_of_ble_eq_true rfl⟩ hcs2 hl.1 (Nat.le_of_ble_eq_true rfl) rfl dL_law_498 (fun v9 u2 H locs h10 hW => ?_)
  obtain ⟨rfl, rfl⟩ := h10
  refine W.eq (g2 := F0 m 501 ls [.int (g1 26)]) rfl ?_
  refine lv_iload hx hb dL_law_501 (lv_at hl 1 rfl) ?_
  refine lv_icmp_eq (tgt := 508) hx hb dL_law_503 (by decide) (fun _ => ?_) (fun q => absurd h26 q)
  refine lv_iload hx hb dL_law_508 (lv_at hl 1 rfl) ?_
  have nxt : W p l e room_1 s m #[Value.ref b] below meth c H locs (cells + 1) (slots + 6) Q (F0 m 525 ls []) := by
    refine lv_goto (tgt := 554) hx hb dL_law_525 (by decide) ?_
    exact nx H locs ls x1 f1 (g1, a1, d1) n2 tx2 hJ2 hW (lv_sub hl [2, 3, 4, 5, 6] rfl)
  refine lv_if_ne (tgt := 525) hx hb dL_law_510 (by decide) (fun _ => nxt) (fun q0 => ?_)
  have hk0 : kc = 0 := (nI_eq (by omega) (by decide)).mp q0
  refine lv_aload_n hx hb dL_law_513 rfl (lv_at hl 3 rfl) ?_
  refine lv_iconst (v := nI 0) hx hb dL_law_514 (by decide) ?_
  refine va_lald hx hb C.2.2.2.2.2.1 hW.1 145 3 ll_o rfl (ar_cl (j := 0) (N := 1) (by decide) (by decide)).1 dL_law_515 ?_
  refine lv_iload hx hb dL_law_516 (lv_at hl 0 rfl) ?_
  refine lv_i2l (v := bb.toInt64) hx hb dL_law_518 rfl ?_
  refine W.lcmp hx hb dL_law_519 ?_
  refine lv_if_eq (tgt := 525) hx hb dL_law_520 (by decide) (fun _ => nxt) (fun q => absurd ((lg_cmp_eq _ _).mpr (hout hk0)) q)
