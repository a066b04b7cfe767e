/-! the law's loop -/
theorem lw_sub4 {L : Nat} (hL : L ≤ 2048) : (nI L - nI 4).toInt = (L : Int) - 4 := by
  rw [Int32.toInt_sub, nI_toInt (by omega), nI_toInt (by decide)]
  unfold Int.bmod
  simp only []
  omega
theorem lw_gt {L a : Nat} (hL : L ≤ 2048) (ha : a ≤ 4096) : nI L - nI 4 < nI a ↔ L < a + 4 := by
  rw [Int32.lt_iff_toInt_lt, lw_sub4 hL, nI_toInt (by omega)]
  omega
theorem lw_and15 (x : Int32) : ∃ j : Nat, j < 16 ∧ x &&& nI 15 = nI j := by
  refine ⟨(x.toBitVec &&& 15#32).toNat, ?_, ?_⟩
  · rw [BitVec.toNat_and]
    exact Nat.lt_succ_of_le Nat.and_le_right
  · apply Int32.toBitVec_inj.mp
    show x.toBitVec &&& 15#32 = BitVec.ofNat 32 (x.toBitVec &&& 15#32).toNat
    rw [BitVec.ofNat_toNat, BitVec.setWidth_eq]
section AL1
variable {p : Program} {l : Launch} {e : Env} {s : State} {m : MethodId} {below : List Frame} {meth : Method} {c : Code} {D : va_G} {ct : Nat → ClassId} {A : Nat → Prop} {Q : State → Prop} {ad ad2 : Nat → Nat} {ob b L : Nat} {xs : Nat → Int32}
set_option maxHeartbeats 4000000 in
set_option maxRecDepth 100000 in
theorem lw_loop (hl9 : l.stackTraces = false) (C : ar_C p l s m meth c cL_law 9 RL #[Value.ref b] D ct A) (hNo : ac_X s) (hXs : va_X b L xs s s.heap) (hbl : b < s.heap.size) (hbA : ¬ A b) (hL : L ≤ 2048)
    (hend : ∀ (H : Heap) (locs : List Loc) (ls : Array Slot) (cells slots : Nat), cells ≤ 700 → slots ≤ 6000 → (∀ q ∈ locs, A q.base) → W p l e room_1 s m #[Value.ref b] below meth c H locs cells slots Q (F0 m 560 ls [])) :
    ∀ (N9 k : Nat) (H : Heap) (locs : List Loc) (ls : Array Slot) (x : XS) (f : Nat → Int64) (u : MS) (n : Nat) (tx : Nat → Nat), 514 - k < N9 → 4 * k ≤ L + 3 → zJ n tx x u → ar_W D A s.heap H locs (lL ad ad2 ct ob ((x, f), u)) → lv_has ls 9 [(4, .int (nI (4 * k))), (3, .ref ob), (2, .ref (ad2 0)), (1, .ref (ad 0)), (0, .ref b)] →
      W p l e room_1 s m #[Value.ref b] below meth c H locs (159 + k) (2667 + 6 * k) Q (F0 m 23 ls []) := by
  have hx := C.1
  have hb := C.2.1
  intro N9
  induction N9 with
  | zero => intro k H locs ls x f u n tx h9; omega
  | succ N9 ih =>
    intro k H locs ls x f u n tx h9 hk hJ hW hl
    refine lv_iload hx hb dL_law_23 (lv_at hl 0 rfl) ?_
    refine lv_aload_n hx hb dL_law_25 rfl (lv_at hl 4 rfl) ?_
    refine va_slen hx hb hXs hbl hbA hW.2.2 dL_law_26 ?_
    refine lv_iconst (v := nI 4) hx hb dL_law_27 (by decide) ?_
    refine lv_isub hx hb dL_law_28 ?_
    refine lv_icmp_gt (tgt := 560) hx hb dL_law_29 (by decide) (fun _ => hend H locs ls _ _ (by omega) (by omega) hW.2.2.2.2) (fun h1 => ?_)
    have hk4 : 4 * k + 4 ≤ L := by
      have h2 : ¬ L < 4 * k + 4 := fun q => h1 ((lw_gt hL (by omega)).mpr q)
      omega
    refine lv_aload_n hx hb dL_law_32 rfl (lv_at hl 4 rfl) ?_
    refine lv_iload hx hb dL_law_33 (lv_at hl 0 rfl) ?_
    refine lw_ld C hW hXs hbl hbA (by omega) hL dL_law_35 ?_
    refine lv_bipush (v := nI 15) hx hb dL_law_36 (by decide) ?_
    refine lv_iand hx hb dL_law_38 ?_
    have nx : ∀ (H : Heap) (locs : List Loc) (ls : Array Slot) (x : XS) (f : Nat → Int64) (u : MS) (n : Nat) (tx : Nat → Nat), zJ n tx x u → ar_W D A s.heap H locs (lL ad ad2 ct ob ((x, f), u)) → lv_has ls 9 [(4, .int (nI (4 * k))), (3, .ref ob), (2, .ref (ad2 0)), (1, .ref (ad 0)), (0, .ref b)] → W p l e room_1 s m #[Value.ref b] below meth c H locs (159 + k + 1) (2667 + 6 * k + 6) Q (F0 m 554 ls []) := by
      intro H locs ls x f u n tx hJ hW hl
      refine lv_iinc (v := nI (4 * (k + 1))) (lv' := [(4, .int (nI (4 * (k + 1)))), (3, .ref ob), (2, .ref (ad2 0)), (1, .ref (ad 0)), (0, .ref b)]) (k := 0) hx hb dL_law_554 hl rfl (nI_add (4 * k) 4) (by decide) rfl (fun ls hl => ?_)
      refine lv_goto (tgt := 23) hx hb dL_law_557 (by decide) ?_
      refine W.widen (k := 159 + (k + 1)) (n := 2667 + 6 * (k + 1)) (by omega) (by omega) ?_
      exact ih (k + 1) H locs ls x f u n tx (by omega) (by omega) hJ hW hl
    have hcs : 159 + k + 1 ≤ 603072 ∧ 2667 + 6 * k + 6 ≤ 7202922 := ⟨by omega, by omega⟩
    have hcs2 : 159 + k + 1 + 1 ≤ 603072 ∧ 2667 + 6 * k + 6 + 6 ≤ 7202922 := ⟨by omega, by omega⟩
    have out : ∀ w : Int32, w.toInt < 0 ∨ 11 < w.toInt → W p l e room_1 s m #[Value.ref b] below meth c H locs (159 + k) (2667 + 6 * k) Q (F0 m 39 ls [.int w]) := fun w hw =>
      lv_tableOut (tgt := 554) hx hb dL_law_39 hw (by decide) (W.widen (Nat.le_succ _) (Nat.le_add_right _ _) (nx H locs ls x f u n tx hJ hW hl))
    obtain ⟨sc, sg, sh, el, nf, lr⟩ := x
    obtain ⟨g, a, d⟩ := u
    obtain ⟨j, hj, ej⟩ := lw_and15 (xs (4 * k))
    rw [ej]
    rcases (show j = 0 ∨ j = 1 ∨ j = 2 ∨ j = 3 ∨ j = 4 ∨ j = 5 ∨ j = 6 ∨ j = 7 ∨ j = 8 ∨ j = 9 ∨ j = 10 ∨ j = 11 ∨ j = 12 ∨ j = 13 ∨ j = 14 ∨ j = 15 by omega) with rfl | rfl | rfl | rfl | rfl | rfl | rfl | rfl | rfl | rfl | rfl | rfl | rfl | rfl | rfl | rfl
    · exact lv_tableIn (off := 61) (tgt := 100) hx hb dL_law_39 (by decide) (by decide) (by decide) (by decide) (lw_write hl9 C hNo hXs hbl hbA hL hk4 hcs hcs2 hJ hW hl nx)
    · exact lv_tableIn (off := 118) (tgt := 157) hx hb dL_law_39 (by decide) (by decide) (by decide) (by decide) (lw_erase hl9 C hNo hXs hbl hbA hL hk4 hcs hcs2 hJ hW hl nx)
    · exact lv_tableIn (off := 131) (tgt := 170) hx hb dL_law_39 (by decide) (by decide) (by decide) (by decide) (lw_put hl9 C hNo hXs hbl hbA hL hk4 hcs hcs2 hJ hW hl nx)
    · exact lv_tableIn (off := 178) (tgt := 217) hx hb dL_law_39 (by decide) (by decide) (by decide) (by decide) (lw_shape hl9 C hNo hXs hbl hbA hL hk4 hcs hcs2 hJ hW hl nx)
    · exact lv_tableIn (off := 215) (tgt := 254) hx hb dL_law_39 (by decide) (by decide) (by decide) (by decide) (lw_set hl9 C hNo hXs hbl hbA hL hk4 hcs hcs2 hJ hW hl nx)
    · exact lv_tableIn (off := 274) (tgt := 313) hx hb dL_law_39 (by decide) (by decide) (by decide) (by decide) (lw_shapeOf hl9 C hNo hXs hbl hbA hL hk4 hcs hcs2 hJ hW hl nx)
    · exact lv_tableIn (off := 299) (tgt := 338) hx hb dL_law_39 (by decide) (by decide) (by decide) (by decide) (lw_size hl9 C hNo hXs hbl hbA hL hk4 hcs hcs2 hJ hW hl nx)
    · exact lv_tableIn (off := 324) (tgt := 363) hx hb dL_law_39 (by decide) (by decide) (by decide) (by decide) (lw_at hl9 C hNo hXs hbl hbA hL hk4 hcs hcs2 hJ hW hl nx)
    · exact lv_tableIn (off := 389) (tgt := 428) hx hb dL_law_39 (by decide) (by decide) (by decide) (by decide) (lw_run hl9 C hNo hXs hbl hbA hL hk4 hcs hcs2 hJ hW hl nx)
    · exact lv_tableIn (off := 445) (tgt := 484) hx hb dL_law_39 (by decide) (by decide) (by decide) (by decide) (lw_look hl9 C hNo hXs hbl hbA hL hk4 hcs hcs2 hJ hW hl nx)
    · exact lv_tableIn (off := 489) (tgt := 528) hx hb dL_law_39 (by decide) (by decide) (by decide) (by decide) (lw_made hl9 C hNo hXs hbl hbA hL hk4 hcs hcs2 hJ hW hl nx)
    · exact lv_tableIn (off := 502) (tgt := 541) hx hb dL_law_39 (by decide) (by decide) (by decide) (by decide) (lw_runs hl9 C hNo hXs hbl hbA hL hk4 hcs hcs2 hJ hW hl nx)
    · exact out _ (Or.inr (by decide))
    · exact out _ (Or.inr (by decide))
    · exact out _ (Or.inr (by decide))
    · exact out _ (Or.inr (by decide))
/-- the start: both objects and the row are made -/
theorem lw_swap {H0 H : Heap} {locs : List Loc} {w1 w2 w3 : va_W} (hW : ar_W D A H0 H locs ((w1 ++ w2) ++ w3)) : ar_W D A H0 H locs ((w1 ++ w3) ++ w2) :=
  ⟨(hW.1.left.left.app hW.1.right).app hW.1.left.right, va_D.app (va_D.app hW.2.1.left.left hW.2.1.right (fun i j x y hx hy e => hW.2.1.cross (i := i) (j := j) (p := x) (q := y) (by rw [List.getElem?_append_left (List.getElem?_eq_some_iff.mp hx).1]; exact hx) hy e)) hW.2.1.left.right (fun i j x y hx hy e => by
    by_cases hi : i < w1.length
    · rw [List.getElem?_append_left hi] at hx
      exact hW.2.1.left.cross hx hy e
    · rw [List.getElem?_append_right (by omega)] at hx
      exact hW.2.1.cross (i := w1.length + j) (p := y) (q := x) (by rw [List.getElem?_append_right (by omega), Nat.add_sub_cancel_left]; exact hy) hx e.symm), hW.2.2⟩
theorem zJ_0 : zJ 0 (fun _ => 0) kX0 kM0 := ⟨⟨by decide, rfl, rfl, fun j hj => absurd hj (Nat.not_lt_zero _)⟩, ⟨fun j _ => ⟨rfl, rfl⟩, fun j _ => rfl, fun j _ q _ => ⟨rfl, by show zRg FP.dconst0 = true; decide +kernel⟩⟩, rfl, rfl⟩
set_option maxHeartbeats 4000000 in
set_option maxRecDepth 100000 in
theorem lw_begin {ls : Array Slot} (hl9 : l.stackTraces = false) (C : ar_C p l s m meth c cL_law 9 RL #[Value.ref b] D ct A) (hX : ai_X s) (hNo : ac_X s) (hXs : va_X b L xs s s.heap) (hbl : b < s.heap.size) (hbA : ¬ A b) (hL : L ≤ 2048)
    (hend : ∀ (H : Heap) (locs : List Loc) (ls : Array Slot) (cells slots : Nat), cells ≤ 700 → slots ≤ 6000 → (∀ q ∈ locs, A q.base) → W p l e room_1 s m #[Value.ref b] below meth c H locs cells slots Q (F0 m 560 ls []))
    (hl : lv_has ls 9 [(0, .ref b)]) : W p l e room_1 s m #[Value.ref b] below meth c s.heap [] 0 0 Q (F0 m 0 ls []) := by
  have hx := C.1
  have hb := C.2.1
  have hts := C.2.2.2.2.1
  have hW : ar_W D A s.heap s.heap [] [] := ⟨fun k q hk => by simp at hk, ⟨fun i j p q hi => by simp at hi, fun k q hk => by simp at hk⟩, va_S.rf⟩
  refine ai_new (ci := 6) (fs := [.null, .null, .null, .int (nI 0), .int (nI 0)]) C hW ar_in8 tyX8_ok q21 q22 q1 rfl (by decide) (by decide) (by decide) dL_law_0 (fun h H hW => ?_)
  refine lv_dup hx hb dL_law_3 rfl ?_
  refine ag_call (rest := [.ref h]) (maxL := 2) (u0 := none) (wl := kO ([(h, .inr (6, [.null, .null, .null, .int (nI 0), .int (nI 0)]))]) (kAll ct h)) C.g hW (c_X8_init hl9 h) (ag_stI (As := []) (b := h) C.g rfl q23 q24 q25 hd_X8_init rfl dL_law_4) (fun U h9 => hX.warm h9) ⟨by decide, by decide, by decide, by decide⟩ (fun w hw => (List.mem_cons.mp hw).elim (fun e => by rw [e]; exact q25) id) (ag_cd hts q25) q1 hl.1 (Nat.le_of_ble_eq_true rfl) dL_law_4 (fun _ _ _ _ _ _ h9 => h9.elim) (fun v9 u9 H locs hp hW => ?_)
  obtain ⟨rfl, x, rfl, h8, h41⟩ := hp
  refine W.eq (g2 := F0 m 7 ls [.ref h]) rfl ?_
  have hW : ar_W D A s.heap H locs (kAll ct h x) := hW
  have hW := kLaid h8 h41 hW
  have had : kAd h x 0 = h := rfl
  generalize kAd h x = ad at hW had
  rw [← had]
  refine lv_astore_n (lv' := [(1, .ref (ad 0)), (0, .ref b)]) hx hb dL_law_7 rfl hl (by decide) rfl (fun ls hl => ?_)
  refine ai_new (ci := 7) (fs := [.null, .int (nI 0), .null, .null, .null, .null, .null, .null, .int (nI 0), .int (nI 0), .null, .null, .null, .null, .null, .int (nI 0), .int (nI 0), .int (nI 0), .int (nI 0), .int (nI 0), .int (nI 0), .int (nI 0), .int (nI 0), .int (nI 0), .int (nI 0), .int (nI 0), .int (nI 0)]) C hW ar_in9 tyX9_ok q581 q582 q6 rfl (by decide) (by decide) (by decide) dL_law_8 (fun h2 H hW => ?_)
  refine lv_dup hx hb dL_law_11 rfl ?_
  refine ag_call (rest := [.ref h2]) (maxL := 1) (u0 := none) (wl := fun u => xL ad ct kX0 ++ kO _ (kMo ct) u) C.g hW (ag_frameL (xL ad ct kX0) (c_X9_init hl9 h2)) (ag_stI (As := []) (b := h2) C.g rfl q583 q584 q585 hd_X9_init rfl dL_law_12) (fun U h9 => hX.warm h9) ⟨by decide, by decide, by decide, by decide⟩ (fun w hw => (List.mem_cons.mp hw).elim (fun e => by rw [e]; exact q585) id) (ag_cd hts q585) q6 hl.1 (Nat.le_of_ble_eq_true rfl) dL_law_12 (fun _ _ _ _ _ _ h9 => h9.elim) (fun v9 u9 H locs hp hW => ?_)
  obtain ⟨rfl, x2, rfl, hx2⟩ := hp
  refine W.eq (g2 := F0 m 15 ls [.ref h2]) rfl ?_
  have hW : ar_W D A s.heap H locs (xL ad ct kX0 ++ mL (fun i => x2.getD i 0) ct kM0) := hW
  have had2 : (fun i => x2.getD i 0) 0 = h2 := hx2
  generalize (fun i => x2.getD i 0) = ad2 at hW had2
  rw [← had2]
  refine lv_astore_n (lv' := [(2, .ref (ad2 0)), (1, .ref (ad 0)), (0, .ref b)]) hx hb dL_law_15 rfl hl (by decide) rfl (fun ls hl => ?_)
  refine lv_iconst (v := nI 1) hx hb dL_law_16 (by decide) ?_
  refine ai_newa (atype := .long) (ty := .long) (N' := 1) (k := 3) (a0 := (1, .inr (.inl (fun _ => 0)))) C hW q814 rfl rfl (fun _ => rfl) (by decide) (by decide) (by decide) (by decide) (by decide) dL_law_17 (fun ob H hW => ?_)
  have hW := lw_swap hW
  refine lv_astore_n (lv' := [(3, .ref ob), (2, .ref (ad2 0)), (1, .ref (ad 0)), (0, .ref b)]) hx hb dL_law_19 rfl hl (by decide) rfl (fun ls hl => ?_)
  refine lv_iconst (v := nI 0) hx hb dL_law_20 (by decide) ?_
  refine lv_istore (lv' := [(4, .int (nI 0)), (3, .ref ob), (2, .ref (ad2 0)), (1, .ref (ad 0)), (0, .ref b)]) hx hb dL_law_21 hl (by decide) rfl (fun ls hl => ?_)
  exact lw_loop hl9 C hNo hXs hbl hbA hL hend 515 0 H locs ls kX0 (fun _ => 0) kM0 0 (fun _ => 0) (by decide) (by omega) zJ_0 hW hl
end AL1
