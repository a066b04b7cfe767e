theorem zWo_c {sv : Nat → Nat} {xv : Nat → Nat → UInt64} {o : Option zTr} {u w : zM3} {v9 : Option Value} (h : zWo sv xv o u v9 w) : (o = none ∧ v9 = some (.int (nI 1))) ∨ (∃ t, o = some t ∧ (zTs sv t).1 ≠ 0 ∧ v9 = some (.int (nI (1 + (zTs sv t).1)))) ∨ (∃ t, o = some t ∧ (zTs sv t).1 = 0 ∧ ¬ zTg sv xv t ∧ v9 = some (.int (nI 4)) ∧ w.1 15 = nI (zTs sv t).2) ∨ (∃ t, o = some t ∧ (zTs sv t).1 = 0 ∧ zTg sv xv t ∧ v9 = some (.int (nI 0)) ∧ w.1 22 = nI (zAr t) ∧ zVl (w.1 15) (w.1 17) (w.1 19) (w.2.2 8) false (zTs sv t).2 (zTx sv xv t) (zCv t) (zMr t)) := by
  obtain ⟨-, h1, h2⟩ := h
  rcases o with _ | t
  · exact Or.inl ⟨rfl, h1 rfl⟩
  · obtain ⟨k1, k2⟩ := h2 t rfl
    by_cases hz : (zTs sv t).1 = 0
    · obtain ⟨b, m1, m2, m3, m4⟩ := k2 hz
      cases b
      · exact Or.inr (Or.inr (Or.inr ⟨t, rfl, hz, m1.mp rfl, m2, m3, m4⟩))
      · exact Or.inr (Or.inr (Or.inl ⟨t, rfl, hz, (fun q => by have := m1.mpr q; cases this), m2, m4.1⟩))
    · exact Or.inr (Or.inl ⟨t, rfl, hz, k1 hz⟩)
def zFz (u w : zM3) : Prop := (∀ r, r < 4 → w.2.1 r = u.2.1 r) ∧ w.2.2 3 = u.2.2 3 ∧ ∀ k, (k < 8 ∨ (9 < k ∧ k < 15) ∨ (23 < k ∧ k ≠ 26)) → w.1 k = u.1 k
theorem zFz_w {g g3 : Nat → Int32} {a a3 : Nat → Nat → Int32} {d d3 : Nat → Nat → UInt64} {x y : Int32} (h : zFw (va_up g 26 x, a, d) (g3, a3, d3)) : zFz (g, a, d) (va_up g3 26 y, a3, d3) := ⟨h.1, h.2.1, fun k hk => by show va_up g3 26 y k = g k; rw [va_up_ne _ _ (by omega)]; exact (h.2.2 k (by omega)).trans (va_up_ne _ _ (by omega))⟩
theorem zFz_l {g g3 : Nat → Int32} {a a3 : Nat → Nat → Int32} {d d3 : Nat → Nat → UInt64} {y : Int32} (h : zFw (g, a, d) (g3, a3, d3)) : zFz (g, a, d) (va_up g3 26 y, a3, d3) := ⟨h.1, h.2.1, fun k hk => by show va_up g3 26 y k = g k; rw [va_up_ne _ _ (by omega)]; exact h.2.2 k (by omega)⟩
def zCd (sv : Nat → Nat) (xv : Nat → Nat → UInt64) (o : Option zTr) (e : Nat) : Prop := (o = none ∧ e = 1) ∨ (∃ t, o = some t ∧ (zTs sv t).1 ≠ 0 ∧ e = 1 + (zTs sv t).1) ∨ (∃ t, o = some t ∧ (zTs sv t).1 = 0 ∧ ¬ zTg sv xv t ∧ e = 4)
theorem hd_X9_run : yX9_run.cls ≠ "java/lang/invoke/MethodHandle" ∧ yX9_run.cls ≠ "java/lang/invoke/VarHandle" ∧ (parseMethodDescriptor yX9_run.desc).map (fun d => d.parameters.length) = some 1 := by decide +kernel
set_option maxHeartbeats 4000000 in
set_option maxRecDepth 100000 in
theorem c_X9_run {l : Launch} (hl9 : l.stackTraces = false) {D : va_G} {ct : Nat → ClassId} {ad : Nat → Nat} (g : Nat → Int32) (a : Nat → Nat → Int32) (d : Nat → Nat → UInt64) (n : Nat) (tx : Nat → Nat) (hn : n ≤ 40) (hlen : g 1 = nI n) (htx : ∀ j, j < n → a 1 j = nI (tx j)) (hcx : ∀ j, j < n → 1 ≤ tx j ∧ tx j ≤ 127) (sv : Nat → Nat) (hsv : ∀ j, j < 8 → a 2 j = nI (sv j) ∧ zOk (sv j) = true) (hvr : ∀ j, j < 8 → ∀ q, q < zCt (sv j) → zRg (d 3 (24 * j + q)) = true) (v : Int32) : ar_M l yX9_run cX9_run 4 (some .int) 6 139 D ct (mL ad ct) [.ref (ad 0), .int v] (g, a, d) (fun v9 u9 => (vOk v = false ∧ v9 = some (.int (nI 0)) ∧ u9 = (va_up g 26 (nI 1), a, d)) ∨ (∃ e : Nat, vOk v = true ∧ e ≠ 0 ∧ zCd sv (fun j q => d 3 (24 * j + q)) (zTree (zCh tx n) n) e ∧ v9 = some (.int (nI 0)) ∧ u9.1 26 = nI (1 + e) ∧ zFz (g, a, d) u9) ∨ (∃ (t : zTr) (j9 : Nat), v = nI j9 ∧ j9 < 8 ∧ zTree (zCh tx n) n = some t ∧ (zTs sv t).1 = 0 ∧ zTg sv (fun j q => d 3 (24 * j + q)) t ∧ v9 = some (.int (nI (zCt (zTs sv t).2))) ∧ u9.1 26 = nI 0 ∧ u9.1 24 = nI (zAr t + if zMr t = true then 0 else 1) ∧ u9.1 25 = g 25 + nI 1 ∧ u9.1 1 = g 1 ∧ u9.2.1 1 = a 1 ∧ (∀ i, i < 8 → i ≠ j9 → u9.2.1 2 i = a 2 i) ∧ u9.2.1 2 j9 = nI (zTs sv t).2 ∧ (∀ i, i < 8 → i ≠ j9 → ∀ q, q < 24 → u9.2.2 3 (24 * i + q) = d 3 (24 * i + q)) ∧ (∀ q, q < zCt (zTs sv t).2 → u9.2.2 3 (24 * j9 + q) = zTx sv (fun j q => d 3 (24 * j + q)) t q))) (fun _ _ => False) := by
  refine ar_ofW hl9 (by decide) (Nat.le_of_ble_eq_true rfl) ?_
  intro p e s m below meth c A ls C hr hnm hW hl
  have hx := C.1
  have hb := C.2.1
  have hown := C.2.2.2.1
  have hts := C.2.2.2.2.1
  have hl : lv_has ls 4 [(0, .ref (ad 0)), (1, .int v)] := hl
  refine lv_aload_n hx hb dX9_run_0 rfl (lv_at hl 0 rfl) ?_
  refine lv_iconst (v := nI 1) hx hb dX9_run_1 (by decide) ?_
  refine mp_thrown C hW q613 dX9_run_2 (fun H locs hW => ?_)
  refine lv_iload_n hx hb dX9_run_5 rfl (lv_at hl 1 rfl) ?_
  refine lv_iconst (v := nI 0) hx hb dX9_run_6 (by decide) ?_
  refine lv_bipush (v := nI 7) hx hb dX9_run_7 (by decide) ?_
  refine ar_callS (As := [.int v, .int (nI 0), .int (nI 7)]) (rest := []) C hW (c_X9_within hl9 _ v (nI 0) (nI 7)) q686 q687 q6 q688 hd_X9_within ⟨Nat.le_of_ble_eq_true rfl, Nat.le_of_ble_eq_true rfl⟩ hl.1 (Nat.le_of_ble_eq_true rfl) rfl dX9_run_9 (fun _ _ _ _ _ _ hp => hp.elim) (fun v9 u9 H locs hp hW => ?_)
  obtain ⟨rfl, hu9⟩ := hp
  rw [hu9] at hW
  refine W.eq (g2 := F0 m 12 ls [.int (bI (zIn v (nI 0) (nI 7)))]) rfl ?_
  refine lb_if_ne (tgt := 17) hx hb dX9_run_12 (by decide) (fun h1 => ?_) (fun h1 => ?_)
  · skip
    have h1v := (zIn_v v).symm.trans h1
    obtain ⟨j, hj8, rfl⟩ := vOk_nat h1v
    refine lv_aload_n hx hb dX9_run_17 rfl (lv_at hl 0 rfl) ?_
    refine ar_callV (q0 := 0) (ci := 7) (T9 := TX9) (N9 := 27) (As := []) (rest := []) C hW (c_X9_work hl9 (va_up g 26 (nI 1)) a d n tx hn hlen htx hcx sv hsv hvr) (rfl) rfl q728 q730 qs2 q6 q731 hd_X9_work ⟨Nat.le_of_ble_eq_true rfl, Nat.le_of_ble_eq_true rfl⟩ hl.1 (Nat.le_of_ble_eq_true rfl) rfl dX9_run_18 (fun _ _ _ _ _ _ hp => hp.elim) (fun v9 u9 H locs hp hW => ?_)
    obtain ⟨g3, a3, d3⟩ := u9
    have hfw := hp.1
    rcases zWo_c hp with ⟨hZ, rfl⟩ | ⟨t, hZ, hz, rfl⟩ | ⟨t, hZ, hz, hg, rfl, h15⟩ | ⟨t, hZ, hz, hg, rfl, har, hvl⟩
    · skip
      refine W.eq (g2 := F0 m 21 ls [.int (nI 1)]) rfl ?_
      refine lv_istore_n (lv' := [(2, .int (nI 1)), (0, .ref (ad 0)), (1, .int (nI j))]) hx hb dX9_run_21 rfl hl (by decide) rfl (fun ls hl => ?_)
      refine lv_aload_n hx hb dX9_run_22 rfl (lv_at hl 1 rfl) ?_
      refine lv_iload_n hx hb dX9_run_23 rfl (lv_at hl 0 rfl) ?_
      refine ln_if_ne (tgt := 31) hx hb dX9_run_24 (by decide) (by decide) (fun _ => ?_) (fun h2 => absurd h2 (by decide))
      refine lv_iconst (v := nI 1) hx hb dX9_run_31 (by decide) ?_
      refine lv_iload_n hx hb dX9_run_32 rfl (lv_at hl 0 rfl) ?_
      refine ln_iadd hx hb dX9_run_33 ?_
      refine mp_thrown C hW q613 dX9_run_34 (fun H locs hW => ?_)
      refine lv_iload_n hx hb dX9_run_37 rfl (lv_at hl 0 rfl) ?_
      refine ln_if_le (tgt := 43) hx hb dX9_run_38 (by decide) (by decide) (fun h3 => absurd h3 (by decide)) (fun _ => ?_)
      refine lv_iconst (v := nI 0) hx hb dX9_run_41 (by decide) ?_
      exact ar_iret C hr hW dX9_run_42 (Or.inr (Or.inl ⟨1, h1v, by omega, Or.inl ⟨hZ, rfl⟩, rfl, rfl, zFz_w hfw⟩))
    · skip
      have hzl := zTs_le (sv := sv) t
      refine W.eq (g2 := F0 m 21 ls [.int (nI (1 + (zTs sv t).1))]) rfl ?_
      refine lv_istore_n (lv' := [(2, .int (nI (1 + (zTs sv t).1))), (0, .ref (ad 0)), (1, .int (nI j))]) hx hb dX9_run_21 rfl hl (by decide) rfl (fun ls hl => ?_)
      refine lv_aload_n hx hb dX9_run_22 rfl (lv_at hl 1 rfl) ?_
      refine lv_iload_n hx hb dX9_run_23 rfl (lv_at hl 0 rfl) ?_
      refine ln_if_ne (tgt := 31) hx hb dX9_run_24 (by decide) (by omega) (fun h4 => ?_) (fun h4 => ?_)
      · skip
        refine lv_iconst (v := nI 1) hx hb dX9_run_31 (by decide) ?_
        refine lv_iload_n hx hb dX9_run_32 rfl (lv_at hl 0 rfl) ?_
        refine ln_iadd hx hb dX9_run_33 ?_
        refine mp_thrown C hW q613 dX9_run_34 (fun H locs hW => ?_)
        refine lv_iload_n hx hb dX9_run_37 rfl (lv_at hl 0 rfl) ?_
        refine ln_if_le (tgt := 43) hx hb dX9_run_38 (by decide) (by omega) (fun h5 => ?_) (fun h5 => ?_)
        · skip
          exfalso; omega
        · skip
          refine lv_iconst (v := nI 0) hx hb dX9_run_41 (by decide) ?_
          exact ar_iret C hr hW dX9_run_42 (Or.inr (Or.inl ⟨1 + (zTs sv t).1, h1v, by omega, Or.inr (Or.inl ⟨t, hZ, hz, rfl⟩), rfl, rfl, zFz_w hfw⟩))
      · skip
        exfalso; omega
    · skip
      have h15 : g3 15 = nI (zTs sv t).2 := h15
      refine W.eq (g2 := F0 m 21 ls [.int (nI 4)]) rfl ?_
      refine lv_istore_n (lv' := [(2, .int (nI 4)), (0, .ref (ad 0)), (1, .int (nI j))]) hx hb dX9_run_21 rfl hl (by decide) rfl (fun ls hl => ?_)
      refine lv_aload_n hx hb dX9_run_22 rfl (lv_at hl 1 rfl) ?_
      refine lv_iload_n hx hb dX9_run_23 rfl (lv_at hl 0 rfl) ?_
      refine ln_if_ne (tgt := 31) hx hb dX9_run_24 (by decide) (by decide) (fun _ => ?_) (fun h6 => absurd h6 (by decide))
      refine lv_iconst (v := nI 1) hx hb dX9_run_31 (by decide) ?_
      refine lv_iload_n hx hb dX9_run_32 rfl (lv_at hl 0 rfl) ?_
      refine ln_iadd hx hb dX9_run_33 ?_
      refine mp_thrown C hW q613 dX9_run_34 (fun H locs hW => ?_)
      refine lv_iload_n hx hb dX9_run_37 rfl (lv_at hl 0 rfl) ?_
      refine ln_if_le (tgt := 43) hx hb dX9_run_38 (by decide) (by decide) (fun h7 => absurd h7 (by decide)) (fun _ => ?_)
      refine lv_iconst (v := nI 0) hx hb dX9_run_41 (by decide) ?_
      exact ar_iret C hr hW dX9_run_42 (Or.inr (Or.inl ⟨4, h1v, by omega, Or.inr (Or.inr ⟨t, hZ, hz, hg, rfl⟩), rfl, rfl, zFz_w hfw⟩))
    · skip
      have h15 : g3 15 = nI (zTs sv t).2 := hvl.1
      have har : g3 22 = nI (zAr t) := har
      have h19 : g3 19 = bI (zMr t) := hvl.2.2.2.2.2
      have hdz := zOk_num hvl.2.1
      refine W.eq (g2 := F0 m 21 ls [.int (nI 0)]) rfl ?_
      refine lv_istore_n (lv' := [(2, .int (nI 0)), (0, .ref (ad 0)), (1, .int (nI j))]) hx hb dX9_run_21 rfl hl (by decide) rfl (fun ls hl => ?_)
      refine lv_aload_n hx hb dX9_run_22 rfl (lv_at hl 1 rfl) ?_
      refine lv_iload_n hx hb dX9_run_23 rfl (lv_at hl 0 rfl) ?_
      refine ln_if_ne (tgt := 31) hx hb dX9_run_24 (by decide) (by decide) (fun h8 => absurd h8 (by decide)) (fun _ => ?_)
      refine lv_iconst (v := nI 0) hx hb dX9_run_27 (by decide) ?_
      refine lv_goto (tgt := 34) hx hb dX9_run_28 (by decide) ?_
      refine mp_thrown C hW q613 dX9_run_34 (fun H locs hW => ?_)
      refine lv_iload_n hx hb dX9_run_37 rfl (lv_at hl 0 rfl) ?_
      refine ln_if_le (tgt := 43) hx hb dX9_run_38 (by decide) (by decide) (fun _ => ?_) (fun h9 => absurd h9 (by decide))
      refine lv_aload_n hx hb dX9_run_43 rfl (lv_at hl 1 rfl) ?_
      refine mg_shapes C hW q589 dX9_run_44 ?_
      refine lv_iload_n hx hb dX9_run_47 rfl (lv_at hl 2 rfl) ?_
      refine lv_aload_n hx hb dX9_run_48 rfl (lv_at hl 1 rfl) ?_
      refine mg_nowShape C hW q602 dX9_run_49 ?_
      rw [va_up_ne _ _ (by decide)]
      refine ln_top (h15) ?_
      refine ms_shapes (j := j) C hW (by omega) dX9_run_52 (fun H locs hW => ?_)
      refine lv_iconst (v := nI 0) hx hb dX9_run_53 (by decide) ?_
      refine lv_istore_n (lv' := [(3, .int (nI 0)), (2, .int (nI 0)), (0, .ref (ad 0)), (1, .int (nI j))]) hx hb dX9_run_54 rfl hl (by decide) rfl (fun ls hl => ?_)
      have lp : ∀ (N9 : Nat) (k : Nat) (f : Nat → UInt64) (H : Heap) (locs : List Loc) (ls : Array Slot), 24 - k < N9 → (k ≤ 24) → ((∀ q, q < k → f (24 * j + q) = d3 8 q) ∧ ∀ i, (i < 24 * j ∨ 24 * j + k ≤ i) → f i = d3 3 i) → ar_W D A s.heap H locs (mL ad ct (va_up g3 26 (nI 0), va_up a3 2 (va_up (a3 2) j (nI ((zTs sv t).2))), va_up d3 3 f)) → lv_has ls 4 [(0, .ref (ad 0)), (1, .int (nI j)), (2, .int (nI 0)), (3, .int (nI k))] → W p l e (ar_rm 6 139) s m [.ref (ad 0), .int (nI j)].toArray below meth c H locs 0 0 (ar_E below (ar_Q D ct (mL ad ct) A (fun v9 u9 => (vOk (nI j) = false ∧ v9 = some (.int (nI 0)) ∧ u9 = (va_up g 26 (nI 1), a, d)) ∨ (∃ e : Nat, vOk (nI j) = true ∧ e ≠ 0 ∧ zCd sv (fun j q => d 3 (24 * j + q)) (zTree (zCh tx n) n) e ∧ v9 = some (.int (nI 0)) ∧ u9.1 26 = nI (1 + e) ∧ zFz (g, a, d) u9) ∨ (∃ (t : zTr) (j9 : Nat), (nI j) = nI j9 ∧ j9 < 8 ∧ zTree (zCh tx n) n = some t ∧ (zTs sv t).1 = 0 ∧ zTg sv (fun j q => d 3 (24 * j + q)) t ∧ v9 = some (.int (nI (zCt (zTs sv t).2))) ∧ u9.1 26 = nI 0 ∧ u9.1 24 = nI (zAr t + if zMr t = true then 0 else 1) ∧ u9.1 25 = g 25 + nI 1 ∧ u9.1 1 = g 1 ∧ u9.2.1 1 = a 1 ∧ (∀ i, i < 8 → i ≠ j9 → u9.2.1 2 i = a 2 i) ∧ u9.2.1 2 j9 = nI (zTs sv t).2 ∧ (∀ i, i < 8 → i ≠ j9 → ∀ q, q < 24 → u9.2.2 3 (24 * i + q) = d 3 (24 * i + q)) ∧ (∀ q, q < zCt (zTs sv t).2 → u9.2.2 3 (24 * j9 + q) = zTx sv (fun j q => d 3 (24 * j + q)) t q))) (fun _ _ => False)) [.ref (ad 0), .int (nI j)].toArray s) (F0 m 55 ls []) := by
        intro N9
        induction N9 with
        | zero =>
          intro k f H locs ls hN9
          exact absurd hN9 (Nat.not_lt_zero _)
        | succ N9 ihlp =>
          intro k f H locs ls hN9 hk hf hW hl
          refine lv_iload_n hx hb dX9_run_55 rfl (lv_at hl 3 rfl) ?_
          refine lv_bipush (v := nI 24) hx hb dX9_run_56 (by decide) ?_
          refine ln_icmp_ge (tgt := 84) hx hb dX9_run_58 (by decide) (by omega) (by first | decide | omega) (fun h10 => ?_) (fun h10 => ?_)
          · skip
            refine lv_aload_n hx hb dX9_run_84 rfl (lv_at hl 0 rfl) ?_
            refine lv_aload_n hx hb dX9_run_85 rfl (lv_at hl 0 rfl) ?_
            refine mg_arrays C hW q609 dX9_run_86 ?_
            rw [va_up_ne _ _ (by decide)]
            refine ln_top (har) ?_
            refine lv_aload_n hx hb dX9_run_89 rfl (lv_at hl 0 rfl) ?_
            refine mg_nowCounts C hW q606 dX9_run_90 ?_
            rw [va_up_ne _ _ (by decide)]
            refine ln_topb (h19) ?_
            refine lb_if_eq (tgt := 100) hx hb dX9_run_93 (by decide) (fun h11 => ?_) (fun h11 => ?_)
            · skip
              refine lv_iconst (v := nI 1) hx hb dX9_run_100 (by decide) ?_
              refine ln_iadd hx hb dX9_run_101 ?_
              refine mp_made C hW q611 dX9_run_102 (fun H locs hW => ?_)
              refine lv_aload_n hx hb dX9_run_105 rfl (lv_at hl 0 rfl) ?_
              refine lv_dup hx hb dX9_run_106 rfl ?_
              refine mg_runs C hW q612 dX9_run_107 ?_
              rw [va_up_ne _ _ (by decide)]
              rw [va_up_ne _ _ (by decide)]
              refine lv_iconst (v := nI 1) hx hb dX9_run_110 (by decide) ?_
              refine lv_iadd hx hb dX9_run_111 ?_
              refine mp_runs C hW q612 dX9_run_112 (fun H locs hW => ?_)
              refine lv_aload_n hx hb dX9_run_115 rfl (lv_at hl 0 rfl) ?_
              refine mg_nowShape C hW q602 dX9_run_116 ?_
              rw [va_up_ne _ _ (by decide)]
              rw [va_up_ne _ _ (by decide)]
              rw [va_up_ne _ _ (by decide)]
              refine ln_top (h15) ?_
              refine ar_callS (As := [.int (nI ((zTs sv t).2))]) (rest := []) C hW (c_X9_count hl9 _ ((zTs sv t).2) (by omega)) q709 q710 q6 q711 hd_X9_count ⟨Nat.le_of_ble_eq_true rfl, Nat.le_of_ble_eq_true rfl⟩ hl.1 (Nat.le_of_ble_eq_true rfl) rfl dX9_run_119 (fun _ _ _ _ _ _ hp => hp.elim) (fun v9 u9 H locs hp hW => ?_)
              obtain ⟨rfl, hu9⟩ := hp
              rw [hu9] at hW
              refine W.eq (g2 := F0 m 122 ls [.int (nI (zCt ((zTs sv t).2)))]) rfl ?_
              refine ar_iret C hr hW dX9_run_122 ?_
              refine Or.inr (Or.inr ⟨t, j, rfl, hj8, hZ, hz, hg, rfl, rfl, by show nI _ = _; rw [h11]; rfl, congrArg (fun z => z + nI 1) (hfw.2.2 25 (Or.inr (Or.inr (by decide)))), hfw.2.2 1 (Or.inl (by decide)), hfw.1 1 (by decide), fun i hi hij => ?_, ?_, fun i hi hij q hq => ?_, fun q hq => ?_⟩)
              · show va_up a3 2 (va_up (a3 2) j (nI (zTs sv t).2)) 2 i = a 2 i
                rw [va_up_self, va_up_ne _ _ hij]
                exact congrFun (hfw.1 2 (by decide)) i
              · show va_up a3 2 (va_up (a3 2) j (nI (zTs sv t).2)) 2 j = nI (zTs sv t).2
                rw [va_up_self, va_up_self]
              · show va_up d3 3 f 3 (24 * i + q) = d 3 (24 * i + q)
                rw [va_up_self, hf.2 _ (by omega)]
                exact congrFun hfw.2.1 _
              · show va_up d3 3 f 3 (24 * j + q) = _
                rw [va_up_self, hf.1 q (by omega)]
                exact (hvl.2.2.1 rfl q hq).1
            · skip
              refine lv_iconst (v := nI 0) hx hb dX9_run_96 (by decide) ?_
              refine lv_goto (tgt := 101) hx hb dX9_run_97 (by decide) ?_
              refine ln_iadd hx hb dX9_run_101 ?_
              refine mp_made C hW q611 dX9_run_102 (fun H locs hW => ?_)
              refine lv_aload_n hx hb dX9_run_105 rfl (lv_at hl 0 rfl) ?_
              refine lv_dup hx hb dX9_run_106 rfl ?_
              refine mg_runs C hW q612 dX9_run_107 ?_
              rw [va_up_ne _ _ (by decide)]
              rw [va_up_ne _ _ (by decide)]
              refine lv_iconst (v := nI 1) hx hb dX9_run_110 (by decide) ?_
              refine lv_iadd hx hb dX9_run_111 ?_
              refine mp_runs C hW q612 dX9_run_112 (fun H locs hW => ?_)
              refine lv_aload_n hx hb dX9_run_115 rfl (lv_at hl 0 rfl) ?_
              refine mg_nowShape C hW q602 dX9_run_116 ?_
              rw [va_up_ne _ _ (by decide)]
              rw [va_up_ne _ _ (by decide)]
              rw [va_up_ne _ _ (by decide)]
              refine ln_top (h15) ?_
              refine ar_callS (As := [.int (nI ((zTs sv t).2))]) (rest := []) C hW (c_X9_count hl9 _ ((zTs sv t).2) (by omega)) q709 q710 q6 q711 hd_X9_count ⟨Nat.le_of_ble_eq_true rfl, Nat.le_of_ble_eq_true rfl⟩ hl.1 (Nat.le_of_ble_eq_true rfl) rfl dX9_run_119 (fun _ _ _ _ _ _ hp => hp.elim) (fun v9 u9 H locs hp hW => ?_)
              obtain ⟨rfl, hu9⟩ := hp
              rw [hu9] at hW
              refine W.eq (g2 := F0 m 122 ls [.int (nI (zCt ((zTs sv t).2)))]) rfl ?_
              refine ar_iret C hr hW dX9_run_122 ?_
              refine Or.inr (Or.inr ⟨t, j, rfl, hj8, hZ, hz, hg, rfl, rfl, by show nI _ = _; rw [h11]; rfl, congrArg (fun z => z + nI 1) (hfw.2.2 25 (Or.inr (Or.inr (by decide)))), hfw.2.2 1 (Or.inl (by decide)), hfw.1 1 (by decide), fun i hi hij => ?_, ?_, fun i hi hij q hq => ?_, fun q hq => ?_⟩)
              · show va_up a3 2 (va_up (a3 2) j (nI (zTs sv t).2)) 2 i = a 2 i
                rw [va_up_self, va_up_ne _ _ hij]
                exact congrFun (hfw.1 2 (by decide)) i
              · show va_up a3 2 (va_up (a3 2) j (nI (zTs sv t).2)) 2 j = nI (zTs sv t).2
                rw [va_up_self, va_up_self]
              · show va_up d3 3 f 3 (24 * i + q) = d 3 (24 * i + q)
                rw [va_up_self, hf.2 _ (by omega)]
                exact congrFun hfw.2.1 _
              · show va_up d3 3 f 3 (24 * j + q) = _
                rw [va_up_self, hf.1 q (by omega)]
                exact (hvl.2.2.1 rfl q hq).1
          · skip
            refine lv_aload_n hx hb dX9_run_61 rfl (lv_at hl 0 rfl) ?_
            refine mg_cells C hW q590 dX9_run_62 ?_
            refine lv_bipush (v := nI 24) hx hb dX9_run_65 (by decide) ?_
            refine lv_iload_n hx hb dX9_run_67 rfl (lv_at hl 1 rfl) ?_
            refine ln_imul hx hb dX9_run_68 ?_
            refine lv_iload_n hx hb dX9_run_69 rfl (lv_at hl 3 rfl) ?_
            refine ln_iadd hx hb dX9_run_70 ?_
            refine lv_aload_n hx hb dX9_run_71 rfl (lv_at hl 0 rfl) ?_
            refine mg_now C hW q597 dX9_run_72 ?_
            refine lv_iload_n hx hb dX9_run_75 rfl (lv_at hl 3 rfl) ?_
            refine ml_now (j := k) C hW (by omega) dX9_run_76 ?_
            rw [va_up_ne _ _ (by omega)]
            refine ms_cells (j := (24 * j) + k) C hW (by omega) dX9_run_77 (fun H locs hW => ?_)
            simp only [bx_uu, va_up_self] at hW
            refine ln_iinc (k := 3) (n := 1) (lv' := [(3, .int (nI (k + 1))), (0, .ref (ad 0)), (1, .int (nI j)), (2, .int (nI 0))]) hx hb dX9_run_78 hl rfl (by decide) rfl (fun ls hl => ?_)
            refine lv_goto (tgt := 55) hx hb dX9_run_81 (by decide) ?_
            exact ihlp (k + 1) (va_up f (24 * j + k) (d3 8 k)) _ _ _ (by omega) (by omega) (zFill10 hf) (hW) (lv_sub hl [1, 2, 3, 0] rfl)
      exact lp _ 0 (d3 3) _ _ _ (Nat.lt_succ_self _) (Nat.zero_le _) (⟨fun q hq => absurd hq (Nat.not_lt_zero _), fun _ _ => rfl⟩) (by rw [va_up_id]; exact hW) (lv_sub hl [2, 3, 1, 0] rfl)
  · skip
    refine lv_iconst (v := nI 0) hx hb dX9_run_15 (by decide) ?_
    exact ar_iret C hr hW dX9_run_16 (Or.inl ⟨(zIn_v v).symm.trans h1, rfl, rfl⟩)
theorem hd_X9_look : yX9_look.cls ≠ "java/lang/invoke/MethodHandle" ∧ yX9_look.cls ≠ "java/lang/invoke/VarHandle" ∧ (parseMethodDescriptor yX9_look.desc).map (fun d => d.parameters.length) = some 0 := by decide +kernel
set_option maxHeartbeats 4000000 in
set_option maxRecDepth 100000 in
theorem c_X9_look {l : Launch} (hl9 : l.stackTraces = false) {D : va_G} {ct : Nat → ClassId} {ad : Nat → Nat} (g : Nat → Int32) (a : Nat → Nat → Int32) (d : Nat → Nat → UInt64) (n : Nat) (tx : Nat → Nat) (hn : n ≤ 40) (hlen : g 1 = nI n) (htx : ∀ j, j < n → a 1 j = nI (tx j)) (hcx : ∀ j, j < n → 1 ≤ tx j ∧ tx j ≤ 127) (sv : Nat → Nat) (hsv : ∀ j, j < 8 → a 2 j = nI (sv j) ∧ zOk (sv j) = true) (hvr : ∀ j, j < 8 → ∀ q, q < zCt (sv j) → zRg (d 3 (24 * j + q)) = true) : ar_M l yX9_look cX9_look 2 (some .int) 6 139 D ct (mL ad ct) [.ref (ad 0)] (g, a, d) (fun v9 u9 => (∃ e : Nat, e ≠ 0 ∧ e < 4 ∧ zCd sv (fun j q => d 3 (24 * j + q)) (zTree (zCh tx n) n) e ∧ v9 = some (.int (nI 0)) ∧ u9.1 26 = nI e ∧ zFz (g, a, d) u9) ∨ (∃ t : zTr, zTree (zCh tx n) n = some t ∧ (zTs sv t).1 = 0 ∧ v9 = some (.int (nI (zTs sv t).2)) ∧ u9.1 26 = nI 0 ∧ zFz (g, a, d) u9)) (fun _ _ => False) := by
  refine ar_ofW hl9 (by decide) (Nat.le_of_ble_eq_true rfl) ?_
  intro p e s m below meth c A ls C hr hnm hW hl
  have hx := C.1
  have hb := C.2.1
  have hown := C.2.2.2.1
  have hts := C.2.2.2.2.1
  have hl : lv_has ls 2 [(0, .ref (ad 0))] := hl
  refine lv_aload_n hx hb dX9_look_0 rfl (lv_at hl 0 rfl) ?_
  refine ar_callV (q0 := 0) (ci := 7) (T9 := TX9) (N9 := 27) (As := []) (rest := []) C hW (c_X9_work hl9 g a d n tx hn hlen htx hcx sv hsv hvr) (rfl) rfl q728 q730 qs2 q6 q731 hd_X9_work ⟨Nat.le_of_ble_eq_true rfl, Nat.le_of_ble_eq_true rfl⟩ hl.1 (Nat.le_of_ble_eq_true rfl) rfl dX9_look_1 (fun _ _ _ _ _ _ hp => hp.elim) (fun v9 u9 H locs hp hW => ?_)
  obtain ⟨g3, a3, d3⟩ := u9
  have hfw := hp.1
  rcases zWo_c hp with ⟨hZ, rfl⟩ | ⟨t, hZ, hz, rfl⟩ | ⟨t, hZ, hz, hg, rfl, h15⟩ | ⟨t, hZ, hz, hg, rfl, har, hvl⟩
  · skip
    refine W.eq (g2 := F0 m 4 ls [.int (nI 1)]) rfl ?_
    refine lv_istore_n (lv' := [(1, .int (nI 1)), (0, .ref (ad 0))]) hx hb dX9_look_4 rfl hl (by decide) rfl (fun ls hl => ?_)
    refine lv_aload_n hx hb dX9_look_5 rfl (lv_at hl 1 rfl) ?_
    refine lv_iload_n hx hb dX9_look_6 rfl (lv_at hl 0 rfl) ?_
    refine lv_iconst (v := nI 4) hx hb dX9_look_7 (by decide) ?_
    refine ln_icmp_ge (tgt := 15) hx hb dX9_look_8 (by decide) (by decide) (by decide) (fun h1 => absurd h1 (by decide)) (fun _ => ?_)
    refine lv_iload_n hx hb dX9_look_11 rfl (lv_at hl 0 rfl) ?_
    refine lv_goto (tgt := 16) hx hb dX9_look_12 (by decide) ?_
    refine mp_thrown C hW q613 dX9_look_16 (fun H locs hW => ?_)
    refine lv_aload_n hx hb dX9_look_19 rfl (lv_at hl 1 rfl) ?_
    refine mg_thrown C hW q613 dX9_look_20 ?_
    rw [va_up_self]
    refine ln_if_le (tgt := 30) hx hb dX9_look_23 (by decide) (by decide) (fun h2 => absurd h2 (by decide)) (fun _ => ?_)
    refine lv_iconst (v := nI 0) hx hb dX9_look_26 (by decide) ?_
    refine lv_goto (tgt := 34) hx hb dX9_look_27 (by decide) ?_
    exact ar_iret C hr hW dX9_look_34 (Or.inl ⟨1, by omega, by omega, Or.inl ⟨hZ, rfl⟩, rfl, rfl, zFz_l hfw⟩)
  · skip
    have hzl := zTs_le (sv := sv) t
    refine W.eq (g2 := F0 m 4 ls [.int (nI (1 + (zTs sv t).1))]) rfl ?_
    refine lv_istore_n (lv' := [(1, .int (nI (1 + (zTs sv t).1))), (0, .ref (ad 0))]) hx hb dX9_look_4 rfl hl (by decide) rfl (fun ls hl => ?_)
    refine lv_aload_n hx hb dX9_look_5 rfl (lv_at hl 1 rfl) ?_
    refine lv_iload_n hx hb dX9_look_6 rfl (lv_at hl 0 rfl) ?_
    refine lv_iconst (v := nI 4) hx hb dX9_look_7 (by decide) ?_
    refine ln_icmp_ge (tgt := 15) hx hb dX9_look_8 (by decide) (by omega) (by first | decide | omega) (fun h3 => ?_) (fun h3 => ?_)
    · skip
      exfalso; omega
    · skip
      refine lv_iload_n hx hb dX9_look_11 rfl (lv_at hl 0 rfl) ?_
      refine lv_goto (tgt := 16) hx hb dX9_look_12 (by decide) ?_
      refine mp_thrown C hW q613 dX9_look_16 (fun H locs hW => ?_)
      refine lv_aload_n hx hb dX9_look_19 rfl (lv_at hl 1 rfl) ?_
      refine mg_thrown C hW q613 dX9_look_20 ?_
      rw [va_up_self]
      refine ln_if_le (tgt := 30) hx hb dX9_look_23 (by decide) (by omega) (fun h4 => ?_) (fun h4 => ?_)
      · skip
        exfalso; omega
      · skip
        refine lv_iconst (v := nI 0) hx hb dX9_look_26 (by decide) ?_
        refine lv_goto (tgt := 34) hx hb dX9_look_27 (by decide) ?_
        exact ar_iret C hr hW dX9_look_34 (Or.inl ⟨1 + (zTs sv t).1, by omega, by omega, Or.inr (Or.inl ⟨t, hZ, hz, rfl⟩), rfl, rfl, zFz_l hfw⟩)
  · skip
    have h15 : g3 15 = nI (zTs sv t).2 := h15
    refine W.eq (g2 := F0 m 4 ls [.int (nI 4)]) rfl ?_
    refine lv_istore_n (lv' := [(1, .int (nI 4)), (0, .ref (ad 0))]) hx hb dX9_look_4 rfl hl (by decide) rfl (fun ls hl => ?_)
    refine lv_aload_n hx hb dX9_look_5 rfl (lv_at hl 1 rfl) ?_
    refine lv_iload_n hx hb dX9_look_6 rfl (lv_at hl 0 rfl) ?_
    refine lv_iconst (v := nI 4) hx hb dX9_look_7 (by decide) ?_
    refine ln_icmp_ge (tgt := 15) hx hb dX9_look_8 (by decide) (by decide) (by decide) (fun _ => ?_) (fun h5 => absurd h5 (by decide))
    refine lv_iconst (v := nI 0) hx hb dX9_look_15 (by decide) ?_
    refine mp_thrown C hW q613 dX9_look_16 (fun H locs hW => ?_)
    refine lv_aload_n hx hb dX9_look_19 rfl (lv_at hl 1 rfl) ?_
    refine mg_thrown C hW q613 dX9_look_20 ?_
    rw [va_up_self]
    refine ln_if_le (tgt := 30) hx hb dX9_look_23 (by decide) (by decide) (fun _ => ?_) (fun h6 => absurd h6 (by decide))
    refine lv_aload_n hx hb dX9_look_30 rfl (lv_at hl 1 rfl) ?_
    refine mg_nowShape C hW q602 dX9_look_31 ?_
    rw [va_up_ne _ _ (by decide)]
    refine ln_top (h15) ?_
    exact ar_iret C hr hW dX9_look_34 (Or.inr ⟨t, hZ, hz, rfl, rfl, zFz_l hfw⟩)
  · skip
    have h15 : g3 15 = nI (zTs sv t).2 := hvl.1
    have har : g3 22 = nI (zAr t) := har
    have h19 : g3 19 = bI (zMr t) := hvl.2.2.2.2.2
    have hdz := zOk_num hvl.2.1
    refine W.eq (g2 := F0 m 4 ls [.int (nI 0)]) rfl ?_
    refine lv_istore_n (lv' := [(1, .int (nI 0)), (0, .ref (ad 0))]) hx hb dX9_look_4 rfl hl (by decide) rfl (fun ls hl => ?_)
    refine lv_aload_n hx hb dX9_look_5 rfl (lv_at hl 1 rfl) ?_
    refine lv_iload_n hx hb dX9_look_6 rfl (lv_at hl 0 rfl) ?_
    refine lv_iconst (v := nI 4) hx hb dX9_look_7 (by decide) ?_
    refine ln_icmp_ge (tgt := 15) hx hb dX9_look_8 (by decide) (by decide) (by decide) (fun h7 => absurd h7 (by decide)) (fun _ => ?_)
    refine lv_iload_n hx hb dX9_look_11 rfl (lv_at hl 0 rfl) ?_
    refine lv_goto (tgt := 16) hx hb dX9_look_12 (by decide) ?_
    refine mp_thrown C hW q613 dX9_look_16 (fun H locs hW => ?_)
    refine lv_aload_n hx hb dX9_look_19 rfl (lv_at hl 1 rfl) ?_
    refine mg_thrown C hW q613 dX9_look_20 ?_
    rw [va_up_self]
    refine ln_if_le (tgt := 30) hx hb dX9_look_23 (by decide) (by decide) (fun _ => ?_) (fun h8 => absurd h8 (by decide))
    refine lv_aload_n hx hb dX9_look_30 rfl (lv_at hl 1 rfl) ?_
    refine mg_nowShape C hW q602 dX9_look_31 ?_
    rw [va_up_ne _ _ (by decide)]
    refine ln_top (h15) ?_
    exact ar_iret C hr hW dX9_look_34 (Or.inr ⟨t, hZ, hz, rfl, rfl, zFz_l hfw⟩)
