theorem hd_X9_write : yX9_write.cls ≠ "java/lang/invoke/MethodHandle" ∧ yX9_write.cls ≠ "java/lang/invoke/VarHandle" ∧ (parseMethodDescriptor yX9_write.desc).map (fun d => d.parameters.length) = some 1 := by decide +kernel
set_option maxHeartbeats 4000000 in
set_option maxRecDepth 100000 in
theorem c_X9_write {l : Launch} (hl9 : l.stackTraces = false) {D : va_G} {ct : Nat → ClassId} {ad : Nat → Nat} (g : Nat → Int32) (a : Nat → Nat → Int32) (d : Nat → Nat → UInt64) (x : Int64) (n : Nat) (hn : n ≤ 40) (hlen : g 1 = nI n) : ar_M l yX9_write cX9_write 6 (some .int) 0 0 D ct (mL ad ct) [.ref (ad 0), .long x] (g, a, d) (fun v9 u9 => (zWr x n = none ∧ v9 = some (.int (-1)) ∧ u9 = (va_up g 26 (nI 0), a, d)) ∨ (∃ cnt : Nat, zWr x n = some cnt ∧ v9 = some (.int (nI cnt)) ∧ u9 = (va_up (va_up g 26 (nI 0)) 1 (nI (n + cnt)), va_up a 1 (zAp (a 1) x n cnt), d))) (fun _ _ => False) := by
  refine ar_ofW hl9 (by decide) (Nat.le_of_ble_eq_true rfl) ?_
  intro p e s m below meth c A ls C hr hnm hW hl
  have hx := C.1
  have hb := C.2.1
  have hown := C.2.2.2.1
  have hts := C.2.2.2.2.1
  have hl : lv_has ls 6 [(0, .ref (ad 0)), (1, .long x)] := hl
  refine lv_aload_n hx hb dX9_write_0 rfl (lv_at hl 0 rfl) ?_
  refine lv_iconst (v := nI 0) hx hb dX9_write_1 (by decide) ?_
  refine mp_thrown C hW q613 dX9_write_2 (fun H locs hW => ?_)
  refine lv_iconst (v := nI 0) hx hb dX9_write_5 (by decide) ?_
  refine lv_istore_n (lv' := [(3, .int (nI 0)), (0, .ref (ad 0)), (1, .long x)]) hx hb dX9_write_6 rfl hl (by decide) rfl (fun ls hl => ?_)
  refine lv_iconst (v := nI 0) hx hb dX9_write_7 (by decide) ?_
  refine lv_istore (lv' := [(4, .int (nI 0)), (3, .int (nI 0)), (0, .ref (ad 0)), (1, .long x)]) hx hb dX9_write_8 hl (by decide) rfl (fun ls hl => ?_)
  have lp : ∀ (N9 : Nat) (k : Nat) (H : Heap) (locs : List Loc) (ls : Array Slot), 8 - k < N9 → (k ≤ 8) → (zCn x 8 0 = zCn x (8 - k) k) → ar_W D A s.heap H locs (mL ad ct (va_up g 26 (nI 0), a, d)) → lv_has ls 6 [(0, .ref (ad 0)), (1, .long x), (3, .int (nI k)), (4, .int (nI k))] → W p l e (ar_rm 0 0) s m [.ref (ad 0), .long x].toArray below meth c H locs 0 0 (ar_E below (ar_Q D ct (mL ad ct) A (fun v9 u9 => (zWr x n = none ∧ v9 = some (.int (-1)) ∧ u9 = (va_up g 26 (nI 0), a, d)) ∨ (∃ cnt : Nat, zWr x n = some cnt ∧ v9 = some (.int (nI cnt)) ∧ u9 = (va_up (va_up g 26 (nI 0)) 1 (nI (n + cnt)), va_up a 1 (zAp (a 1) x n cnt), d))) (fun _ _ => False)) [.ref (ad 0), .long x].toArray s) (F0 m 10 ls []) := by
    intro N9
    induction N9 with
    | zero =>
      intro k H locs ls hN9
      exact absurd hN9 (Nat.not_lt_zero _)
    | succ N9 ihlp =>
      intro k H locs ls hN9 hk hc hW hl
      refine lv_iload hx hb dX9_write_10 (lv_at hl 3 rfl) ?_
      refine lv_bipush (v := nI 8) hx hb dX9_write_12 (by decide) ?_
      refine ln_icmp_ge (tgt := 57) hx hb dX9_write_14 (by decide) (by first | omega | (have := zBy_lt x k; omega)) (by first | decide | omega) (fun h1 => ?_) (fun h1 => ?_)
      · skip
        have hcn : zCn x 8 0 = some k := by rw [hc, show k = 8 by omega]; rfl
        obtain ⟨-, hcl, hby⟩ := zCn_ok 8 0 k hcn
        refine lv_aload_n hx hb dX9_write_57 rfl (lv_at hl 0 rfl) ?_
        refine mg_length C hW q588 dX9_write_58 ?_
        rw [va_up_ne _ _ (by decide)]
        refine ln_top (hlen) ?_
        refine lv_iload_n hx hb dX9_write_61 rfl (lv_at hl 2 rfl) ?_
        refine ln_iadd hx hb dX9_write_62 ?_
        refine lv_bipush (v := nI 40) hx hb dX9_write_63 (by decide) ?_
        refine ln_icmp_le (tgt := 70) hx hb dX9_write_65 (by decide) (by first | omega | (have := zBy_lt x k; omega)) (by first | decide | omega) (fun h2 => ?_) (fun h2 => ?_)
        · skip
          refine lv_iconst (v := nI 0) hx hb dX9_write_70 (by decide) ?_
          refine lv_istore (lv' := [(4, .int (nI 0)), (0, .ref (ad 0)), (1, .long x), (3, .int (nI k))]) hx hb dX9_write_71 hl (by decide) rfl (fun ls hl => ?_)
          have lq : ∀ (N9 : Nat) (j : Nat) (f : Nat → Int32) (H : Heap) (locs : List Loc) (ls : Array Slot), k - j < N9 → (j ≤ k) → (f = zAp (a 1) x n j) → ar_W D A s.heap H locs (mL ad ct (va_up g 26 (nI 0), va_up a 1 f, d)) → lv_has ls 6 [(0, .ref (ad 0)), (1, .long x), (3, .int (nI k)), (4, .int (nI j))] → W p l e (ar_rm 0 0) s m [.ref (ad 0), .long x].toArray below meth c H locs 0 0 (ar_E below (ar_Q D ct (mL ad ct) A (fun v9 u9 => (zWr x n = none ∧ v9 = some (.int (-1)) ∧ u9 = (va_up g 26 (nI 0), a, d)) ∨ (∃ cnt : Nat, zWr x n = some cnt ∧ v9 = some (.int (nI cnt)) ∧ u9 = (va_up (va_up g 26 (nI 0)) 1 (nI (n + cnt)), va_up a 1 (zAp (a 1) x n cnt), d))) (fun _ _ => False)) [.ref (ad 0), .long x].toArray s) (F0 m 73 ls []) := by
            intro N9
            induction N9 with
            | zero =>
              intro j f H locs ls hN9
              exact absurd hN9 (Nat.not_lt_zero _)
            | succ N9 ihlq =>
              intro j f H locs ls hN9 hj hf hW hl
              refine lv_iload hx hb dX9_write_73 (lv_at hl 3 rfl) ?_
              refine lv_iload_n hx hb dX9_write_75 rfl (lv_at hl 2 rfl) ?_
              refine ln_icmp_ge (tgt := 108) hx hb dX9_write_76 (by decide) (by first | omega | (have := zBy_lt x k; omega)) (by first | decide | omega) (fun h3 => ?_) (fun h3 => ?_)
              · skip
                refine lv_aload_n hx hb dX9_write_108 rfl (lv_at hl 0 rfl) ?_
                refine lv_dup hx hb dX9_write_109 rfl ?_
                refine mg_length C hW q588 dX9_write_110 ?_
                rw [va_up_ne _ _ (by decide)]
                refine ln_top (hlen) ?_
                refine lv_iload_n hx hb dX9_write_113 rfl (lv_at hl 2 rfl) ?_
                refine ln_iadd hx hb dX9_write_114 ?_
                refine mp_length C hW q588 dX9_write_115 (fun H locs hW => ?_)
                refine lv_iload_n hx hb dX9_write_118 rfl (lv_at hl 2 rfl) ?_
                exact ar_iret C hr hW dX9_write_119 (Or.inr ⟨k, by unfold zWr; rw [hcn]; exact if_pos (by omega), rfl, by rw [hf, show j = k by omega]⟩)
              · skip
                refine lv_aload_n hx hb dX9_write_79 rfl (lv_at hl 0 rfl) ?_
                refine mg_text C hW q587 dX9_write_80 ?_
                refine lv_aload_n hx hb dX9_write_83 rfl (lv_at hl 0 rfl) ?_
                refine mg_length C hW q588 dX9_write_84 ?_
                rw [va_up_ne _ _ (by decide)]
                refine ln_top (hlen) ?_
                refine lv_iload hx hb dX9_write_87 (lv_at hl 3 rfl) ?_
                refine ln_iadd hx hb dX9_write_89 ?_
                refine lv_lload_n hx hb dX9_write_90 rfl (lv_at hl 1 rfl) ?_
                refine lv_bipush (v := nI 8) hx hb dX9_write_91 (by decide) ?_
                refine lv_iload hx hb dX9_write_93 (lv_at hl 3 rfl) ?_
                refine ln_imul hx hb dX9_write_95 ?_
                refine lv_lshr hx hb dX9_write_96 rfl ?_
                refine lv_l2i hx hb dX9_write_97 rfl ?_
                refine lv_bipush (v := nI 127) hx hb dX9_write_98 (by decide) ?_
                refine lv_iand hx hb dX9_write_100 ?_
                rw [zBy_b x j (by omega) (by have := hby j (by omega) (by omega); omega)]
                refine ms_text (j := n + j) C hW (by omega) dX9_write_101 (fun H locs hW => ?_)
                simp only [bx_uu, va_up_self] at hW
                refine ln_iinc (k := 3) (n := 1) (lv' := [(4, .int (nI (j + 1))), (0, .ref (ad 0)), (1, .long x), (3, .int (nI k))]) hx hb dX9_write_102 hl rfl (by decide) rfl (fun ls hl => ?_)
                refine lv_goto (tgt := 73) hx hb dX9_write_105 (by decide) ?_
                exact ihlq (j + 1) (va_up f (n + j) (nI (zBy x j))) _ _ _ (by omega) (by omega) (zAp_s hf) (hW) (lv_sub hl [1, 2, 3, 0] rfl)
          exact lq _ 0 (a 1) _ _ _ (Nat.lt_succ_self _) (by omega) (zAp_0) (by rw [va_up_id]; exact hW) (lv_sub hl [1, 2, 3, 0] rfl)
        · skip
          refine lv_iconst (v := -1) hx hb dX9_write_68 (by decide) ?_
          exact ar_iret C hr hW dX9_write_69 (Or.inl ⟨by unfold zWr; rw [hcn]; exact if_neg (by omega), rfl, rfl⟩)
      · skip
        refine lv_lload_n hx hb dX9_write_17 rfl (lv_at hl 1 rfl) ?_
        refine lv_bipush (v := nI 8) hx hb dX9_write_18 (by decide) ?_
        refine lv_iload hx hb dX9_write_20 (lv_at hl 3 rfl) ?_
        refine ln_imul hx hb dX9_write_22 ?_
        refine lv_lshr hx hb dX9_write_23 rfl ?_
        refine lv_l2i hx hb dX9_write_24 rfl ?_
        refine lv_sipush (v := nI 255) hx hb dX9_write_25 (by decide) ?_
        refine lv_iand hx hb dX9_write_28 ?_
        rw [zBy_a x k (by omega)]
        refine lv_istore (lv' := [(5, .int (nI (zBy x k))), (0, .ref (ad 0)), (1, .long x), (3, .int (nI k)), (4, .int (nI k))]) hx hb dX9_write_29 hl (by decide) rfl (fun ls hl => ?_)
        refine lv_iload hx hb dX9_write_31 (lv_at hl 0 rfl) ?_
        refine ln_if_ne (tgt := 39) hx hb dX9_write_33 (by decide) (by first | omega | (have := zBy_lt x k; omega)) (fun h4 => ?_) (fun h4 => ?_)
        · skip
          have h2 := h4
          refine lv_iload hx hb dX9_write_39 (lv_at hl 0 rfl) ?_
          refine lv_bipush (v := nI 127) hx hb dX9_write_41 (by decide) ?_
          refine ln_icmp_le (tgt := 48) hx hb dX9_write_43 (by decide) (by first | omega | (have := zBy_lt x k; omega)) (by first | decide | omega) (fun h5 => ?_) (fun h5 => ?_)
          · skip
            refine ln_iinc (k := 3) (n := 1) (lv' := [(3, .int (nI (k + 1))), (5, .int (nI (zBy x k))), (0, .ref (ad 0)), (1, .long x), (4, .int (nI k))]) hx hb dX9_write_48 hl rfl (by decide) rfl (fun ls hl => ?_)
            refine ln_iinc (k := 4) (n := 1) (lv' := [(4, .int (nI (k + 1))), (3, .int (nI (k + 1))), (5, .int (nI (zBy x k))), (0, .ref (ad 0)), (1, .long x)]) hx hb dX9_write_51 hl rfl (by decide) rfl (fun ls hl => ?_)
            refine lv_goto (tgt := 10) hx hb dX9_write_54 (by decide) ?_
            exact ihlp (k + 1) _ _ _ (by omega) (by omega) (by rw [hc, zCn_s h1, if_neg h2, if_neg (by omega)]) (hW) (lv_sub hl [3, 4, 1, 0] rfl)
          · skip
            refine lv_iconst (v := -1) hx hb dX9_write_46 (by decide) ?_
            exact ar_iret C hr hW dX9_write_47 (Or.inl ⟨by unfold zWr; rw [show zCn x 8 0 = none by rw [hc, zCn_s h1, if_neg h2, if_pos (by omega)]], rfl, rfl⟩)
        · skip
          have h2 := h4
          have hcn : zCn x 8 0 = some k := by rw [hc, zCn_s h1, if_pos h2]
          refine lv_goto (tgt := 57) hx hb dX9_write_36 (by decide) ?_
          obtain ⟨-, hcl, hby⟩ := zCn_ok 8 0 k hcn
          refine lv_aload_n hx hb dX9_write_57 rfl (lv_at hl 1 rfl) ?_
          refine mg_length C hW q588 dX9_write_58 ?_
          rw [va_up_ne _ _ (by decide)]
          refine ln_top (hlen) ?_
          refine lv_iload_n hx hb dX9_write_61 rfl (lv_at hl 3 rfl) ?_
          refine ln_iadd hx hb dX9_write_62 ?_
          refine lv_bipush (v := nI 40) hx hb dX9_write_63 (by decide) ?_
          refine ln_icmp_le (tgt := 70) hx hb dX9_write_65 (by decide) (by first | omega | (have := zBy_lt x k; omega)) (by first | decide | omega) (fun h6 => ?_) (fun h6 => ?_)
          · skip
            refine lv_iconst (v := nI 0) hx hb dX9_write_70 (by decide) ?_
            refine lv_istore (lv' := [(4, .int (nI 0)), (5, .int (nI (zBy x k))), (0, .ref (ad 0)), (1, .long x), (3, .int (nI k))]) hx hb dX9_write_71 hl (by decide) rfl (fun ls hl => ?_)
            have lq : ∀ (N9 : Nat) (j : Nat) (f : Nat → Int32) (H : Heap) (locs : List Loc) (ls : Array Slot), k - j < N9 → (j ≤ k) → (f = zAp (a 1) x n j) → ar_W D A s.heap H locs (mL ad ct (va_up g 26 (nI 0), va_up a 1 f, d)) → lv_has ls 6 [(0, .ref (ad 0)), (1, .long x), (3, .int (nI k)), (4, .int (nI j))] → W p l e (ar_rm 0 0) s m [.ref (ad 0), .long x].toArray below meth c H locs 0 0 (ar_E below (ar_Q D ct (mL ad ct) A (fun v9 u9 => (zWr x n = none ∧ v9 = some (.int (-1)) ∧ u9 = (va_up g 26 (nI 0), a, d)) ∨ (∃ cnt : Nat, zWr x n = some cnt ∧ v9 = some (.int (nI cnt)) ∧ u9 = (va_up (va_up g 26 (nI 0)) 1 (nI (n + cnt)), va_up a 1 (zAp (a 1) x n cnt), d))) (fun _ _ => False)) [.ref (ad 0), .long x].toArray s) (F0 m 73 ls []) := by
              intro N9
              induction N9 with
              | zero =>
                intro j f H locs ls hN9
                exact absurd hN9 (Nat.not_lt_zero _)
              | succ N9 ihlq =>
                intro j f H locs ls hN9 hj hf hW hl
                refine lv_iload hx hb dX9_write_73 (lv_at hl 3 rfl) ?_
                refine lv_iload_n hx hb dX9_write_75 rfl (lv_at hl 2 rfl) ?_
                refine ln_icmp_ge (tgt := 108) hx hb dX9_write_76 (by decide) (by first | omega | (have := zBy_lt x k; omega)) (by first | decide | omega) (fun h7 => ?_) (fun h7 => ?_)
                · skip
                  refine lv_aload_n hx hb dX9_write_108 rfl (lv_at hl 0 rfl) ?_
                  refine lv_dup hx hb dX9_write_109 rfl ?_
                  refine mg_length C hW q588 dX9_write_110 ?_
                  rw [va_up_ne _ _ (by decide)]
                  refine ln_top (hlen) ?_
                  refine lv_iload_n hx hb dX9_write_113 rfl (lv_at hl 2 rfl) ?_
                  refine ln_iadd hx hb dX9_write_114 ?_
                  refine mp_length C hW q588 dX9_write_115 (fun H locs hW => ?_)
                  refine lv_iload_n hx hb dX9_write_118 rfl (lv_at hl 2 rfl) ?_
                  exact ar_iret C hr hW dX9_write_119 (Or.inr ⟨k, by unfold zWr; rw [hcn]; exact if_pos (by omega), rfl, by rw [hf, show j = k by omega]⟩)
                · skip
                  refine lv_aload_n hx hb dX9_write_79 rfl (lv_at hl 0 rfl) ?_
                  refine mg_text C hW q587 dX9_write_80 ?_
                  refine lv_aload_n hx hb dX9_write_83 rfl (lv_at hl 0 rfl) ?_
                  refine mg_length C hW q588 dX9_write_84 ?_
                  rw [va_up_ne _ _ (by decide)]
                  refine ln_top (hlen) ?_
                  refine lv_iload hx hb dX9_write_87 (lv_at hl 3 rfl) ?_
                  refine ln_iadd hx hb dX9_write_89 ?_
                  refine lv_lload_n hx hb dX9_write_90 rfl (lv_at hl 1 rfl) ?_
                  refine lv_bipush (v := nI 8) hx hb dX9_write_91 (by decide) ?_
                  refine lv_iload hx hb dX9_write_93 (lv_at hl 3 rfl) ?_
                  refine ln_imul hx hb dX9_write_95 ?_
                  refine lv_lshr hx hb dX9_write_96 rfl ?_
                  refine lv_l2i hx hb dX9_write_97 rfl ?_
                  refine lv_bipush (v := nI 127) hx hb dX9_write_98 (by decide) ?_
                  refine lv_iand hx hb dX9_write_100 ?_
                  rw [zBy_b x j (by omega) (by have := hby j (by omega) (by omega); omega)]
                  refine ms_text (j := n + j) C hW (by omega) dX9_write_101 (fun H locs hW => ?_)
                  simp only [bx_uu, va_up_self] at hW
                  refine ln_iinc (k := 3) (n := 1) (lv' := [(4, .int (nI (j + 1))), (0, .ref (ad 0)), (1, .long x), (3, .int (nI k))]) hx hb dX9_write_102 hl rfl (by decide) rfl (fun ls hl => ?_)
                  refine lv_goto (tgt := 73) hx hb dX9_write_105 (by decide) ?_
                  exact ihlq (j + 1) (va_up f (n + j) (nI (zBy x j))) _ _ _ (by omega) (by omega) (zAp_s hf) (hW) (lv_sub hl [1, 2, 3, 0] rfl)
            exact lq _ 0 (a 1) _ _ _ (Nat.lt_succ_self _) (by omega) (zAp_0) (by rw [va_up_id]; exact hW) (lv_sub hl [2, 3, 4, 0] rfl)
          · skip
            refine lv_iconst (v := -1) hx hb dX9_write_68 (by decide) ?_
            exact ar_iret C hr hW dX9_write_69 (Or.inl ⟨by unfold zWr; rw [hcn]; exact if_neg (by omega), rfl, rfl⟩)
  exact lp _ 0 _ _ _ (Nat.lt_succ_self _) (by omega) (rfl) (hW) (lv_sub hl [2, 3, 1, 0] rfl)
theorem hd_X9_charAt : yX9_charAt.cls ≠ "java/lang/invoke/MethodHandle" ∧ yX9_charAt.cls ≠ "java/lang/invoke/VarHandle" ∧ (parseMethodDescriptor yX9_charAt.desc).map (fun d => d.parameters.length) = some 1 := by decide +kernel
set_option maxHeartbeats 4000000 in
set_option maxRecDepth 100000 in
theorem c_X9_charAt {l : Launch} (hl9 : l.stackTraces = false) {D : va_G} {ct : Nat → ClassId} {ad : Nat → Nat} (g : Nat → Int32) (a : Nat → Nat → Int32) (d : Nat → Nat → UInt64) (n : Nat) (tx : Nat → Nat) (hn : n ≤ 40) (hlen : g 1 = nI n) (htx : ∀ j, j < n → a 1 j = nI (tx j)) (hcx : ∀ j, j < n → 1 ≤ tx j ∧ tx j ≤ 127) (i : Nat) (hi9 : i < 2 ^ 30) : ar_M l yX9_charAt cX9_charAt 2 (some .int) 0 0 D ct (mL ad ct) [.ref (ad 0), .int (nI i)] (g, a, d) (fun v9 u9 => v9 = some (.int (nI (zCh tx n i))) ∧ u9 = (g, a, d)) (fun _ _ => False) := by
  refine ar_ofW hl9 (by decide) (Nat.le_of_ble_eq_true rfl) ?_
  intro p e s m below meth c A ls C hr hnm hW hl
  have hx := C.1
  have hb := C.2.1
  have hown := C.2.2.2.1
  have hts := C.2.2.2.2.1
  have hl : lv_has ls 2 [(0, .ref (ad 0)), (1, .int (nI i))] := hl
  refine lv_iload_n hx hb dX9_charAt_0 rfl (lv_at hl 1 rfl) ?_
  refine lv_aload_n hx hb dX9_charAt_1 rfl (lv_at hl 0 rfl) ?_
  refine mg_length C hW q588 dX9_charAt_2 ?_
  refine ln_top (hlen) ?_
  refine ln_icmp_ge (tgt := 17) hx hb dX9_charAt_5 (by decide) (by omega) (by omega) (fun h1 => ?_) (fun h1 => ?_)
  · skip
    refine lv_iconst (v := nI 0) hx hb dX9_charAt_17 (by decide) ?_
    exact ar_iret C hr hW dX9_charAt_18 (⟨congrArg (fun z => some (Value.int (nI z))) ((zCh_out h1).symm), rfl⟩)
  · skip
    refine lv_aload_n hx hb dX9_charAt_8 rfl (lv_at hl 0 rfl) ?_
    refine mg_text C hW q587 dX9_charAt_9 ?_
    refine lv_iload_n hx hb dX9_charAt_12 rfl (lv_at hl 1 rfl) ?_
    refine ml_text (j := i) C hW (by omega) dX9_charAt_13 ?_
    refine ln_top (htx i h1) ?_
    refine lv_goto (tgt := 18) hx hb dX9_charAt_14 (by decide) ?_
    exact ar_iret C hr hW dX9_charAt_18 (⟨congrArg (fun z => some (Value.int (nI z))) ((zCh_in h1).symm), rfl⟩)
def zKp (a : Nat → Nat → Int32) (i : Nat) (x y z : Int32) : Nat → Nat → Int32 := va_up (va_up (va_up a 4 (va_up (a 4) i x)) 5 (va_up (a 5) i y)) 6 (va_up (a 6) i z)
theorem hd_X9_keep : yX9_keep.cls ≠ "java/lang/invoke/MethodHandle" ∧ yX9_keep.cls ≠ "java/lang/invoke/VarHandle" ∧ (parseMethodDescriptor yX9_keep.desc).map (fun d => d.parameters.length) = some 3 := by decide +kernel
set_option maxHeartbeats 4000000 in
set_option maxRecDepth 100000 in
theorem c_X9_keep {l : Launch} (hl9 : l.stackTraces = false) {D : va_G} {ct : Nat → ClassId} {ad : Nat → Nat} (g : Nat → Int32) (a : Nat → Nat → Int32) (d : Nat → Nat → UInt64) (i : Nat) (hi : i < 40) (hsy : g 8 = nI i) (x y z : Int32) : ar_M l yX9_keep cX9_keep 4 none 0 0 D ct (mL ad ct) [.ref (ad 0), .int x, .int y, .int z] (g, a, d) (fun v9 u9 => v9 = none ∧ u9 = (va_up g 8 (nI (i + 1)), zKp a i x y z, d)) (fun _ _ => False) := by
  refine ar_ofW hl9 (by decide) (Nat.le_of_ble_eq_true rfl) ?_
  intro p e s m below meth c A ls C hr hnm hW hl
  have hx := C.1
  have hb := C.2.1
  have hown := C.2.2.2.1
  have hts := C.2.2.2.2.1
  have hl : lv_has ls 4 [(0, .ref (ad 0)), (1, .int x), (2, .int y), (3, .int z)] := hl
  refine lv_aload_n hx hb dX9_keep_0 rfl (lv_at hl 0 rfl) ?_
  refine mg_symbol C hW q591 dX9_keep_1 ?_
  refine lv_aload_n hx hb dX9_keep_4 rfl (lv_at hl 0 rfl) ?_
  refine mg_symbols C hW q595 dX9_keep_5 ?_
  refine ln_top (hsy) ?_
  refine lv_iload_n hx hb dX9_keep_8 rfl (lv_at hl 1 rfl) ?_
  refine ms_symbol (j := i) C hW (by omega) dX9_keep_9 (fun H locs hW => ?_)
  refine lv_aload_n hx hb dX9_keep_10 rfl (lv_at hl 0 rfl) ?_
  refine mg_about C hW q592 dX9_keep_11 ?_
  refine lv_aload_n hx hb dX9_keep_14 rfl (lv_at hl 0 rfl) ?_
  refine mg_symbols C hW q595 dX9_keep_15 ?_
  refine ln_top (hsy) ?_
  refine lv_iload_n hx hb dX9_keep_18 rfl (lv_at hl 2 rfl) ?_
  refine ms_about (j := i) C hW (by omega) dX9_keep_19 (fun H locs hW => ?_)
  refine lv_aload_n hx hb dX9_keep_20 rfl (lv_at hl 0 rfl) ?_
  refine mg_many C hW q593 dX9_keep_21 ?_
  refine lv_aload_n hx hb dX9_keep_24 rfl (lv_at hl 0 rfl) ?_
  refine mg_symbols C hW q595 dX9_keep_25 ?_
  refine ln_top (hsy) ?_
  refine lv_iload_n hx hb dX9_keep_28 rfl (lv_at hl 3 rfl) ?_
  refine ms_many (j := i) C hW (by omega) dX9_keep_29 (fun H locs hW => ?_)
  refine lv_aload_n hx hb dX9_keep_30 rfl (lv_at hl 0 rfl) ?_
  refine lv_dup hx hb dX9_keep_31 rfl ?_
  refine mg_symbols C hW q595 dX9_keep_32 ?_
  refine ln_top (hsy) ?_
  refine lv_iconst (v := nI 1) hx hb dX9_keep_35 (by decide) ?_
  refine ln_iadd hx hb dX9_keep_36 ?_
  refine mp_symbols C hW q595 dX9_keep_37 (fun H locs hW => ?_)
  exact ar_vret C hr hW dX9_keep_40 (⟨rfl, rfl⟩)
theorem zDr_c5 {c : Nat → Nat} {d p : Nat} (hd : d < 5) (h : zDg (c p) = true) : zDr c (5 - d) p = 1 + zDr c (5 - (d + 1)) (p + 1) := by
  rw [show 5 - d = (5 - (d + 1)) + 1 by omega, zDr, if_pos h]
theorem zNm_s {c : Nat → Nat} {i k : Nat} (hv : zNm c i k < 10 ^ k) (h : zDg (c (i + k)) = true) : zNm c i (k + 1) < 10 ^ (k + 1) := by
  have := zDg_iff.mp h
  rw [zNm, Nat.pow_succ]
  omega
theorem zDr_45 {c : Nat → Nat} {q : Nat} (h : zDr c 5 q ≠ 5) : zDr c 4 q = zDr c 5 q := by
  have key : ∀ k q, zDr c (k + 1) q ≠ k + 1 → zDr c k q = zDr c (k + 1) q := by
    intro k
    induction k with
    | zero =>
      intro q h
      rw [zDr] at h ⊢
      rw [zDr]
      split at h
      · exact absurd rfl h
      · rw [if_neg (by assumption)]
    | succ k ih =>
      intro q h
      rw [zDr] at h
      rw [zDr, zDr]
      by_cases hd : zDg (c q) = true
      · rw [if_pos hd] at h
        rw [if_pos hd, if_pos hd, ih (q + 1) (by omega)]
      · rw [if_neg hd, if_neg hd]
  exact key 4 q h
theorem zDr_5 {c : Nat → Nat} {q : Nat} (h : zDr c 5 q = 5) : zDr c 4 q = 4 ∧ zDg (c (q + 4)) = true := by
  have key : ∀ k q, zDr c (k + 1) q = k + 1 → zDr c k q = k ∧ zDg (c (q + k)) = true := by
    intro k
    induction k with
    | zero => exact fun q h => ⟨rfl, zDr_dg c 1 q 0 (by have : zDr c 1 q = 1 := h; omega)⟩
    | succ k ih =>
      intro q h
      have h9 := zDr_dg c (k + 1 + 1) q (k + 1) (by omega)
      rw [zDr] at h
      by_cases hd : zDg (c q) = true
      · rw [if_pos hd] at h
        refine ⟨?_, h9⟩
        rw [zDr, if_pos hd, (ih (q + 1) (by omega)).1]
        omega
      · rw [if_neg hd] at h
        omega
  exact key 4 q h
theorem hd_X9_number : yX9_number.cls ≠ "java/lang/invoke/MethodHandle" ∧ yX9_number.cls ≠ "java/lang/invoke/VarHandle" ∧ (parseMethodDescriptor yX9_number.desc).map (fun d => d.parameters.length) = some 1 := by decide +kernel
set_option maxHeartbeats 4000000 in
set_option maxRecDepth 100000 in
theorem c_X9_number {l : Launch} (hl9 : l.stackTraces = false) {D : va_G} {ct : Nat → ClassId} {ad : Nat → Nat} (g : Nat → Int32) (a : Nat → Nat → Int32) (d : Nat → Nat → UInt64) (n : Nat) (tx : Nat → Nat) (hn : n ≤ 40) (hlen : g 1 = nI n) (htx : ∀ j, j < n → a 1 j = nI (tx j)) (hcx : ∀ j, j < n → 1 ≤ tx j ∧ tx j ≤ 127) (i : Nat) (hi9 : i ≤ 41) (nu : Nat) (hnu : nu < 40) (hnc : g 9 = nI nu) : ar_M l yX9_number cX9_number 4 (some .int) 2 42 D ct (mL ad ct) [.ref (ad 0), .int (nI i)] (g, a, d) (fun v9 u9 => (zDr (zCh tx n) 5 i ≠ 0 ∧ zDr (zCh tx n) 5 i ≠ 5 ∧ v9 = some (.int (nI (i + zDr (zCh tx n) 5 i))) ∧ u9 = (va_up g 9 (nI (nu + 1)), va_up a 7 (va_up (a 7) nu (nI (zNm (zCh tx n) i (zDr (zCh tx n) 5 i)))), d)) ∨ ((zDr (zCh tx n) 5 i = 0 ∨ zDr (zCh tx n) 5 i = 5) ∧ v9 = some (.int (-1)) ∧ u9 = (g, a, d))) (fun _ _ => False) := by
  refine ar_ofW hl9 (by decide) (Nat.le_of_ble_eq_true rfl) ?_
  intro p e s m below meth c A ls C hr hnm hW hl
  have hx := C.1
  have hb := C.2.1
  have hown := C.2.2.2.1
  have hts := C.2.2.2.2.1
  have hl : lv_has ls 4 [(0, .ref (ad 0)), (1, .int (nI i))] := hl
  refine lv_iload_n hx hb dX9_number_0 rfl (lv_at hl 1 rfl) ?_
  refine lv_istore_n (lv' := [(2, .int (nI i)), (0, .ref (ad 0)), (1, .int (nI i))]) hx hb dX9_number_1 rfl hl (by decide) rfl (fun ls hl => ?_)
  refine lv_iconst (v := nI 0) hx hb dX9_number_2 (by decide) ?_
  refine lv_istore_n (lv' := [(3, .int (nI 0)), (2, .int (nI i)), (0, .ref (ad 0)), (1, .int (nI i))]) hx hb dX9_number_3 rfl hl (by decide) rfl (fun ls hl => ?_)
  have lp : ∀ (N9 : Nat) (k : Nat) (H : Heap) (locs : List Loc) (ls : Array Slot), 5 - k < N9 → (k ≤ 5) → (zDr (zCh tx n) 5 i = k + zDr (zCh tx n) (5 - k) (i + k)) → (zNm (zCh tx n) i k < 10 ^ k) → ar_W D A s.heap H locs (mL ad ct (g, a, d)) → lv_has ls 4 [(0, .ref (ad 0)), (1, .int (nI i)), (2, .int (nI (i + k))), (3, .int (nI (zNm (zCh tx n) i k)))] → W p l e (ar_rm 2 42) s m [.ref (ad 0), .int (nI i)].toArray below meth c H locs 0 0 (ar_E below (ar_Q D ct (mL ad ct) A (fun v9 u9 => (zDr (zCh tx n) 5 i ≠ 0 ∧ zDr (zCh tx n) 5 i ≠ 5 ∧ v9 = some (.int (nI (i + zDr (zCh tx n) 5 i))) ∧ u9 = (va_up g 9 (nI (nu + 1)), va_up a 7 (va_up (a 7) nu (nI (zNm (zCh tx n) i (zDr (zCh tx n) 5 i)))), d)) ∨ ((zDr (zCh tx n) 5 i = 0 ∨ zDr (zCh tx n) 5 i = 5) ∧ v9 = some (.int (-1)) ∧ u9 = (g, a, d))) (fun _ _ => False)) [.ref (ad 0), .int (nI i)].toArray s) (F0 m 4 ls []) := by
    intro N9
    induction N9 with
    | zero =>
      intro k H locs ls hN9
      exact absurd hN9 (Nat.not_lt_zero _)
    | succ N9 ihlp =>
      intro k H locs ls hN9 hk hz hv hW hl
      refine lv_aload_n hx hb dX9_number_4 rfl (lv_at hl 0 rfl) ?_
      refine lv_iload_n hx hb dX9_number_5 rfl (lv_at hl 2 rfl) ?_
      refine ar_callV (q0 := 0) (ci := 7) (T9 := TX9) (N9 := 27) (As := [.int (nI (i + k))]) (rest := []) C hW (c_X9_charAt hl9 g a d n tx hn hlen htx hcx (i + k) (by omega)) (rfl) rfl q736 q738 qs4 q6 q739 hd_X9_charAt ⟨Nat.le_of_ble_eq_true rfl, Nat.le_of_ble_eq_true rfl⟩ hl.1 (Nat.le_of_ble_eq_true rfl) rfl dX9_number_6 (fun _ _ _ _ _ _ hp => hp.elim) (fun v9 u9 H locs hp hW => ?_)
      obtain ⟨rfl, hu9⟩ := hp
      rw [hu9] at hW
      refine W.eq (g2 := F0 m 9 ls [.int (nI (zCh tx n (i + k)))]) rfl ?_
      refine ar_callS (As := [.int (nI (zCh tx n (i + k)))]) (rest := []) C hW (c_X9_isDigit hl9 _ (nI (zCh tx n (i + k)))) q754 q755 q6 q756 hd_X9_isDigit ⟨Nat.le_of_ble_eq_true rfl, Nat.le_of_ble_eq_true rfl⟩ hl.1 (Nat.le_of_ble_eq_true rfl) rfl dX9_number_9 (fun _ _ _ _ _ _ hp => hp.elim) (fun v9 u9 H locs hp hW => ?_)
      obtain ⟨rfl, hu9⟩ := hp
      rw [hu9] at hW
      refine W.eq (g2 := F0 m 12 ls [.int (bI (zIn (nI (zCh tx n (i + k))) (nI 48) (nI 57)))]) rfl ?_
      refine lb_if_eq (tgt := 43) hx hb dX9_number_12 (by decide) (fun h1 => ?_) (fun h1 => ?_)
      · skip
        rw [zIn_nat (by have := zCh_lt (q := i + k) hcx; omega) (by decide) (by decide)] at h1
        have hdig : zDg (zCh tx n (i + k)) = false := h1
        refine lv_iload_n hx hb dX9_number_43 rfl (lv_at hl 2 rfl) ?_
        refine lv_iload_n hx hb dX9_number_44 rfl (lv_at hl 1 rfl) ?_
        refine ln_icmp_eq (tgt := 55) hx hb dX9_number_45 (by decide) (by omega) (by omega) (fun h2 => ?_) (fun h2 => ?_)
        · skip
          refine lv_iconst (v := -1) hx hb dX9_number_55 (by decide) ?_
          exact ar_iret C hr hW dX9_number_56 ((fun hz9 : zDr (zCh tx n) 5 i = k => Or.inr ⟨by omega, rfl, rfl⟩) (by rw [hz, zDr_x hdig]; rfl))
        · skip
          refine lv_iload_n hx hb dX9_number_48 rfl (lv_at hl 2 rfl) ?_
          refine lv_iload_n hx hb dX9_number_49 rfl (lv_at hl 1 rfl) ?_
          refine ln_isub hx hb dX9_number_50 (by omega) ?_
          refine lv_iconst (v := nI 5) hx hb dX9_number_51 (by decide) ?_
          refine ln_icmp_ne (tgt := 57) hx hb dX9_number_52 (by decide) (by omega) (by omega) (fun h3 => ?_) (fun h3 => ?_)
          · skip
            refine lv_aload_n hx hb dX9_number_57 rfl (lv_at hl 0 rfl) ?_
            refine mg_numbers C hW q594 dX9_number_58 ?_
            refine lv_aload_n hx hb dX9_number_61 rfl (lv_at hl 0 rfl) ?_
            refine mg_numberCount C hW q596 dX9_number_62 ?_
            refine ln_top (hnc) ?_
            refine lv_iload_n hx hb dX9_number_65 rfl (lv_at hl 3 rfl) ?_
            refine ms_numbers (j := nu) C hW (by omega) dX9_number_66 (fun H locs hW => ?_)
            refine lv_aload_n hx hb dX9_number_67 rfl (lv_at hl 0 rfl) ?_
            refine lv_dup hx hb dX9_number_68 rfl ?_
            refine mg_numberCount C hW q596 dX9_number_69 ?_
            refine ln_top (hnc) ?_
            refine lv_iconst (v := nI 1) hx hb dX9_number_72 (by decide) ?_
            refine ln_iadd hx hb dX9_number_73 ?_
            refine mp_numberCount C hW q596 dX9_number_74 (fun H locs hW => ?_)
            refine lv_iload_n hx hb dX9_number_77 rfl (lv_at hl 2 rfl) ?_
            exact ar_iret C hr hW dX9_number_78 ((fun hz9 : zDr (zCh tx n) 5 i = k => Or.inl ⟨by omega, by omega, by rw [hz9], by rw [hz9]⟩) (by rw [hz, zDr_x hdig]; rfl))
          · skip
            refine lv_iconst (v := -1) hx hb dX9_number_55 (by decide) ?_
            exact ar_iret C hr hW dX9_number_56 ((fun hz9 : zDr (zCh tx n) 5 i = k => Or.inr ⟨by omega, rfl, rfl⟩) (by rw [hz, zDr_x hdig]; rfl))
      · skip
        rw [zIn_nat (by have := zCh_lt (q := i + k) hcx; omega) (by decide) (by decide)] at h1
        have hdig : zDg (zCh tx n (i + k)) = true := h1
        have hin : i + k < n := zCh_pos (tx := tx) (by have := (zDg_iff.mp hdig).1; omega)
        have hd2 := zDg_iff.mp hdig
        rw [zCh_in hin] at hd2
        refine lv_iload_n hx hb dX9_number_15 rfl (lv_at hl 2 rfl) ?_
        refine lv_iload_n hx hb dX9_number_16 rfl (lv_at hl 1 rfl) ?_
        refine ln_isub hx hb dX9_number_17 (by omega) ?_
        refine lv_iconst (v := nI 5) hx hb dX9_number_18 (by decide) ?_
        refine ln_icmp_ge (tgt := 43) hx hb dX9_number_19 (by decide) (by omega) (by omega) (fun h4 => ?_) (fun h4 => ?_)
        · skip
          refine lv_iload_n hx hb dX9_number_43 rfl (lv_at hl 2 rfl) ?_
          refine lv_iload_n hx hb dX9_number_44 rfl (lv_at hl 1 rfl) ?_
          refine ln_icmp_eq (tgt := 55) hx hb dX9_number_45 (by decide) (by omega) (by omega) (fun h5 => ?_) (fun h5 => ?_)
          · skip
            refine lv_iconst (v := -1) hx hb dX9_number_55 (by decide) ?_
            exact ar_iret C hr hW dX9_number_56 ((fun hz9 : zDr (zCh tx n) 5 i = k => Or.inr ⟨by omega, rfl, rfl⟩) (by rw [hz, show 5 - k = 0 by omega]; rfl))
          · skip
            refine lv_iload_n hx hb dX9_number_48 rfl (lv_at hl 2 rfl) ?_
            refine lv_iload_n hx hb dX9_number_49 rfl (lv_at hl 1 rfl) ?_
            refine ln_isub hx hb dX9_number_50 (by omega) ?_
            refine lv_iconst (v := nI 5) hx hb dX9_number_51 (by decide) ?_
            refine ln_icmp_ne (tgt := 57) hx hb dX9_number_52 (by decide) (by omega) (by omega) (fun h6 => ?_) (fun h6 => ?_)
            · skip
              refine lv_aload_n hx hb dX9_number_57 rfl (lv_at hl 0 rfl) ?_
              refine mg_numbers C hW q594 dX9_number_58 ?_
              refine lv_aload_n hx hb dX9_number_61 rfl (lv_at hl 0 rfl) ?_
              refine mg_numberCount C hW q596 dX9_number_62 ?_
              refine ln_top (hnc) ?_
              refine lv_iload_n hx hb dX9_number_65 rfl (lv_at hl 3 rfl) ?_
              refine ms_numbers (j := nu) C hW (by omega) dX9_number_66 (fun H locs hW => ?_)
              refine lv_aload_n hx hb dX9_number_67 rfl (lv_at hl 0 rfl) ?_
              refine lv_dup hx hb dX9_number_68 rfl ?_
              refine mg_numberCount C hW q596 dX9_number_69 ?_
              refine ln_top (hnc) ?_
              refine lv_iconst (v := nI 1) hx hb dX9_number_72 (by decide) ?_
              refine ln_iadd hx hb dX9_number_73 ?_
              refine mp_numberCount C hW q596 dX9_number_74 (fun H locs hW => ?_)
              refine lv_iload_n hx hb dX9_number_77 rfl (lv_at hl 2 rfl) ?_
              exact ar_iret C hr hW dX9_number_78 ((fun hz9 : zDr (zCh tx n) 5 i = k => Or.inl ⟨by omega, by omega, by rw [hz9], by rw [hz9]⟩) (by rw [hz, show 5 - k = 0 by omega]; rfl))
            · skip
              refine lv_iconst (v := -1) hx hb dX9_number_55 (by decide) ?_
              exact ar_iret C hr hW dX9_number_56 ((fun hz9 : zDr (zCh tx n) 5 i = k => Or.inr ⟨by omega, rfl, rfl⟩) (by rw [hz, show 5 - k = 0 by omega]; rfl))
        · skip
          refine lv_bipush (v := nI 10) hx hb dX9_number_22 (by decide) ?_
          refine lv_iload_n hx hb dX9_number_24 rfl (lv_at hl 3 rfl) ?_
          refine ln_imul hx hb dX9_number_25 ?_
          refine lv_aload_n hx hb dX9_number_26 rfl (lv_at hl 0 rfl) ?_
          refine mg_text C hW q587 dX9_number_27 ?_
          refine lv_iload_n hx hb dX9_number_30 rfl (lv_at hl 2 rfl) ?_
          refine ml_text (j := i + k) C hW (by omega) dX9_number_31 ?_
          refine ln_top (htx _ hin) ?_
          refine ln_iadd hx hb dX9_number_32 ?_
          refine lv_bipush (v := nI 48) hx hb dX9_number_33 (by decide) ?_
          refine ln_isub hx hb dX9_number_35 (by omega) ?_
          refine ln_top (a := zNm (zCh tx n) i (k + 1)) (congrArg nI (by rw [zNm, zCh_in hin]; omega)) ?_
          refine lv_istore_n (lv' := [(3, .int (nI (zNm (zCh tx n) i (k + 1)))), (0, .ref (ad 0)), (1, .int (nI i)), (2, .int (nI (i + k)))]) hx hb dX9_number_36 rfl hl (by decide) rfl (fun ls hl => ?_)
          refine ln_iinc (k := 3) (n := 1) (lv' := [(2, .int (nI ((i + k) + 1))), (3, .int (nI (zNm (zCh tx n) i (k + 1)))), (0, .ref (ad 0)), (1, .int (nI i))]) hx hb dX9_number_37 hl rfl (by decide) rfl (fun ls hl => ?_)
          refine lv_goto (tgt := 4) hx hb dX9_number_40 (by decide) ?_
          exact ihlp (k + 1) _ _ _ (by omega) (by omega) (by rw [hz, zDr_c5 (by omega) hdig, Nat.add_assoc i k 1]; omega) (zNm_s hv hdig) (hW) (lv_sub hl [2, 3, 0, 1] rfl)
  exact lp _ 0 _ _ _ (Nat.lt_succ_self _) (by omega) ((Nat.zero_add _).symm) (by show 0 < 1; decide) (hW) (lv_sub hl [2, 3, 1, 0] rfl)
