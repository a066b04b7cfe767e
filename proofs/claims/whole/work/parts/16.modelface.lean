theorem zIn_v (v : Int32) : zIn v (nI 0) (nI 7) = vOk v := by
  unfold zIn vOk
  refine decide_eq_decide.mpr ⟨fun h => ⟨h.1, Int32.lt_of_le_of_lt h.2 (by decide)⟩, fun h => ⟨h.1, ?_⟩⟩
  obtain ⟨j, hj, rfl⟩ := nI_of (x := v) (fun q => absurd q (Int32.not_lt.mpr h.1))
  have := (nI_ltI hj (by decide)).mp h.2
  exact (nI_leI hj (by decide)).mpr (by omega)
theorem zIn_has {i : Int32} {n : Nat} (h0 : 1 ≤ n) (hn : n < 2 ^ 31) : zIn i (nI 0) (nI (n - 1)) = zHas i n := by
  unfold zIn zHas
  refine decide_eq_decide.mpr ⟨fun h => ⟨h.1, Int32.lt_of_le_of_lt h.2 (nI_lt (by omega) hn)⟩, fun h => ⟨h.1, ?_⟩⟩
  obtain ⟨j, hj, rfl⟩ := nI_of (x := i) (fun q => absurd q (Int32.not_lt.mpr h.1))
  have := (nI_ltI hj hn).mp h.2
  exact (nI_leI hj (by omega)).mpr (by omega)
theorem zIn_nat {a b d : Nat} (ha : a < 2 ^ 31) (hb : b < 2 ^ 31) (hd : d < 2 ^ 31) : zIn (nI a) (nI b) (nI d) = decide (b ≤ a ∧ a ≤ d) := by
  unfold zIn
  refine decide_eq_decide.mpr ⟨fun h => ⟨(nI_leI hb ha).mp h.1, (nI_leI ha hd).mp h.2⟩, fun h => ⟨(nI_leI hb ha).mpr h.1, (nI_leI ha hd).mpr h.2⟩⟩
theorem zEx_neg {x : Int32} (h : x < 0) : zEx x = false := by unfold zEx; rw [if_pos (Or.inl h)]
theorem zEx_nat {j : Nat} (hj : j < 2 ^ 31) : zEx (nI j) = decide (j ≤ 24 ∨ (1 ≤ j / 32 ∧ j / 32 ≤ 24 ∧ 1 ≤ j % 32 ∧ j % 32 ≤ 24 ∧ j / 32 * (j % 32) ≤ 24)) := by
  unfold zEx
  by_cases h : j ≤ 792
  · rw [if_neg (by rintro (q | q)
                   · exact nI_pos hj q
                   · exact absurd ((nI_ltI (by decide) hj).mp q) (by omega)), nI_clamp hj]
    unfold zOk zFit zLn zLg
    by_cases h0 : j = 0
    · subst h0
      decide
    · by_cases h1 : 31 < j
      · rw [if_pos h1, if_neg h0, show (j == 0) = false by simpa using h0, Bool.false_or]
        refine decide_eq_decide.mpr ⟨fun q => Or.inr q, ?_⟩
        rintro (q | q)
        · omega
        · exact q
      · rw [if_neg h1, if_neg h0, show (j == 0) = false by simpa using h0, Bool.false_or, Nat.mod_eq_of_lt (show j < 32 by omega), Nat.div_eq_of_lt (show j < 32 by omega)]
        refine decide_eq_decide.mpr ⟨fun q => Or.inl q.2.2.2.1, ?_⟩
        rintro (q | q)
        · exact ⟨by omega, by omega, by omega, q, by omega⟩
        · omega
  · rw [if_pos (Or.inr ((nI_ltI (by decide) hj).mpr (by omega)))]
    symm
    rw [decide_eq_false_iff_not]
    omega
theorem hd_X9_isShape : yX9_isShape.cls ≠ "java/lang/invoke/MethodHandle" ∧ yX9_isShape.cls ≠ "java/lang/invoke/VarHandle" ∧ (parseMethodDescriptor yX9_isShape.desc).map (fun d => d.parameters.length) = some 1 := by decide +kernel
set_option maxHeartbeats 4000000 in
set_option maxRecDepth 100000 in
theorem c_X9_isShape {l : Launch} (hl9 : l.stackTraces = false) {D : va_G} {ct : Nat → ClassId} {S : Type} {wl : S → va_W} (u0 : S) (x : Int32) : ar_M l yX9_isShape cX9_isShape 3 (some .boolean) 1 22 D ct wl [.int x] u0 (fun v9 u9 => v9 = some (.int (bI (zEx x))) ∧ u9 = u0) (fun _ _ => False) := by
  refine ar_ofW hl9 (by decide) (Nat.le_of_ble_eq_true rfl) ?_
  intro p e s m below meth c A ls C hr hnm hW hl
  have hx := C.1
  have hb := C.2.1
  have hown := C.2.2.2.1
  have hts := C.2.2.2.2.1
  have hl : lv_has ls 3 [(0, .int x)] := hl
  refine lv_iload_n hx hb dX9_isShape_0 rfl (lv_at hl 0 rfl) ?_
  refine lv_iconst (v := nI 0) hx hb dX9_isShape_1 (by decide) ?_
  refine lv_bipush (v := nI 24) hx hb dX9_isShape_2 (by decide) ?_
  refine ar_callS (As := [.int x, .int (nI 0), .int (nI 24)]) (rest := []) C hW (c_X9_within hl9 _ x (nI 0) (nI 24)) q686 q687 q6 q688 hd_X9_within ⟨Nat.le_of_ble_eq_true rfl, Nat.le_of_ble_eq_true rfl⟩ hl.1 (Nat.le_of_ble_eq_true rfl) rfl dX9_isShape_4 (fun _ _ _ _ _ _ hp => hp.elim) (fun v9 u9 H locs hp hW => ?_)
  obtain ⟨rfl, hu9⟩ := hp
  rw [hu9] at hW
  refine W.eq (g2 := F0 m 7 ls [.int (bI (zIn x (nI 0) (nI 24)))]) rfl ?_
  refine lb_if_eq (tgt := 12) hx hb dX9_isShape_7 (by decide) (fun h1 => ?_) (fun h1 => ?_)
  · skip
    refine lv_iload_n hx hb dX9_isShape_12 rfl (lv_at hl 0 rfl) ?_
    refine lv_bipush (v := nI 32) hx hb dX9_isShape_13 (by decide) ?_
    refine lv_idiv hx hb dX9_isShape_15 (by decide) ?_
    refine lv_istore_n (lv' := [(1, .int (x / nI 32)), (0, .int x)]) hx hb dX9_isShape_16 rfl hl (by decide) rfl (fun ls hl => ?_)
    refine lv_iload_n hx hb dX9_isShape_17 rfl (lv_at hl 1 rfl) ?_
    refine lv_bipush (v := nI 32) hx hb dX9_isShape_18 (by decide) ?_
    refine lv_irem hx hb dX9_isShape_20 (by decide) ?_
    refine lv_istore_n (lv' := [(2, .int (x - x / nI 32 * nI 32)), (1, .int (x / nI 32)), (0, .int x)]) hx hb dX9_isShape_21 rfl hl (by decide) rfl (fun ls hl => ?_)
    refine lv_iload_n hx hb dX9_isShape_22 rfl (lv_at hl 2 rfl) ?_
    refine lv_if_le (tgt := 58) hx hb dX9_isShape_23 (by decide) (fun h2 => ?_) (fun h2 => ?_)
    · skip
      refine lv_iconst (v := nI 0) hx hb dX9_isShape_58 (by decide) ?_
      exact ar_zret C hr (nI_z0.1) hW dX9_isShape_59 (⟨congrArg (fun z => some (Value.int z)) (bI_f (by first | exact zEx_neg (Int32.lt_of_le_of_ne h2 (fun q => by subst q; exact absurd h1 (by decide))) | (rw [zIn_nat (by omega) (by decide) (by decide), decide_eq_true_eq] at h3; rw [zIn_nat (by omega) (by decide) (by decide), decide_eq_true_eq] at h4; rw [decide_eq_false_iff_not] at h1; rw [hz, decide_eq_false_iff_not]; rintro (q | q) <;> omega) | (rw [zIn_nat (by omega) (by decide) (by decide), decide_eq_true_eq] at h3; rw [zIn_nat (by omega) (by decide) (by decide), decide_eq_false_iff_not] at h4; rw [decide_eq_false_iff_not] at h1; rw [hz, decide_eq_false_iff_not]; rintro (q | q) <;> omega) | (rw [zIn_nat (by omega) (by decide) (by decide), decide_eq_false_iff_not] at h3; rw [decide_eq_false_iff_not] at h1; rw [hz, decide_eq_false_iff_not]; rintro (q | q) <;> omega))), rfl⟩)
    · skip
      obtain ⟨j, hj9, rfl⟩ := nI_of (x := x) (fun q => h2 (Int32.le_of_lt q))
      rw [pk_div hj9 (by decide) (by decide)] at hl
      have he9 : nI j - nI (j / 32) * nI 32 = nI (j % 32) := by rw [← pk_div hj9 (by decide) (by decide)]; exact pk_rem hj9 (by decide) (by decide)
      rw [he9] at hl
      have hz := zEx_nat hj9
      rw [zIn_nat hj9 (by decide) (by decide)] at h1
      refine lv_iload_n hx hb dX9_isShape_26 rfl (lv_at hl 1 rfl) ?_
      refine lv_iconst (v := nI 1) hx hb dX9_isShape_27 (by decide) ?_
      refine lv_bipush (v := nI 24) hx hb dX9_isShape_28 (by decide) ?_
      refine ar_callS (As := [.int (nI (j / 32)), .int (nI 1), .int (nI 24)]) (rest := []) C hW (c_X9_within hl9 _ (nI (j / 32)) (nI 1) (nI 24)) q686 q687 q6 q688 hd_X9_within ⟨Nat.le_of_ble_eq_true rfl, Nat.le_of_ble_eq_true rfl⟩ hl.1 (Nat.le_of_ble_eq_true rfl) rfl dX9_isShape_30 (fun _ _ _ _ _ _ hp => hp.elim) (fun v9 u9 H locs hp hW => ?_)
      obtain ⟨rfl, hu9⟩ := hp
      rw [hu9] at hW
      refine W.eq (g2 := F0 m 33 ls [.int (bI (zIn (nI (j / 32)) (nI 1) (nI 24)))]) rfl ?_
      refine lb_if_eq (tgt := 58) hx hb dX9_isShape_33 (by decide) (fun h3 => ?_) (fun h3 => ?_)
      · skip
        refine lv_iconst (v := nI 0) hx hb dX9_isShape_58 (by decide) ?_
        exact ar_zret C hr (nI_z0.1) hW dX9_isShape_59 (⟨congrArg (fun z => some (Value.int z)) (bI_f (by first | exact zEx_neg (Int32.lt_of_le_of_ne h2 (fun q => by subst q; exact absurd h1 (by decide))) | (rw [zIn_nat (by omega) (by decide) (by decide), decide_eq_true_eq] at h3; rw [zIn_nat (by omega) (by decide) (by decide), decide_eq_true_eq] at h4; rw [decide_eq_false_iff_not] at h1; rw [hz, decide_eq_false_iff_not]; rintro (q | q) <;> omega) | (rw [zIn_nat (by omega) (by decide) (by decide), decide_eq_true_eq] at h3; rw [zIn_nat (by omega) (by decide) (by decide), decide_eq_false_iff_not] at h4; rw [decide_eq_false_iff_not] at h1; rw [hz, decide_eq_false_iff_not]; rintro (q | q) <;> omega) | (rw [zIn_nat (by omega) (by decide) (by decide), decide_eq_false_iff_not] at h3; rw [decide_eq_false_iff_not] at h1; rw [hz, decide_eq_false_iff_not]; rintro (q | q) <;> omega))), rfl⟩)
      · skip
        refine lv_iload_n hx hb dX9_isShape_36 rfl (lv_at hl 0 rfl) ?_
        refine lv_iconst (v := nI 1) hx hb dX9_isShape_37 (by decide) ?_
        refine lv_bipush (v := nI 24) hx hb dX9_isShape_38 (by decide) ?_
        refine ar_callS (As := [.int (nI (j % 32)), .int (nI 1), .int (nI 24)]) (rest := []) C hW (c_X9_within hl9 _ (nI (j % 32)) (nI 1) (nI 24)) q686 q687 q6 q688 hd_X9_within ⟨Nat.le_of_ble_eq_true rfl, Nat.le_of_ble_eq_true rfl⟩ hl.1 (Nat.le_of_ble_eq_true rfl) rfl dX9_isShape_40 (fun _ _ _ _ _ _ hp => hp.elim) (fun v9 u9 H locs hp hW => ?_)
        obtain ⟨rfl, hu9⟩ := hp
        rw [hu9] at hW
        refine W.eq (g2 := F0 m 43 ls [.int (bI (zIn (nI (j % 32)) (nI 1) (nI 24)))]) rfl ?_
        refine lb_if_eq (tgt := 58) hx hb dX9_isShape_43 (by decide) (fun h4 => ?_) (fun h4 => ?_)
        · skip
          refine lv_iconst (v := nI 0) hx hb dX9_isShape_58 (by decide) ?_
          exact ar_zret C hr (nI_z0.1) hW dX9_isShape_59 (⟨congrArg (fun z => some (Value.int z)) (bI_f (by first | exact zEx_neg (Int32.lt_of_le_of_ne h2 (fun q => by subst q; exact absurd h1 (by decide))) | (rw [zIn_nat (by omega) (by decide) (by decide), decide_eq_true_eq] at h3; rw [zIn_nat (by omega) (by decide) (by decide), decide_eq_true_eq] at h4; rw [decide_eq_false_iff_not] at h1; rw [hz, decide_eq_false_iff_not]; rintro (q | q) <;> omega) | (rw [zIn_nat (by omega) (by decide) (by decide), decide_eq_true_eq] at h3; rw [zIn_nat (by omega) (by decide) (by decide), decide_eq_false_iff_not] at h4; rw [decide_eq_false_iff_not] at h1; rw [hz, decide_eq_false_iff_not]; rintro (q | q) <;> omega) | (rw [zIn_nat (by omega) (by decide) (by decide), decide_eq_false_iff_not] at h3; rw [decide_eq_false_iff_not] at h1; rw [hz, decide_eq_false_iff_not]; rintro (q | q) <;> omega))), rfl⟩)
        · skip
          refine lv_iload_n hx hb dX9_isShape_46 rfl (lv_at hl 1 rfl) ?_
          refine lv_iload_n hx hb dX9_isShape_47 rfl (lv_at hl 0 rfl) ?_
          refine ln_imul hx hb dX9_isShape_48 ?_
          refine lv_bipush (v := nI 24) hx hb dX9_isShape_49 (by decide) ?_
          refine ln_icmp_gt (tgt := 58) hx hb dX9_isShape_51 (by decide) (by have : j / 32 * (j % 32) ≤ 2 ^ 26 * 31 := Nat.mul_le_mul (by omega) (by omega); omega) (by decide) (fun h5 => ?_) (fun h5 => ?_)
          · skip
            refine lv_iconst (v := nI 0) hx hb dX9_isShape_58 (by decide) ?_
            exact ar_zret C hr (nI_z0.1) hW dX9_isShape_59 (⟨congrArg (fun z => some (Value.int z)) (bI_f (by first | exact zEx_neg (Int32.lt_of_le_of_ne h2 (fun q => by subst q; exact absurd h1 (by decide))) | (rw [zIn_nat (by omega) (by decide) (by decide), decide_eq_true_eq] at h3; rw [zIn_nat (by omega) (by decide) (by decide), decide_eq_true_eq] at h4; rw [decide_eq_false_iff_not] at h1; rw [hz, decide_eq_false_iff_not]; rintro (q | q) <;> omega) | (rw [zIn_nat (by omega) (by decide) (by decide), decide_eq_true_eq] at h3; rw [zIn_nat (by omega) (by decide) (by decide), decide_eq_false_iff_not] at h4; rw [decide_eq_false_iff_not] at h1; rw [hz, decide_eq_false_iff_not]; rintro (q | q) <;> omega) | (rw [zIn_nat (by omega) (by decide) (by decide), decide_eq_false_iff_not] at h3; rw [decide_eq_false_iff_not] at h1; rw [hz, decide_eq_false_iff_not]; rintro (q | q) <;> omega))), rfl⟩)
          · skip
            refine lv_iconst (v := nI 1) hx hb dX9_isShape_54 (by decide) ?_
            refine lv_goto (tgt := 59) hx hb dX9_isShape_55 (by decide) ?_
            exact ar_zret C hr (nI_z1.1) hW dX9_isShape_59 (⟨congrArg (fun z => some (Value.int z)) (bI_t (by rw [zIn_nat (by omega) (by decide) (by decide), decide_eq_true_eq] at h3 h4; rw [hz, decide_eq_true_eq]; exact Or.inr ⟨h3.1, h3.2, h4.1, h4.2, h5⟩)), rfl⟩)
  · skip
    refine lv_iconst (v := nI 1) hx hb dX9_isShape_10 (by decide) ?_
    exact ar_zret C hr (nI_z1.1) hW dX9_isShape_11 (⟨congrArg (fun z => some (Value.int z)) (bI_t (by simp only [zIn, decide_eq_true_eq] at h1; obtain ⟨j, hj, rfl⟩ := nI_of (x := x) (fun q => absurd q (Int32.not_lt.mpr h1.1)); rw [zEx_nat hj, decide_eq_true_eq]; exact Or.inl ((nI_leI hj (by decide)).mp h1.2))), rfl⟩)
theorem hd_X9_thrown : yX9_thrown.cls ≠ "java/lang/invoke/MethodHandle" ∧ yX9_thrown.cls ≠ "java/lang/invoke/VarHandle" ∧ (parseMethodDescriptor yX9_thrown.desc).map (fun d => d.parameters.length) = some 0 := by decide +kernel
set_option maxHeartbeats 4000000 in
set_option maxRecDepth 100000 in
theorem c_X9_thrown {l : Launch} (hl9 : l.stackTraces = false) {D : va_G} {ct : Nat → ClassId} {ad : Nat → Nat} (g : Nat → Int32) (a : Nat → Nat → Int32) (d : Nat → Nat → UInt64)  : ar_M l yX9_thrown cX9_thrown 1 (some .int) 0 0 D ct (mL ad ct) [.ref (ad 0)] (g, a, d) (fun v9 u9 => v9 = some (.int (g 26)) ∧ u9 = (g, a, d)) (fun _ _ => False) := by
  refine ar_ofW hl9 (by decide) (Nat.le_of_ble_eq_true rfl) ?_
  intro p e s m below meth c A ls C hr hnm hW hl
  have hx := C.1
  have hb := C.2.1
  have hown := C.2.2.2.1
  have hts := C.2.2.2.2.1
  have hl : lv_has ls 1 [(0, .ref (ad 0))] := hl
  refine lv_aload_n hx hb dX9_thrown_0 rfl (lv_at hl 0 rfl) ?_
  refine mg_thrown C hW q613 dX9_thrown_1 ?_
  exact ar_iret C hr hW dX9_thrown_4 (⟨rfl, rfl⟩)
theorem hd_X9_made : yX9_made.cls ≠ "java/lang/invoke/MethodHandle" ∧ yX9_made.cls ≠ "java/lang/invoke/VarHandle" ∧ (parseMethodDescriptor yX9_made.desc).map (fun d => d.parameters.length) = some 0 := by decide +kernel
set_option maxHeartbeats 4000000 in
set_option maxRecDepth 100000 in
theorem c_X9_made {l : Launch} (hl9 : l.stackTraces = false) {D : va_G} {ct : Nat → ClassId} {ad : Nat → Nat} (g : Nat → Int32) (a : Nat → Nat → Int32) (d : Nat → Nat → UInt64)  : ar_M l yX9_made cX9_made 1 (some .int) 0 0 D ct (mL ad ct) [.ref (ad 0)] (g, a, d) (fun v9 u9 => v9 = some (.int (g 24)) ∧ u9 = (va_up g 26 (nI 0), a, d)) (fun _ _ => False) := by
  refine ar_ofW hl9 (by decide) (Nat.le_of_ble_eq_true rfl) ?_
  intro p e s m below meth c A ls C hr hnm hW hl
  have hx := C.1
  have hb := C.2.1
  have hown := C.2.2.2.1
  have hts := C.2.2.2.2.1
  have hl : lv_has ls 1 [(0, .ref (ad 0))] := hl
  refine lv_aload_n hx hb dX9_made_0 rfl (lv_at hl 0 rfl) ?_
  refine lv_iconst (v := nI 0) hx hb dX9_made_1 (by decide) ?_
  refine mp_thrown C hW q613 dX9_made_2 (fun H locs hW => ?_)
  refine lv_aload_n hx hb dX9_made_5 rfl (lv_at hl 0 rfl) ?_
  refine mg_made C hW q611 dX9_made_6 ?_
  rw [va_up_ne _ _ (by decide)]
  exact ar_iret C hr hW dX9_made_9 (⟨rfl, rfl⟩)
theorem hd_X9_runs : yX9_runs.cls ≠ "java/lang/invoke/MethodHandle" ∧ yX9_runs.cls ≠ "java/lang/invoke/VarHandle" ∧ (parseMethodDescriptor yX9_runs.desc).map (fun d => d.parameters.length) = some 0 := by decide +kernel
set_option maxHeartbeats 4000000 in
set_option maxRecDepth 100000 in
theorem c_X9_runs {l : Launch} (hl9 : l.stackTraces = false) {D : va_G} {ct : Nat → ClassId} {ad : Nat → Nat} (g : Nat → Int32) (a : Nat → Nat → Int32) (d : Nat → Nat → UInt64)  : ar_M l yX9_runs cX9_runs 1 (some .int) 0 0 D ct (mL ad ct) [.ref (ad 0)] (g, a, d) (fun v9 u9 => v9 = some (.int (g 25)) ∧ u9 = (va_up g 26 (nI 0), a, d)) (fun _ _ => False) := by
  refine ar_ofW hl9 (by decide) (Nat.le_of_ble_eq_true rfl) ?_
  intro p e s m below meth c A ls C hr hnm hW hl
  have hx := C.1
  have hb := C.2.1
  have hown := C.2.2.2.1
  have hts := C.2.2.2.2.1
  have hl : lv_has ls 1 [(0, .ref (ad 0))] := hl
  refine lv_aload_n hx hb dX9_runs_0 rfl (lv_at hl 0 rfl) ?_
  refine lv_iconst (v := nI 0) hx hb dX9_runs_1 (by decide) ?_
  refine mp_thrown C hW q613 dX9_runs_2 (fun H locs hW => ?_)
  refine lv_aload_n hx hb dX9_runs_5 rfl (lv_at hl 0 rfl) ?_
  refine mg_runs C hW q612 dX9_runs_6 ?_
  rw [va_up_ne _ _ (by decide)]
  exact ar_iret C hr hW dX9_runs_9 (⟨rfl, rfl⟩)
theorem hd_X9_erase : yX9_erase.cls ≠ "java/lang/invoke/MethodHandle" ∧ yX9_erase.cls ≠ "java/lang/invoke/VarHandle" ∧ (parseMethodDescriptor yX9_erase.desc).map (fun d => d.parameters.length) = some 0 := by decide +kernel
set_option maxHeartbeats 4000000 in
set_option maxRecDepth 100000 in
theorem c_X9_erase {l : Launch} (hl9 : l.stackTraces = false) {D : va_G} {ct : Nat → ClassId} {ad : Nat → Nat} (g : Nat → Int32) (a : Nat → Nat → Int32) (d : Nat → Nat → UInt64) (n : Nat) (hlen : g 1 = nI n) : ar_M l yX9_erase cX9_erase 2 (some .int) 0 0 D ct (mL ad ct) [.ref (ad 0)] (g, a, d) (fun v9 u9 => v9 = some (.int (nI n)) ∧ u9 = (va_up (va_up g 26 (nI 0)) 1 (nI 0), a, d)) (fun _ _ => False) := by
  refine ar_ofW hl9 (by decide) (Nat.le_of_ble_eq_true rfl) ?_
  intro p e s m below meth c A ls C hr hnm hW hl
  have hx := C.1
  have hb := C.2.1
  have hown := C.2.2.2.1
  have hts := C.2.2.2.2.1
  have hl : lv_has ls 2 [(0, .ref (ad 0))] := hl
  refine lv_aload_n hx hb dX9_erase_0 rfl (lv_at hl 0 rfl) ?_
  refine lv_iconst (v := nI 0) hx hb dX9_erase_1 (by decide) ?_
  refine mp_thrown C hW q613 dX9_erase_2 (fun H locs hW => ?_)
  refine lv_aload_n hx hb dX9_erase_5 rfl (lv_at hl 0 rfl) ?_
  refine mg_length C hW q588 dX9_erase_6 ?_
  rw [va_up_ne _ _ (by decide)]
  refine ln_top (hlen) ?_
  refine lv_istore_n (lv' := [(1, .int (nI n)), (0, .ref (ad 0))]) hx hb dX9_erase_9 rfl hl (by decide) rfl (fun ls hl => ?_)
  refine lv_aload_n hx hb dX9_erase_10 rfl (lv_at hl 1 rfl) ?_
  refine lv_iconst (v := nI 0) hx hb dX9_erase_11 (by decide) ?_
  refine mp_length C hW q588 dX9_erase_12 (fun H locs hW => ?_)
  refine lv_iload_n hx hb dX9_erase_15 rfl (lv_at hl 0 rfl) ?_
  exact ar_iret C hr hW dX9_erase_16 (⟨rfl, rfl⟩)
theorem hd_X9_shapeOf : yX9_shapeOf.cls ≠ "java/lang/invoke/MethodHandle" ∧ yX9_shapeOf.cls ≠ "java/lang/invoke/VarHandle" ∧ (parseMethodDescriptor yX9_shapeOf.desc).map (fun d => d.parameters.length) = some 1 := by decide +kernel
set_option maxHeartbeats 4000000 in
set_option maxRecDepth 100000 in
theorem c_X9_shapeOf {l : Launch} (hl9 : l.stackTraces = false) {D : va_G} {ct : Nat → ClassId} {ad : Nat → Nat} (g : Nat → Int32) (a : Nat → Nat → Int32) (d : Nat → Nat → UInt64) (v : Int32) (vs : Nat → Nat) (hvs : ∀ j, j < 8 → a 2 j = nI (vs j)) (hvl : ∀ j, j < 8 → vs j < 2 ^ 20) : ar_M l yX9_shapeOf cX9_shapeOf 2 (some .int) 1 22 D ct (mL ad ct) [.ref (ad 0), .int v] (g, a, d) (fun v9 u9 => u9 = (va_up g 26 (nI 0), a, d) ∧ ((vOk v = false ∧ v9 = some (.int (-1))) ∨ ∃ j : Nat, j < 8 ∧ v = nI j ∧ v9 = some (.int (nI (vs j))))) (fun _ _ => False) := by
  refine ar_ofW hl9 (by decide) (Nat.le_of_ble_eq_true rfl) ?_
  intro p e s m below meth c A ls C hr hnm hW hl
  have hx := C.1
  have hb := C.2.1
  have hown := C.2.2.2.1
  have hts := C.2.2.2.2.1
  have hl : lv_has ls 2 [(0, .ref (ad 0)), (1, .int v)] := hl
  refine lv_aload_n hx hb dX9_shapeOf_0 rfl (lv_at hl 0 rfl) ?_
  refine lv_iconst (v := nI 0) hx hb dX9_shapeOf_1 (by decide) ?_
  refine mp_thrown C hW q613 dX9_shapeOf_2 (fun H locs hW => ?_)
  refine lv_iload_n hx hb dX9_shapeOf_5 rfl (lv_at hl 1 rfl) ?_
  refine lv_iconst (v := nI 0) hx hb dX9_shapeOf_6 (by decide) ?_
  refine lv_bipush (v := nI 7) hx hb dX9_shapeOf_7 (by decide) ?_
  refine ar_callS (As := [.int v, .int (nI 0), .int (nI 7)]) (rest := []) C hW (c_X9_within hl9 _ v (nI 0) (nI 7)) q686 q687 q6 q688 hd_X9_within ⟨Nat.le_of_ble_eq_true rfl, Nat.le_of_ble_eq_true rfl⟩ hl.1 (Nat.le_of_ble_eq_true rfl) rfl dX9_shapeOf_9 (fun _ _ _ _ _ _ hp => hp.elim) (fun v9 u9 H locs hp hW => ?_)
  obtain ⟨rfl, hu9⟩ := hp
  rw [hu9] at hW
  refine W.eq (g2 := F0 m 12 ls [.int (bI (zIn v (nI 0) (nI 7)))]) rfl ?_
  refine lb_if_eq (tgt := 24) hx hb dX9_shapeOf_12 (by decide) (fun h1 => ?_) (fun h1 => ?_)
  · skip
    refine lv_iconst (v := -1) hx hb dX9_shapeOf_24 (by decide) ?_
    exact ar_iret C hr hW dX9_shapeOf_25 (⟨rfl, Or.inl ⟨(zIn_v v).symm.trans h1, rfl⟩⟩)
  · skip
    obtain ⟨j, hj8, rfl⟩ := vOk_nat ((zIn_v v).symm.trans h1)
    refine lv_aload_n hx hb dX9_shapeOf_15 rfl (lv_at hl 0 rfl) ?_
    refine mg_shapes C hW q589 dX9_shapeOf_16 ?_
    refine lv_iload_n hx hb dX9_shapeOf_19 rfl (lv_at hl 1 rfl) ?_
    refine ml_shapes (j := j) C hW (by omega) dX9_shapeOf_20 ?_
    refine ln_top (hvs j hj8) ?_
    refine lv_goto (tgt := 25) hx hb dX9_shapeOf_21 (by decide) ?_
    exact ar_iret C hr hW dX9_shapeOf_25 (⟨rfl, Or.inr ⟨j, hj8, rfl, rfl⟩⟩)
theorem hd_X9_size : yX9_size.cls ≠ "java/lang/invoke/MethodHandle" ∧ yX9_size.cls ≠ "java/lang/invoke/VarHandle" ∧ (parseMethodDescriptor yX9_size.desc).map (fun d => d.parameters.length) = some 1 := by decide +kernel
set_option maxHeartbeats 4000000 in
set_option maxRecDepth 100000 in
theorem c_X9_size {l : Launch} (hl9 : l.stackTraces = false) {D : va_G} {ct : Nat → ClassId} {ad : Nat → Nat} (g : Nat → Int32) (a : Nat → Nat → Int32) (d : Nat → Nat → UInt64) (v : Int32) (vs : Nat → Nat) (hvs : ∀ j, j < 8 → a 2 j = nI (vs j)) (hvl : ∀ j, j < 8 → vs j < 2 ^ 20) : ar_M l yX9_size cX9_size 2 (some .int) 1 22 D ct (mL ad ct) [.ref (ad 0), .int v] (g, a, d) (fun v9 u9 => u9 = (va_up g 26 (nI 0), a, d) ∧ ((vOk v = false ∧ v9 = some (.int (-1))) ∨ ∃ j : Nat, j < 8 ∧ v = nI j ∧ v9 = some (.int (nI (zCt (vs j)))))) (fun _ _ => False) := by
  refine ar_ofW hl9 (by decide) (Nat.le_of_ble_eq_true rfl) ?_
  intro p e s m below meth c A ls C hr hnm hW hl
  have hx := C.1
  have hb := C.2.1
  have hown := C.2.2.2.1
  have hts := C.2.2.2.2.1
  have hl : lv_has ls 2 [(0, .ref (ad 0)), (1, .int v)] := hl
  refine lv_aload_n hx hb dX9_size_0 rfl (lv_at hl 0 rfl) ?_
  refine lv_iconst (v := nI 0) hx hb dX9_size_1 (by decide) ?_
  refine mp_thrown C hW q613 dX9_size_2 (fun H locs hW => ?_)
  refine lv_iload_n hx hb dX9_size_5 rfl (lv_at hl 1 rfl) ?_
  refine lv_iconst (v := nI 0) hx hb dX9_size_6 (by decide) ?_
  refine lv_bipush (v := nI 7) hx hb dX9_size_7 (by decide) ?_
  refine ar_callS (As := [.int v, .int (nI 0), .int (nI 7)]) (rest := []) C hW (c_X9_within hl9 _ v (nI 0) (nI 7)) q686 q687 q6 q688 hd_X9_within ⟨Nat.le_of_ble_eq_true rfl, Nat.le_of_ble_eq_true rfl⟩ hl.1 (Nat.le_of_ble_eq_true rfl) rfl dX9_size_9 (fun _ _ _ _ _ _ hp => hp.elim) (fun v9 u9 H locs hp hW => ?_)
  obtain ⟨rfl, hu9⟩ := hp
  rw [hu9] at hW
  refine W.eq (g2 := F0 m 12 ls [.int (bI (zIn v (nI 0) (nI 7)))]) rfl ?_
  refine lb_if_eq (tgt := 27) hx hb dX9_size_12 (by decide) (fun h1 => ?_) (fun h1 => ?_)
  · skip
    refine lv_iconst (v := -1) hx hb dX9_size_27 (by decide) ?_
    exact ar_iret C hr hW dX9_size_28 (⟨rfl, Or.inl ⟨(zIn_v v).symm.trans h1, rfl⟩⟩)
  · skip
    obtain ⟨j, hj8, rfl⟩ := vOk_nat ((zIn_v v).symm.trans h1)
    refine lv_aload_n hx hb dX9_size_15 rfl (lv_at hl 0 rfl) ?_
    refine mg_shapes C hW q589 dX9_size_16 ?_
    refine lv_iload_n hx hb dX9_size_19 rfl (lv_at hl 1 rfl) ?_
    refine ml_shapes (j := j) C hW (by omega) dX9_size_20 ?_
    refine ln_top (hvs j hj8) ?_
    refine ar_callS (As := [.int (nI (vs j))]) (rest := []) C hW (c_X9_count hl9 _ (vs j) (by have := hvl j hj8; omega)) q709 q710 q6 q711 hd_X9_count ⟨Nat.le_of_ble_eq_true rfl, Nat.le_of_ble_eq_true rfl⟩ hl.1 (Nat.le_of_ble_eq_true rfl) rfl dX9_size_21 (fun _ _ _ _ _ _ hp => hp.elim) (fun v9 u9 H locs hp hW => ?_)
    obtain ⟨rfl, hu9⟩ := hp
    rw [hu9] at hW
    refine W.eq (g2 := F0 m 24 ls [.int (nI (zCt (vs j)))]) rfl ?_
    refine lv_goto (tgt := 28) hx hb dX9_size_24 (by decide) ?_
    exact ar_iret C hr hW dX9_size_28 (⟨rfl, Or.inr ⟨j, hj8, rfl, rfl⟩⟩)
theorem hd_X9_put : yX9_put.cls ≠ "java/lang/invoke/MethodHandle" ∧ yX9_put.cls ≠ "java/lang/invoke/VarHandle" ∧ (parseMethodDescriptor yX9_put.desc).map (fun d => d.parameters.length) = some 2 := by decide +kernel
set_option maxHeartbeats 4000000 in
set_option maxRecDepth 100000 in
theorem c_X9_put {l : Launch} (hl9 : l.stackTraces = false) {D : va_G} {ct : Nat → ClassId} {ad : Nat → Nat} (g : Nat → Int32) (a : Nat → Nat → Int32) (d : Nat → Nat → UInt64) (v : Int32) (x : UInt64) : ar_M l yX9_put cX9_put 4 (some .boolean) 1 22 D ct (mL ad ct) [.ref (ad 0), .int v, .double x] (g, a, d) (fun v9 u9 => ((vOk v = false ∨ zRg x = false) ∧ v9 = some (.int (nI 0)) ∧ u9 = (va_up g 26 (nI 0), a, d)) ∨ ∃ j : Nat, j < 8 ∧ v = nI j ∧ zRg x = true ∧ v9 = some (.int (nI 1)) ∧ u9 = (va_up g 26 (nI 0), va_up a 2 (va_up (a 2) j (nI 0)), va_up d 3 (va_up (d 3) (24 * j) x))) (fun _ _ => False) := by
  refine ar_ofW hl9 (by decide) (Nat.le_of_ble_eq_true rfl) ?_
  intro p e s m below meth c A ls C hr hnm hW hl
  have hx := C.1
  have hb := C.2.1
  have hown := C.2.2.2.1
  have hts := C.2.2.2.2.1
  have hl : lv_has ls 4 [(0, .ref (ad 0)), (1, .int v), (2, .double x)] := hl
  refine lv_aload_n hx hb dX9_put_0 rfl (lv_at hl 0 rfl) ?_
  refine lv_iconst (v := nI 0) hx hb dX9_put_1 (by decide) ?_
  refine mp_thrown C hW q613 dX9_put_2 (fun H locs hW => ?_)
  refine lv_iload_n hx hb dX9_put_5 rfl (lv_at hl 1 rfl) ?_
  refine lv_iconst (v := nI 0) hx hb dX9_put_6 (by decide) ?_
  refine lv_bipush (v := nI 7) hx hb dX9_put_7 (by decide) ?_
  refine ar_callS (As := [.int v, .int (nI 0), .int (nI 7)]) (rest := []) C hW (c_X9_within hl9 _ v (nI 0) (nI 7)) q686 q687 q6 q688 hd_X9_within ⟨Nat.le_of_ble_eq_true rfl, Nat.le_of_ble_eq_true rfl⟩ hl.1 (Nat.le_of_ble_eq_true rfl) rfl dX9_put_9 (fun _ _ _ _ _ _ hp => hp.elim) (fun v9 u9 H locs hp hW => ?_)
  obtain ⟨rfl, hu9⟩ := hp
  rw [hu9] at hW
  refine W.eq (g2 := F0 m 12 ls [.int (bI (zIn v (nI 0) (nI 7)))]) rfl ?_
  refine lb_if_eq (tgt := 22) hx hb dX9_put_12 (by decide) (fun h1 => ?_) (fun h1 => ?_)
  · skip
    refine lv_iconst (v := nI 0) hx hb dX9_put_22 (by decide) ?_
    exact ar_zret C hr (nI_z0.1) hW dX9_put_23 (Or.inl ⟨by first | exact Or.inl ((zIn_v v).symm.trans h1) | exact Or.inr h2, rfl, rfl⟩)
  · skip
    obtain ⟨j, hj8, rfl⟩ := vOk_nat ((zIn_v v).symm.trans h1)
    refine lv_dload_n hx hb dX9_put_15 rfl (lv_at hl 2 rfl) ?_
    refine ar_callS (As := [.double x]) (rest := []) C hW (c_X9_fits hl9 _ x) q689 q690 q6 q691 hd_X9_fits ⟨Nat.le_of_ble_eq_true rfl, Nat.le_of_ble_eq_true rfl⟩ hl.1 (Nat.le_of_ble_eq_true rfl) rfl dX9_put_16 (fun _ _ _ _ _ _ hp => hp.elim) (fun v9 u9 H locs hp hW => ?_)
    obtain ⟨rfl, hu9⟩ := hp
    rw [hu9] at hW
    refine W.eq (g2 := F0 m 19 ls [.int (bI (zRg x))]) rfl ?_
    refine lb_if_ne (tgt := 24) hx hb dX9_put_19 (by decide) (fun h2 => ?_) (fun h2 => ?_)
    · skip
      refine lv_aload_n hx hb dX9_put_24 rfl (lv_at hl 0 rfl) ?_
      refine mg_shapes C hW q589 dX9_put_25 ?_
      refine lv_iload_n hx hb dX9_put_28 rfl (lv_at hl 1 rfl) ?_
      refine lv_iconst (v := nI 0) hx hb dX9_put_29 (by decide) ?_
      refine ms_shapes (j := j) C hW (by omega) dX9_put_30 (fun H locs hW => ?_)
      refine lv_aload_n hx hb dX9_put_31 rfl (lv_at hl 0 rfl) ?_
      refine mg_cells C hW q590 dX9_put_32 ?_
      refine lv_bipush (v := nI 24) hx hb dX9_put_35 (by decide) ?_
      refine lv_iload_n hx hb dX9_put_37 rfl (lv_at hl 1 rfl) ?_
      refine ln_imul hx hb dX9_put_38 ?_
      refine lv_dload_n hx hb dX9_put_39 rfl (lv_at hl 2 rfl) ?_
      refine ms_cells (j := 24 * j) C hW (by omega) dX9_put_40 (fun H locs hW => ?_)
      refine lv_iconst (v := nI 1) hx hb dX9_put_41 (by decide) ?_
      exact ar_zret C hr (nI_z1.1) hW dX9_put_42 (Or.inr ⟨j, hj8, rfl, h2, rfl, rfl⟩)
    · skip
      refine lv_iconst (v := nI 0) hx hb dX9_put_22 (by decide) ?_
      exact ar_zret C hr (nI_z0.1) hW dX9_put_23 (Or.inl ⟨by first | exact Or.inl ((zIn_v v).symm.trans h1) | exact Or.inr h2, rfl, rfl⟩)
def zFl (f : Nat → UInt64) (b k : Nat) : Nat → UInt64 := fun i => if b ≤ i ∧ i < b + k then FP.dconst0 else f i
theorem zFl_0 {f : Nat → UInt64} {b : Nat} : f = zFl f b 0 := by
  funext i
  unfold zFl
  rw [if_neg (by omega)]
theorem zFl_s {f g : Nat → UInt64} {b k : Nat} (hf : f = zFl g b k) : va_up f (b + k) FP.dconst0 = zFl g b (k + 1) := by
  funext i
  rw [hf]
  unfold va_up zFl
  by_cases h : i = b + k
  · rw [if_pos h, if_pos (by omega)]
  · rw [if_neg h]
    by_cases h2 : b ≤ i ∧ i < b + k
    · rw [if_pos h2, if_pos (by omega)]
    · rw [if_neg h2, if_neg (by omega)]
theorem hd_X9_shape : yX9_shape.cls ≠ "java/lang/invoke/MethodHandle" ∧ yX9_shape.cls ≠ "java/lang/invoke/VarHandle" ∧ (parseMethodDescriptor yX9_shape.desc).map (fun d => d.parameters.length) = some 2 := by decide +kernel
set_option maxHeartbeats 4000000 in
set_option maxRecDepth 100000 in
theorem c_X9_shape {l : Launch} (hl9 : l.stackTraces = false) {D : va_G} {ct : Nat → ClassId} {ad : Nat → Nat} (g : Nat → Int32) (a : Nat → Nat → Int32) (d : Nat → Nat → UInt64) (v x : Int32) : ar_M l yX9_shape cX9_shape 4 (some .boolean) 2 44 D ct (mL ad ct) [.ref (ad 0), .int v, .int x] (g, a, d) (fun v9 u9 => ((vOk v = false ∨ zEx x = false) ∧ v9 = some (.int (nI 0)) ∧ u9 = (va_up g 26 (nI 0), a, d)) ∨ ∃ j9 : Nat, j9 < 8 ∧ v = nI j9 ∧ zEx x = true ∧ v9 = some (.int (nI 1)) ∧ u9 = (va_up g 26 (nI 0), va_up a 2 (va_up (a 2) j9 x), va_up d 3 (zFl (d 3) (24 * j9) 24))) (fun _ _ => False) := by
  refine ar_ofW hl9 (by decide) (Nat.le_of_ble_eq_true rfl) ?_
  intro p e s m below meth c A ls C hr hnm hW hl
  have hx := C.1
  have hb := C.2.1
  have hown := C.2.2.2.1
  have hts := C.2.2.2.2.1
  have hl : lv_has ls 4 [(0, .ref (ad 0)), (1, .int v), (2, .int x)] := hl
  refine lv_aload_n hx hb dX9_shape_0 rfl (lv_at hl 0 rfl) ?_
  refine lv_iconst (v := nI 0) hx hb dX9_shape_1 (by decide) ?_
  refine mp_thrown C hW q613 dX9_shape_2 (fun H locs hW => ?_)
  refine lv_iload_n hx hb dX9_shape_5 rfl (lv_at hl 1 rfl) ?_
  refine lv_iconst (v := nI 0) hx hb dX9_shape_6 (by decide) ?_
  refine lv_bipush (v := nI 7) hx hb dX9_shape_7 (by decide) ?_
  refine ar_callS (As := [.int v, .int (nI 0), .int (nI 7)]) (rest := []) C hW (c_X9_within hl9 _ v (nI 0) (nI 7)) q686 q687 q6 q688 hd_X9_within ⟨Nat.le_of_ble_eq_true rfl, Nat.le_of_ble_eq_true rfl⟩ hl.1 (Nat.le_of_ble_eq_true rfl) rfl dX9_shape_9 (fun _ _ _ _ _ _ hp => hp.elim) (fun v9 u9 H locs hp hW => ?_)
  obtain ⟨rfl, hu9⟩ := hp
  rw [hu9] at hW
  refine W.eq (g2 := F0 m 12 ls [.int (bI (zIn v (nI 0) (nI 7)))]) rfl ?_
  refine lb_if_eq (tgt := 22) hx hb dX9_shape_12 (by decide) (fun h1 => ?_) (fun h1 => ?_)
  · skip
    refine lv_iconst (v := nI 0) hx hb dX9_shape_22 (by decide) ?_
    exact ar_zret C hr (nI_z0.1) hW dX9_shape_23 (Or.inl ⟨by first | exact Or.inl ((zIn_v v).symm.trans h1) | exact Or.inr h2, rfl, rfl⟩)
  · skip
    obtain ⟨j, hj8, rfl⟩ := vOk_nat ((zIn_v v).symm.trans h1)
    refine lv_iload_n hx hb dX9_shape_15 rfl (lv_at hl 2 rfl) ?_
    refine ar_callS (As := [.int x]) (rest := []) C hW (c_X9_isShape hl9 _ x) q698 q699 q6 q700 hd_X9_isShape ⟨Nat.le_of_ble_eq_true rfl, Nat.le_of_ble_eq_true rfl⟩ hl.1 (Nat.le_of_ble_eq_true rfl) rfl dX9_shape_16 (fun _ _ _ _ _ _ hp => hp.elim) (fun v9 u9 H locs hp hW => ?_)
    obtain ⟨rfl, hu9⟩ := hp
    rw [hu9] at hW
    refine W.eq (g2 := F0 m 19 ls [.int (bI (zEx x))]) rfl ?_
    refine lb_if_ne (tgt := 24) hx hb dX9_shape_19 (by decide) (fun h2 => ?_) (fun h2 => ?_)
    · skip
      refine lv_aload_n hx hb dX9_shape_24 rfl (lv_at hl 0 rfl) ?_
      refine mg_shapes C hW q589 dX9_shape_25 ?_
      refine lv_iload_n hx hb dX9_shape_28 rfl (lv_at hl 1 rfl) ?_
      refine lv_iload_n hx hb dX9_shape_29 rfl (lv_at hl 2 rfl) ?_
      refine ms_shapes (j := j) C hW (by omega) dX9_shape_30 (fun H locs hW => ?_)
      refine lv_iconst (v := nI 0) hx hb dX9_shape_31 (by decide) ?_
      refine lv_istore_n (lv' := [(3, .int (nI 0)), (0, .ref (ad 0)), (1, .int (nI j)), (2, .int x)]) hx hb dX9_shape_32 rfl hl (by decide) rfl (fun ls hl => ?_)
      have lp : ∀ (N9 : Nat) (k : Nat) (f : Nat → UInt64) (H : Heap) (locs : List Loc) (ls : Array Slot), 24 - k < N9 → (k ≤ 24) → (f = zFl (d 3) (24 * j) k) → ar_W D A s.heap H locs (mL ad ct (va_up g 26 (nI 0), va_up a 2 (va_up (a 2) j x), va_up d 3 f)) → lv_has ls 4 [(0, .ref (ad 0)), (1, .int (nI j)), (2, .int x), (3, .int (nI k))] → W p l e (ar_rm 2 44) s m [.ref (ad 0), .int (nI j), .int x].toArray below meth c H locs 0 0 (ar_E below (ar_Q D ct (mL ad ct) A (fun v9 u9 => ((vOk (nI j) = false ∨ zEx x = false) ∧ v9 = some (.int (nI 0)) ∧ u9 = (va_up g 26 (nI 0), a, d)) ∨ ∃ j9 : Nat, j9 < 8 ∧ (nI j) = nI j9 ∧ zEx x = true ∧ v9 = some (.int (nI 1)) ∧ u9 = (va_up g 26 (nI 0), va_up a 2 (va_up (a 2) j9 x), va_up d 3 (zFl (d 3) (24 * j9) 24))) (fun _ _ => False)) [.ref (ad 0), .int (nI j), .int x].toArray s) (F0 m 33 ls []) := by
        intro N9
        induction N9 with
        | zero =>
          intro k f H locs ls hN9
          exact absurd hN9 (Nat.not_lt_zero _)
        | succ N9 ihlp =>
          intro k f H locs ls hN9 hk hf hW hl
          refine lv_iload_n hx hb dX9_shape_33 rfl (lv_at hl 3 rfl) ?_
          refine lv_bipush (v := nI 24) hx hb dX9_shape_34 (by decide) ?_
          refine ln_icmp_ge (tgt := 57) hx hb dX9_shape_36 (by decide) (by omega) (by omega) (fun h3 => ?_) (fun h3 => ?_)
          · skip
            refine lv_iconst (v := nI 1) hx hb dX9_shape_57 (by decide) ?_
            exact ar_zret C hr (nI_z1.1) hW dX9_shape_58 (Or.inr ⟨j, hj8, rfl, h2, rfl, by rw [hf, show k = 24 by omega]⟩)
          · skip
            refine lv_aload_n hx hb dX9_shape_39 rfl (lv_at hl 0 rfl) ?_
            refine mg_cells C hW q590 dX9_shape_40 ?_
            refine lv_bipush (v := nI 24) hx hb dX9_shape_43 (by decide) ?_
            refine lv_iload_n hx hb dX9_shape_45 rfl (lv_at hl 1 rfl) ?_
            refine ln_imul hx hb dX9_shape_46 ?_
            refine lv_iload_n hx hb dX9_shape_47 rfl (lv_at hl 3 rfl) ?_
            refine ln_iadd hx hb dX9_shape_48 ?_
            refine lv_dconst0 hx hb dX9_shape_49 ?_
            refine ms_cells (j := (24 * j) + k) C hW (by omega) dX9_shape_50 (fun H locs hW => ?_)
            simp only [bx_uu, va_up_self] at hW
            refine ln_iinc (k := 3) (n := 1) (lv' := [(3, .int (nI (k + 1))), (0, .ref (ad 0)), (1, .int (nI j)), (2, .int x)]) hx hb dX9_shape_51 hl rfl (by decide) rfl (fun ls hl => ?_)
            refine lv_goto (tgt := 33) hx hb dX9_shape_54 (by decide) ?_
            exact ihlp (k + 1) (va_up f (24 * j + k) FP.dconst0) _ _ _ (by omega) (by omega) (zFl_s hf) (hW) (lv_sub hl [1, 2, 3, 0] rfl)
      exact lp _ 0 (d 3) _ _ _ (Nat.lt_succ_self _) (by omega) (zFl_0) (by rw [va_up_id]; exact hW) (lv_sub hl [1, 2, 3, 0] rfl)
    · skip
      refine lv_iconst (v := nI 0) hx hb dX9_shape_22 (by decide) ?_
      exact ar_zret C hr (nI_z0.1) hW dX9_shape_23 (Or.inl ⟨by first | exact Or.inl ((zIn_v v).symm.trans h1) | exact Or.inr h2, rfl, rfl⟩)
theorem hd_X9_has : yX9_has.cls ≠ "java/lang/invoke/MethodHandle" ∧ yX9_has.cls ≠ "java/lang/invoke/VarHandle" ∧ (parseMethodDescriptor yX9_has.desc).map (fun d => d.parameters.length) = some 2 := by decide +kernel
set_option maxHeartbeats 4000000 in
set_option maxRecDepth 100000 in
theorem c_X9_has {l : Launch} (hl9 : l.stackTraces = false) {D : va_G} {ct : Nat → ClassId} {ad : Nat → Nat} (g : Nat → Int32) (a : Nat → Nat → Int32) (d : Nat → Nat → UInt64) (v i : Int32) (vs : Nat → Nat) (hvs : ∀ j, j < 8 → a 2 j = nI (vs j)) (hvl : ∀ j, j < 8 → vs j < 2 ^ 20) (hvc : ∀ j, j < 8 → 1 ≤ zCt (vs j) ∧ zCt (vs j) ≤ 24) : ar_M l yX9_has cX9_has 3 (some .boolean) 1 22 D ct (mL ad ct) [.ref (ad 0), .int v, .int i] (g, a, d) (fun v9 u9 => u9 = (g, a, d) ∧ (((vOk v = false ∨ ∃ j : Nat, j < 8 ∧ v = nI j ∧ zHas i (zCt (vs j)) = false) ∧ v9 = some (.int (bI false))) ∨ ∃ j i9 : Nat, j < 8 ∧ v = nI j ∧ i9 < zCt (vs j) ∧ i = nI i9 ∧ v9 = some (.int (bI true)))) (fun _ _ => False) := by
  refine ar_ofW hl9 (by decide) (Nat.le_of_ble_eq_true rfl) ?_
  intro p e s m below meth c A ls C hr hnm hW hl
  have hx := C.1
  have hb := C.2.1
  have hown := C.2.2.2.1
  have hts := C.2.2.2.2.1
  have hl : lv_has ls 3 [(0, .ref (ad 0)), (1, .int v), (2, .int i)] := hl
  refine lv_iload_n hx hb dX9_has_0 rfl (lv_at hl 1 rfl) ?_
  refine lv_iconst (v := nI 0) hx hb dX9_has_1 (by decide) ?_
  refine lv_bipush (v := nI 7) hx hb dX9_has_2 (by decide) ?_
  refine ar_callS (As := [.int v, .int (nI 0), .int (nI 7)]) (rest := []) C hW (c_X9_within hl9 _ v (nI 0) (nI 7)) q686 q687 q6 q688 hd_X9_within ⟨Nat.le_of_ble_eq_true rfl, Nat.le_of_ble_eq_true rfl⟩ hl.1 (Nat.le_of_ble_eq_true rfl) rfl dX9_has_4 (fun _ _ _ _ _ _ hp => hp.elim) (fun v9 u9 H locs hp hW => ?_)
  obtain ⟨rfl, hu9⟩ := hp
  rw [hu9] at hW
  refine W.eq (g2 := F0 m 7 ls [.int (bI (zIn v (nI 0) (nI 7)))]) rfl ?_
  refine lb_if_eq (tgt := 33) hx hb dX9_has_7 (by decide) (fun h1 => ?_) (fun h1 => ?_)
  · skip
    refine lv_iconst (v := nI 0) hx hb dX9_has_33 (by decide) ?_
    exact ar_zret C hr (nI_z0.1) hW dX9_has_34 (⟨rfl, Or.inl ⟨by first | exact Or.inl ((zIn_v v).symm.trans h1) | exact Or.inr ⟨j, hj8, rfl, (zIn_has (hvc j hj8).1 (by have := hvc j hj8; omega)).symm.trans h2⟩, rfl⟩⟩)
  · skip
    obtain ⟨j, hj8, rfl⟩ := vOk_nat ((zIn_v v).symm.trans h1)
    refine lv_iload_n hx hb dX9_has_10 rfl (lv_at hl 2 rfl) ?_
    refine lv_iconst (v := nI 0) hx hb dX9_has_11 (by decide) ?_
    refine lv_aload_n hx hb dX9_has_12 rfl (lv_at hl 0 rfl) ?_
    refine mg_shapes C hW q589 dX9_has_13 ?_
    refine lv_iload_n hx hb dX9_has_16 rfl (lv_at hl 1 rfl) ?_
    refine ml_shapes (j := j) C hW (by omega) dX9_has_17 ?_
    refine ln_top (hvs j hj8) ?_
    refine ar_callS (As := [.int (nI (vs j))]) (rest := [.int (nI 0), .int i]) C hW (c_X9_count hl9 _ (vs j) (by have := hvl j hj8; omega)) q709 q710 q6 q711 hd_X9_count ⟨Nat.le_of_ble_eq_true rfl, Nat.le_of_ble_eq_true rfl⟩ hl.1 (Nat.le_of_ble_eq_true rfl) rfl dX9_has_18 (fun _ _ _ _ _ _ hp => hp.elim) (fun v9 u9 H locs hp hW => ?_)
    obtain ⟨rfl, hu9⟩ := hp
    rw [hu9] at hW
    refine W.eq (g2 := F0 m 21 ls [.int (nI (zCt (vs j))), .int (nI 0), .int i]) rfl ?_
    refine lv_iconst (v := nI 1) hx hb dX9_has_21 (by decide) ?_
    refine ln_isub hx hb dX9_has_22 ((hvc j hj8).1) ?_
    refine ar_callS (As := [.int i, .int (nI 0), .int (nI ((zCt (vs j)) - 1))]) (rest := []) C hW (c_X9_within hl9 _ i (nI 0) (nI ((zCt (vs j)) - 1))) q686 q687 q6 q688 hd_X9_within ⟨Nat.le_of_ble_eq_true rfl, Nat.le_of_ble_eq_true rfl⟩ hl.1 (Nat.le_of_ble_eq_true rfl) rfl dX9_has_23 (fun _ _ _ _ _ _ hp => hp.elim) (fun v9 u9 H locs hp hW => ?_)
    obtain ⟨rfl, hu9⟩ := hp
    rw [hu9] at hW
    refine W.eq (g2 := F0 m 26 ls [.int (bI (zIn i (nI 0) (nI ((zCt (vs j)) - 1))))]) rfl ?_
    refine lb_if_eq (tgt := 33) hx hb dX9_has_26 (by decide) (fun h2 => ?_) (fun h2 => ?_)
    · skip
      refine lv_iconst (v := nI 0) hx hb dX9_has_33 (by decide) ?_
      exact ar_zret C hr (nI_z0.1) hW dX9_has_34 (⟨rfl, Or.inl ⟨by first | exact Or.inl ((zIn_v v).symm.trans h1) | exact Or.inr ⟨j, hj8, rfl, (zIn_has (hvc j hj8).1 (by have := hvc j hj8; omega)).symm.trans h2⟩, rfl⟩⟩)
    · skip
      refine lv_iconst (v := nI 1) hx hb dX9_has_29 (by decide) ?_
      refine lv_goto (tgt := 34) hx hb dX9_has_30 (by decide) ?_
      exact ar_zret C hr (nI_z1.1) hW dX9_has_34 (⟨rfl, by obtain ⟨i9, h9, rfl⟩ := zHas_nat (by have := hvc j hj8; omega) ((zIn_has (hvc j hj8).1 (by have := hvc j hj8; omega)).symm.trans h2); exact Or.inr ⟨j, i9, hj8, rfl, h9, rfl, rfl⟩⟩)
theorem hd_X9_set : yX9_set.cls ≠ "java/lang/invoke/MethodHandle" ∧ yX9_set.cls ≠ "java/lang/invoke/VarHandle" ∧ (parseMethodDescriptor yX9_set.desc).map (fun d => d.parameters.length) = some 3 := by decide +kernel
set_option maxHeartbeats 4000000 in
set_option maxRecDepth 100000 in
theorem c_X9_set {l : Launch} (hl9 : l.stackTraces = false) {D : va_G} {ct : Nat → ClassId} {ad : Nat → Nat} (g : Nat → Int32) (a : Nat → Nat → Int32) (d : Nat → Nat → UInt64) (v i : Int32) (x : UInt64) (vs : Nat → Nat) (hvs : ∀ j, j < 8 → a 2 j = nI (vs j)) (hvl : ∀ j, j < 8 → vs j < 2 ^ 20) (hvc : ∀ j, j < 8 → 1 ≤ zCt (vs j) ∧ zCt (vs j) ≤ 24) : ar_M l yX9_set cX9_set 5 (some .boolean) 2 44 D ct (mL ad ct) [.ref (ad 0), .int v, .int i, .double x] (g, a, d) (fun v9 u9 => ((vOk v = false ∨ (∃ j : Nat, j < 8 ∧ v = nI j ∧ zHas i (zCt (vs j)) = false) ∨ zRg x = false) ∧ v9 = some (.int (nI 0)) ∧ u9 = (va_up g 26 (nI 0), a, d)) ∨ ∃ j i9 : Nat, j < 8 ∧ v = nI j ∧ i9 < zCt (vs j) ∧ i = nI i9 ∧ zRg x = true ∧ v9 = some (.int (nI 1)) ∧ u9 = (va_up g 26 (nI 0), a, va_up d 3 (va_up (d 3) (24 * j + i9) x))) (fun _ _ => False) := by
  refine ar_ofW hl9 (by decide) (Nat.le_of_ble_eq_true rfl) ?_
  intro p e s m below meth c A ls C hr hnm hW hl
  have hx := C.1
  have hb := C.2.1
  have hown := C.2.2.2.1
  have hts := C.2.2.2.2.1
  have hl : lv_has ls 5 [(0, .ref (ad 0)), (1, .int v), (2, .int i), (3, .double x)] := hl
  refine lv_aload_n hx hb dX9_set_0 rfl (lv_at hl 0 rfl) ?_
  refine lv_iconst (v := nI 0) hx hb dX9_set_1 (by decide) ?_
  refine mp_thrown C hW q613 dX9_set_2 (fun H locs hW => ?_)
  refine lv_aload_n hx hb dX9_set_5 rfl (lv_at hl 0 rfl) ?_
  refine lv_iload_n hx hb dX9_set_6 rfl (lv_at hl 1 rfl) ?_
  refine lv_iload_n hx hb dX9_set_7 rfl (lv_at hl 2 rfl) ?_
  refine ar_callV (q0 := 0) (ci := 7) (T9 := TX9) (N9 := 27) (As := [.int v, .int i]) (rest := []) C hW (c_X9_has hl9 (va_up g 26 (nI 0)) a d v i vs hvs hvl hvc) (rfl) rfl q705 q707 qs1 q6 q708 hd_X9_has ⟨Nat.le_of_ble_eq_true rfl, Nat.le_of_ble_eq_true rfl⟩ hl.1 (Nat.le_of_ble_eq_true rfl) rfl dX9_set_8 (fun _ _ _ _ _ _ hp => hp.elim) (fun v9 u9 H locs hp hW => ?_)
  obtain ⟨hu9, hp⟩ := hp
  rw [hu9] at hW
  obtain ⟨b9, rfl, hb9⟩ : ∃ b9, v9 = some (.int (bI b9)) ∧ ((b9 = false ∧ (vOk v = false ∨ ∃ j : Nat, j < 8 ∧ v = nI j ∧ zHas i (zCt (vs j)) = false)) ∨ (b9 = true ∧ ∃ j i9 : Nat, j < 8 ∧ v = nI j ∧ i9 < zCt (vs j) ∧ i = nI i9)) := by
    rcases hp with ⟨h, rfl⟩ | ⟨j, i9, h1, h2, h3, h4, rfl⟩
    · exact ⟨false, rfl, Or.inl ⟨rfl, h⟩⟩
    · exact ⟨true, rfl, Or.inr ⟨rfl, j, i9, h1, h2, h3, h4⟩⟩
  refine W.eq (g2 := F0 m 11 ls [.int (bI b9)]) rfl ?_
  refine lb_if_eq (tgt := 21) hx hb dX9_set_11 (by decide) (fun h1 => ?_) (fun h1 => ?_)
  · skip
    have hno : (vOk v = false ∨ ∃ j : Nat, j < 8 ∧ v = nI j ∧ zHas i (zCt (vs j)) = false) := by
      rcases hb9 with ⟨-, q⟩ | ⟨q, -⟩
      · exact q
      · exact absurd (q.symm.trans h1) (by decide)
    refine lv_iconst (v := nI 0) hx hb dX9_set_21 (by decide) ?_
    exact ar_zret C hr (nI_z0.1) hW dX9_set_22 (Or.inl ⟨by first | (rcases hno with q | q; exact Or.inl q; exact Or.inr (Or.inl q)) | exact Or.inr (Or.inr h2), rfl, rfl⟩)
  · skip
    obtain ⟨j, i9, hj8, rfl, hi9, rfl⟩ : ∃ j i9 : Nat, j < 8 ∧ v = nI j ∧ i9 < zCt (vs j) ∧ i = nI i9 := by
      rcases hb9 with ⟨q, -⟩ | ⟨-, q⟩
      · exact absurd (q.symm.trans h1) (by decide)
      · exact q
    have hct9 := hvc j hj8
    refine lv_dload_n hx hb dX9_set_14 rfl (lv_at hl 3 rfl) ?_
    refine ar_callS (As := [.double x]) (rest := []) C hW (c_X9_fits hl9 _ x) q689 q690 q6 q691 hd_X9_fits ⟨Nat.le_of_ble_eq_true rfl, Nat.le_of_ble_eq_true rfl⟩ hl.1 (Nat.le_of_ble_eq_true rfl) rfl dX9_set_15 (fun _ _ _ _ _ _ hp => hp.elim) (fun v9 u9 H locs hp hW => ?_)
    obtain ⟨rfl, hu9⟩ := hp
    rw [hu9] at hW
    refine W.eq (g2 := F0 m 18 ls [.int (bI (zRg x))]) rfl ?_
    refine lb_if_ne (tgt := 23) hx hb dX9_set_18 (by decide) (fun h2 => ?_) (fun h2 => ?_)
    · skip
      refine lv_aload_n hx hb dX9_set_23 rfl (lv_at hl 0 rfl) ?_
      refine mg_cells C hW q590 dX9_set_24 ?_
      refine lv_bipush (v := nI 24) hx hb dX9_set_27 (by decide) ?_
      refine lv_iload_n hx hb dX9_set_29 rfl (lv_at hl 1 rfl) ?_
      refine ln_imul hx hb dX9_set_30 ?_
      refine lv_iload_n hx hb dX9_set_31 rfl (lv_at hl 2 rfl) ?_
      refine ln_iadd hx hb dX9_set_32 ?_
      refine lv_dload_n hx hb dX9_set_33 rfl (lv_at hl 3 rfl) ?_
      refine ms_cells (j := (24 * j) + i9) C hW (by omega) dX9_set_34 (fun H locs hW => ?_)
      refine lv_iconst (v := nI 1) hx hb dX9_set_35 (by decide) ?_
      exact ar_zret C hr (nI_z1.1) hW dX9_set_36 (Or.inr ⟨j, i9, hj8, rfl, hi9, rfl, h2, rfl, rfl⟩)
    · skip
      refine lv_iconst (v := nI 0) hx hb dX9_set_21 (by decide) ?_
      exact ar_zret C hr (nI_z0.1) hW dX9_set_22 (Or.inl ⟨by first | (rcases hno with q | q; exact Or.inl q; exact Or.inr (Or.inl q)) | exact Or.inr (Or.inr h2), rfl, rfl⟩)
theorem hd_X9_at : yX9_at.cls ≠ "java/lang/invoke/MethodHandle" ∧ yX9_at.cls ≠ "java/lang/invoke/VarHandle" ∧ (parseMethodDescriptor yX9_at.desc).map (fun d => d.parameters.length) = some 2 := by decide +kernel
set_option maxHeartbeats 4000000 in
set_option maxRecDepth 100000 in
theorem c_X9_at {l : Launch} (hl9 : l.stackTraces = false) {D : va_G} {ct : Nat → ClassId} {ad : Nat → Nat} (g : Nat → Int32) (a : Nat → Nat → Int32) (d : Nat → Nat → UInt64) (v i : Int32) (vs : Nat → Nat) (hvs : ∀ j, j < 8 → a 2 j = nI (vs j)) (hvl : ∀ j, j < 8 → vs j < 2 ^ 20) (hvc : ∀ j, j < 8 → 1 ≤ zCt (vs j) ∧ zCt (vs j) ≤ 24) : ar_M l yX9_at cX9_at 3 (some .double) 2 44 D ct (mL ad ct) [.ref (ad 0), .int v, .int i] (g, a, d) (fun v9 u9 => u9 = (va_up g 26 (nI 0), a, d) ∧ (((vOk v = false ∨ ∃ j : Nat, j < 8 ∧ v = nI j ∧ zHas i (zCt (vs j)) = false) ∧ v9 = some (.double FP.dconst0)) ∨ ∃ j i9 : Nat, j < 8 ∧ v = nI j ∧ i9 < zCt (vs j) ∧ i = nI i9 ∧ v9 = some (.double (d 3 (24 * j + i9))))) (fun _ _ => False) := by
  refine ar_ofW hl9 (by decide) (Nat.le_of_ble_eq_true rfl) ?_
  intro p e s m below meth c A ls C hr hnm hW hl
  have hx := C.1
  have hb := C.2.1
  have hown := C.2.2.2.1
  have hts := C.2.2.2.2.1
  have hl : lv_has ls 3 [(0, .ref (ad 0)), (1, .int v), (2, .int i)] := hl
  refine lv_aload_n hx hb dX9_at_0 rfl (lv_at hl 0 rfl) ?_
  refine lv_iconst (v := nI 0) hx hb dX9_at_1 (by decide) ?_
  refine mp_thrown C hW q613 dX9_at_2 (fun H locs hW => ?_)
  refine lv_aload_n hx hb dX9_at_5 rfl (lv_at hl 0 rfl) ?_
  refine lv_iload_n hx hb dX9_at_6 rfl (lv_at hl 1 rfl) ?_
  refine lv_iload_n hx hb dX9_at_7 rfl (lv_at hl 2 rfl) ?_
  refine ar_callV (q0 := 0) (ci := 7) (T9 := TX9) (N9 := 27) (As := [.int v, .int i]) (rest := []) C hW (c_X9_has hl9 (va_up g 26 (nI 0)) a d v i vs hvs hvl hvc) (rfl) rfl q705 q707 qs1 q6 q708 hd_X9_has ⟨Nat.le_of_ble_eq_true rfl, Nat.le_of_ble_eq_true rfl⟩ hl.1 (Nat.le_of_ble_eq_true rfl) rfl dX9_at_8 (fun _ _ _ _ _ _ hp => hp.elim) (fun v9 u9 H locs hp hW => ?_)
  obtain ⟨hu9, hp⟩ := hp
  rw [hu9] at hW
  obtain ⟨b9, rfl, hb9⟩ : ∃ b9, v9 = some (.int (bI b9)) ∧ ((b9 = false ∧ (vOk v = false ∨ ∃ j : Nat, j < 8 ∧ v = nI j ∧ zHas i (zCt (vs j)) = false)) ∨ (b9 = true ∧ ∃ j i9 : Nat, j < 8 ∧ v = nI j ∧ i9 < zCt (vs j) ∧ i = nI i9)) := by
    rcases hp with ⟨h, rfl⟩ | ⟨j, i9, h1, h2, h3, h4, rfl⟩
    · exact ⟨false, rfl, Or.inl ⟨rfl, h⟩⟩
    · exact ⟨true, rfl, Or.inr ⟨rfl, j, i9, h1, h2, h3, h4⟩⟩
  refine W.eq (g2 := F0 m 11 ls [.int (bI b9)]) rfl ?_
  refine lb_if_eq (tgt := 28) hx hb dX9_at_11 (by decide) (fun h1 => ?_) (fun h1 => ?_)
  · skip
    have hno : (vOk v = false ∨ ∃ j : Nat, j < 8 ∧ v = nI j ∧ zHas i (zCt (vs j)) = false) := by
      rcases hb9 with ⟨-, q⟩ | ⟨q, -⟩
      · exact q
      · exact absurd (q.symm.trans h1) (by decide)
    refine lv_dconst0 hx hb dX9_at_28 ?_
    exact ar_dret C hr hW dX9_at_29 (⟨rfl, Or.inl ⟨hno, rfl⟩⟩)
  · skip
    obtain ⟨j, i9, hj8, rfl, hi9, rfl⟩ : ∃ j i9 : Nat, j < 8 ∧ v = nI j ∧ i9 < zCt (vs j) ∧ i = nI i9 := by
      rcases hb9 with ⟨q, -⟩ | ⟨-, q⟩
      · exact absurd (q.symm.trans h1) (by decide)
      · exact q
    have hct9 := hvc j hj8
    refine lv_aload_n hx hb dX9_at_14 rfl (lv_at hl 0 rfl) ?_
    refine mg_cells C hW q590 dX9_at_15 ?_
    refine lv_bipush (v := nI 24) hx hb dX9_at_18 (by decide) ?_
    refine lv_iload_n hx hb dX9_at_20 rfl (lv_at hl 1 rfl) ?_
    refine ln_imul hx hb dX9_at_21 ?_
    refine lv_iload_n hx hb dX9_at_22 rfl (lv_at hl 2 rfl) ?_
    refine ln_iadd hx hb dX9_at_23 ?_
    refine ml_cells (j := (24 * j) + i9) C hW (by omega) dX9_at_24 ?_
    refine lv_goto (tgt := 29) hx hb dX9_at_25 (by decide) ?_
    exact ar_dret C hr hW dX9_at_29 (⟨rfl, Or.inr ⟨j, i9, hj8, rfl, hi9, rfl, rfl⟩⟩)
