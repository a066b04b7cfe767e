theorem hd_X9_turn : yX9_turn.cls ≠ "java/lang/invoke/MethodHandle" ∧ yX9_turn.cls ≠ "java/lang/invoke/VarHandle" ∧ (parseMethodDescriptor yX9_turn.desc).map (fun d => d.parameters.length) = some 0 := by decide +kernel
set_option maxHeartbeats 4000000 in
set_option maxRecDepth 100000 in
theorem c_X9_turn {l : Launch} (hl9 : l.stackTraces = false) {D : va_G} {ct : Nat → ClassId} {ad : Nat → Nat} (g : Nat → Int32) (a : Nat → Nat → Int32) (d : Nat → Nat → UInt64) (s9 : Nat) (hos : zOk s9 = true) (hns : g 15 = nI s9) : ar_M l yX9_turn cX9_turn 4 none 0 0 D ct (mL ad ct) [.ref (ad 0)] (g, a, d) (fun v9 u9 => v9 = none ∧ ∃ f h : Nat → UInt64, (∀ q, q < zCt s9 → f q = d 8 (zTq s9 q)) ∧ u9 = (va_up g 15 (nI (zTrn s9)), a, va_up (va_up d 9 h) 8 f)) (fun _ _ => False) := by
  refine ar_ofW hl9 (by decide) (Nat.le_of_ble_eq_true rfl) ?_
  intro p e s m below meth c A ls C hr hnm hW hl
  have hx := C.1
  have hb := C.2.1
  have hown := C.2.2.2.1
  have hts := C.2.2.2.2.1
  have hl : lv_has ls 4 [(0, .ref (ad 0))] := hl
  have hds := zOk_num hos
  have hdd := zOk_d hos
  refine lv_aload_n hx hb dX9_turn_0 rfl (lv_at hl 0 rfl) ?_
  refine mg_nowShape C hW q602 dX9_turn_1 ?_
  refine ln_top (hns) ?_
  refine lv_bipush (v := nI 32) hx hb dX9_turn_4 (by decide) ?_
  refine ln_icmp_ge (tgt := 10) hx hb dX9_turn_6 (by decide) (by omega) (by omega) (fun h1 => ?_) (fun h1 => ?_)
  · skip
    have h32 : 32 ≤ s9 := by omega
    have eL : zLn s9 = s9 / 32 := by unfold zLn; rw [if_pos (by omega)]
    have eG : zLg s9 = s9 % 32 := by unfold zLg; rw [if_neg (by omega)]
    rw [eL, eG] at hdd
    have hct : zCt s9 = s9 / 32 * (s9 % 32) := by unfold zCt; rw [eL, eG]
    have hcq := hds.2.2.1
    rw [hct] at hcq
    refine lv_aload_n hx hb dX9_turn_10 rfl (lv_at hl 0 rfl) ?_
    refine mg_nowShape C hW q602 dX9_turn_11 ?_
    refine ln_top (hns) ?_
    refine lv_bipush (v := nI 32) hx hb dX9_turn_14 (by decide) ?_
    refine ln_idiv hx hb dX9_turn_16 (by omega) (by omega) (by omega) ?_
    refine lv_istore_n (lv' := [(1, .int (nI (s9 / 32))), (0, .ref (ad 0))]) hx hb dX9_turn_17 rfl hl (by decide) rfl (fun ls hl => ?_)
    refine lv_aload_n hx hb dX9_turn_18 rfl (lv_at hl 1 rfl) ?_
    refine mg_nowShape C hW q602 dX9_turn_19 ?_
    refine ln_top (hns) ?_
    refine lv_bipush (v := nI 32) hx hb dX9_turn_22 (by decide) ?_
    refine ln_irem hx hb dX9_turn_24 (by omega) (by omega) (by omega) ?_
    refine lv_istore_n (lv' := [(2, .int (nI (s9 % 32))), (1, .int (nI (s9 / 32))), (0, .ref (ad 0))]) hx hb dX9_turn_25 rfl hl (by decide) rfl (fun ls hl => ?_)
    refine lv_iconst (v := nI 0) hx hb dX9_turn_26 (by decide) ?_
    refine lv_istore_n (lv' := [(3, .int (nI 0)), (2, .int (nI (s9 % 32))), (1, .int (nI (s9 / 32))), (0, .ref (ad 0))]) hx hb dX9_turn_27 rfl hl (by decide) rfl (fun ls hl => ?_)
    have lp : ∀ (N9 : Nat) (k : Nat) (h : Nat → UInt64) (H : Heap) (locs : List Loc) (ls : Array Slot), 24 - k < N9 → (k ≤ 24) → (∀ q, q < k → h q = d 8 q) → ar_W D A s.heap H locs (mL ad ct (g, a, va_up d 9 h)) → lv_has ls 4 [(0, .ref (ad 0)), (1, .int (nI (s9 / 32))), (2, .int (nI (s9 % 32))), (3, .int (nI k))] → W p l e (ar_rm 0 0) s m [.ref (ad 0)].toArray below meth c H locs 0 0 (ar_E below (ar_Q D ct (mL ad ct) A (fun v9 u9 => v9 = none ∧ ∃ f h : Nat → UInt64, (∀ q, q < zCt s9 → f q = d 8 (zTq s9 q)) ∧ u9 = (va_up g 15 (nI (zTrn s9)), a, va_up (va_up d 9 h) 8 f)) (fun _ _ => False)) [.ref (ad 0)].toArray s) (F0 m 28 ls []) := by
      intro N9
      induction N9 with
      | zero =>
        intro k h H locs ls hN9
        exact absurd hN9 (Nat.not_lt_zero _)
      | succ N9 ihlp =>
        intro k h H locs ls hN9 hk hh hW hl
        refine lv_iload_n hx hb dX9_turn_28 rfl (lv_at hl 3 rfl) ?_
        refine lv_bipush (v := nI 24) hx hb dX9_turn_29 (by decide) ?_
        refine ln_icmp_ge (tgt := 52) hx hb dX9_turn_31 (by decide) (by omega) (by omega) (fun h2 => ?_) (fun h2 => ?_)
        · skip
          refine lv_iconst (v := nI 0) hx hb dX9_turn_52 (by decide) ?_
          refine lv_istore_n (lv' := [(3, .int (nI 0)), (0, .ref (ad 0)), (1, .int (nI (s9 / 32))), (2, .int (nI (s9 % 32)))]) hx hb dX9_turn_53 rfl hl (by decide) rfl (fun ls hl => ?_)
          have lq : ∀ (N9 : Nat) (j : Nat) (f : Nat → UInt64) (H : Heap) (locs : List Loc) (ls : Array Slot), s9 / 32 * (s9 % 32) - j < N9 → (j ≤ s9 / 32 * (s9 % 32)) → (∀ q, q < j → f q = h (q % (s9 / 32) * (s9 % 32) + q / (s9 / 32))) → ar_W D A s.heap H locs (mL ad ct (g, a, va_up (va_up d 9 h) 8 f)) → lv_has ls 4 [(0, .ref (ad 0)), (1, .int (nI (s9 / 32))), (2, .int (nI (s9 % 32))), (3, .int (nI j))] → W p l e (ar_rm 0 0) s m [.ref (ad 0)].toArray below meth c H locs 0 0 (ar_E below (ar_Q D ct (mL ad ct) A (fun v9 u9 => v9 = none ∧ ∃ f h : Nat → UInt64, (∀ q, q < zCt s9 → f q = d 8 (zTq s9 q)) ∧ u9 = (va_up g 15 (nI (zTrn s9)), a, va_up (va_up d 9 h) 8 f)) (fun _ _ => False)) [.ref (ad 0)].toArray s) (F0 m 54 ls []) := by
            intro N9
            induction N9 with
            | zero =>
              intro j f H locs ls hN9
              exact absurd hN9 (Nat.not_lt_zero _)
            | succ N9 ihlq =>
              intro j f H locs ls hN9 hj hf hW hl
              refine lv_iload_n hx hb dX9_turn_54 rfl (lv_at hl 3 rfl) ?_
              refine lv_iload_n hx hb dX9_turn_55 rfl (lv_at hl 1 rfl) ?_
              refine lv_iload_n hx hb dX9_turn_56 rfl (lv_at hl 2 rfl) ?_
              refine ln_imul hx hb dX9_turn_57 ?_
              refine ln_icmp_ge (tgt := 87) hx hb dX9_turn_58 (by decide) (by omega) (by omega) (fun h3 => ?_) (fun h3 => ?_)
              · skip
                refine lv_aload_n hx hb dX9_turn_87 rfl (lv_at hl 0 rfl) ?_
                refine lv_bipush (v := nI 32) hx hb dX9_turn_88 (by decide) ?_
                refine lv_iload_n hx hb dX9_turn_90 rfl (lv_at hl 2 rfl) ?_
                refine ln_imul hx hb dX9_turn_91 ?_
                refine lv_iload_n hx hb dX9_turn_92 rfl (lv_at hl 1 rfl) ?_
                refine ln_iadd hx hb dX9_turn_93 ?_
                refine mp_nowShape C hW q602 dX9_turn_94 (fun H locs hW => ?_)
                exact ar_vret C hr hW dX9_turn_97 (⟨rfl, f, h, fun q hq => by rw [hf q (by omega)]; unfold zTq zTb; rw [if_pos (by rw [decide_eq_true_eq]; omega), eL, eG]; exact hh _ (by have h71 := Nat.mod_lt q (show 0 < s9 / 32 by omega); have h72 : q / (s9 / 32) < s9 % 32 := Nat.div_lt_of_lt_mul (by omega); have h73 := zIx h71 h72; omega), by rw [show zTrn s9 = 32 * (s9 % 32) + s9 / 32 by unfold zTrn zTb; rw [if_pos (by rw [decide_eq_true_eq]; omega), eL, eG]; omega]⟩)
              · skip
                refine lv_aload_n hx hb dX9_turn_61 rfl (lv_at hl 0 rfl) ?_
                refine mg_now C hW q597 dX9_turn_62 ?_
                refine lv_iload_n hx hb dX9_turn_65 rfl (lv_at hl 3 rfl) ?_
                refine lv_aload_n hx hb dX9_turn_66 rfl (lv_at hl 0 rfl) ?_
                refine mg_part C hW q598 dX9_turn_67 ?_
                refine lv_iload_n hx hb dX9_turn_70 rfl (lv_at hl 3 rfl) ?_
                refine lv_iload_n hx hb dX9_turn_71 rfl (lv_at hl 1 rfl) ?_
                refine ln_irem hx hb dX9_turn_72 (by omega) (by omega) (by omega) ?_
                refine lv_iload_n hx hb dX9_turn_73 rfl (lv_at hl 2 rfl) ?_
                refine ln_imul hx hb dX9_turn_74 ?_
                refine lv_iload_n hx hb dX9_turn_75 rfl (lv_at hl 3 rfl) ?_
                refine lv_iload_n hx hb dX9_turn_76 rfl (lv_at hl 1 rfl) ?_
                refine ln_idiv hx hb dX9_turn_77 (by omega) (by omega) (by omega) ?_
                refine ln_iadd hx hb dX9_turn_78 ?_
                refine ml_part (j := ((j % (s9 / 32)) * (s9 % 32)) + (j / (s9 / 32))) C hW (by first | omega | (have h71 := Nat.mod_lt j (show 0 < s9 / 32 by omega); have h72 : j / (s9 / 32) < s9 % 32 := Nat.div_lt_of_lt_mul (by omega); have h73 := zIx h71 h72; omega)) dX9_turn_79 ?_
                rw [va_up_ne _ _ (by omega)]
                rw [va_up_self]
                refine ms_now (j := j) C hW (by first | omega | (have h71 := Nat.mod_lt j (show 0 < s9 / 32 by omega); have h72 : j / (s9 / 32) < s9 % 32 := Nat.div_lt_of_lt_mul (by omega); have h73 := zIx h71 h72; omega)) dX9_turn_80 (fun H locs hW => ?_)
                simp only [bx_uu, va_up_self] at hW
                refine ln_iinc (k := 3) (n := 1) (lv' := [(3, .int (nI (j + 1))), (0, .ref (ad 0)), (1, .int (nI (s9 / 32))), (2, .int (nI (s9 % 32)))]) hx hb dX9_turn_81 hl rfl (by decide) rfl (fun ls hl => ?_)
                refine lv_goto (tgt := 54) hx hb dX9_turn_84 (by decide) ?_
                exact ihlq (j + 1) (va_up f j (h (j % (s9 / 32) * (s9 % 32) + j / (s9 / 32)))) _ _ _ (by omega) (by omega) (fill_p (F := fun q => h (q % (s9 / 32) * (s9 % 32) + q / (s9 / 32))) hf) (hW) (lv_sub hl [1, 2, 3, 0] rfl)
          exact lq _ 0 (va_up d 9 h 8) _ _ _ (Nat.lt_succ_self _) (Nat.zero_le _) (fun q hq => absurd hq (Nat.not_lt_zero _)) (by rw [va_up_id]; exact hW) (lv_sub hl [1, 2, 3, 0] rfl)
        · skip
          refine lv_aload_n hx hb dX9_turn_34 rfl (lv_at hl 0 rfl) ?_
          refine mg_part C hW q598 dX9_turn_35 ?_
          refine lv_iload_n hx hb dX9_turn_38 rfl (lv_at hl 3 rfl) ?_
          refine lv_aload_n hx hb dX9_turn_39 rfl (lv_at hl 0 rfl) ?_
          refine mg_now C hW q597 dX9_turn_40 ?_
          refine lv_iload_n hx hb dX9_turn_43 rfl (lv_at hl 3 rfl) ?_
          refine ml_now (j := k) C hW (by first | omega | (have h71 := Nat.mod_lt j (show 0 < s9 / 32 by omega); have h72 : j / (s9 / 32) < s9 % 32 := Nat.div_lt_of_lt_mul (by omega); have h73 := zIx h71 h72; omega)) dX9_turn_44 ?_
          rw [va_up_ne _ _ (by omega)]
          refine ms_part (j := k) C hW (by first | omega | (have h71 := Nat.mod_lt j (show 0 < s9 / 32 by omega); have h72 : j / (s9 / 32) < s9 % 32 := Nat.div_lt_of_lt_mul (by omega); have h73 := zIx h71 h72; omega)) dX9_turn_45 (fun H locs hW => ?_)
          simp only [bx_uu, va_up_self] at hW
          refine ln_iinc (k := 3) (n := 1) (lv' := [(3, .int (nI (k + 1))), (0, .ref (ad 0)), (1, .int (nI (s9 / 32))), (2, .int (nI (s9 % 32)))]) hx hb dX9_turn_46 hl rfl (by decide) rfl (fun ls hl => ?_)
          refine lv_goto (tgt := 28) hx hb dX9_turn_49 (by decide) ?_
          exact ihlp (k + 1) (va_up h k (d 8 k)) _ _ _ (by omega) (by omega) (fill_p hh) (hW) (lv_sub hl [1, 2, 3, 0] rfl)
    exact lp _ 0 (d 9) _ _ _ (Nat.lt_succ_self _) (Nat.zero_le _) (fun q hq => absurd hq (Nat.not_lt_zero _)) (by rw [va_up_id]; exact hW) (lv_sub hl [3, 2, 1, 0] rfl)
  · skip
    exact ar_vret C hr hW dX9_turn_9 (⟨rfl, d 8, d 9, fun q hq => by unfold zTq zTb; rw [if_neg (by rw [decide_eq_true_eq]; omega)], by rw [show zTrn s9 = s9 by unfold zTrn zTb; rw [if_neg (by rw [decide_eq_true_eq]; omega)], va_up_s hns, va_up_id, va_up_id]⟩)
theorem zLi_1 {oo : Bool} {y : Nat → UInt64} {ch : Nat} (h : oo = false → zRg (y 0) = true) : zLi oo oo (zCt 0) (zCt 0) y (fun q => zAcc ch (fun z => y (q / zLg 0 * zLg 0 + z)) (q % zLg 0)) := by
  refine ⟨fun q => q, fun ho q hq => ?_, fun q => Or.inl q⟩
  have hq : q < 1 := hq
  have hq0 : q = 0 := by omega
  subst hq0
  exact ⟨rfl, h ho⟩
theorem zDv {k w : Nat} (hw : 0 < w) (h : 0 < k % w) : (k - 1) / w = k / w ∧ (k - 1) % w + 1 = k % w ∧ 1 ≤ k := by
  have h1 := Nat.div_add_mod k w
  have h2 := Nat.mod_lt k hw
  have e : k - 1 = w * (k / w) + (k % w - 1) := by omega
  have e1 : (k - 1) / w = k / w := by
    rw [e, Nat.mul_add_div hw, Nat.div_eq_of_lt (show k % w - 1 < w by omega), Nat.add_zero]
  have e2 : (k - 1) % w = k % w - 1 := by
    rw [e, Nat.mul_add_mod, Nat.mod_eq_of_lt (show k % w - 1 < w by omega)]
  refine ⟨e1, by omega, ?_⟩
  have : k % w ≤ k := Nat.mod_le _ _
  omega
theorem zAc_s {c w k : Nat} {y : Nat → UInt64} (hw : 0 < w) (h : 0 < k % w) : zOp c (zAcc c (fun z => y ((k - 1) / w * w + z)) ((k - 1) % w)) (y k) = zAcc c (fun z => y (k / w * w + z)) (k % w) := by
  obtain ⟨e1, e2, -⟩ := zDv hw h
  rw [e1, ← e2, zAcc, e2, zDm]
theorem zAc_0 {c w k : Nat} {y : Nat → UInt64} (h : k % w = 0) : y k = zAcc c (fun z => y (k / w * w + z)) (k % w) := by
  have h1 := zDm k w
  rw [h]
  rw [h, Nat.add_zero] at h1
  show y k = y (k / w * w + 0)
  rw [Nat.add_zero, h1]
theorem zRd_s {f h : Nat → UInt64} {j w : Nat} (hw : 1 ≤ w) (hh : (∀ q, q < j → h q = f (w * q + w - 1)) ∧ ∀ q, j ≤ q → h q = f q) : (∀ q, q < j + 1 → va_up h j (h (w * j + w - 1)) q = f (w * q + w - 1)) ∧ ∀ q, j + 1 ≤ q → va_up h j (h (w * j + w - 1)) q = f q := by
  have hle : j ≤ w * j := Nat.le_mul_of_pos_left _ hw
  refine ⟨fun q hq => ?_, fun q hq => by rw [va_up_ne _ _ (by omega)]; exact hh.2 q (by omega)⟩
  by_cases h1 : q = j
  · rw [h1, va_up_self]
    exact hh.2 _ (by omega)
  · rw [va_up_ne _ _ h1]
    exact hh.1 q (by omega)
theorem hd_X9_along : yX9_along.cls ≠ "java/lang/invoke/MethodHandle" ∧ yX9_along.cls ≠ "java/lang/invoke/VarHandle" ∧ (parseMethodDescriptor yX9_along.desc).map (fun d => d.parameters.length) = some 2 := by decide +kernel
set_option maxHeartbeats 4000000 in
set_option maxRecDepth 100000 in
theorem c_X9_along {l : Launch} (hl9 : l.stackTraces = false) {D : va_G} {ct : Nat → ClassId} {ad : Nat → Nat} (g : Nat → Int32) (a : Nat → Nat → Int32) (d : Nat → Nat → UInt64) (s9 : Nat) (hos : zOk s9 = true) (hns : g 15 = nI s9) (ch : Nat) (hcs : zSg ch) (red : Bool) (oo : Bool) (hoo : g 21 = bI oo) (hrn : oo = false → ∀ q, q < zCt s9 → zRg (d 8 q) = true) : ar_M l yX9_along cX9_along 6 none 2 43 D ct (mL ad ct) [.ref (ad 0), .int (nI ch), .int (bI red)] (g, a, d) (fun v9 u9 => v9 = none ∧ ∃ (b : Bool) (f h : Nat → UInt64), zLi oo b (zCt s9) (zCt s9) f (fun q => zAcc ch (fun z => d 8 (q / zLg s9 * zLg s9 + z)) (q % zLg s9)) ∧ (red = false → h = f) ∧ (red = true → ∀ q, q < zLn s9 → h q = f (zLg s9 * q + zLg s9 - 1)) ∧ u9 = (va_up (va_up g 21 (bI b)) 15 (nI (if red = true then zRed s9 else s9)), a, va_up d 8 h)) (fun _ _ => False) := by
  refine ar_ofW hl9 (by decide) (Nat.le_of_ble_eq_true rfl) ?_
  intro p e s m below meth c A ls C hr hnm hW hl
  have hx := C.1
  have hb := C.2.1
  have hown := C.2.2.2.1
  have hts := C.2.2.2.2.1
  have hl : lv_has ls 6 [(0, .ref (ad 0)), (1, .int (nI ch)), (2, .int (bI red))] := hl
  have hds := zOk_num hos
  have hdd := zOk_d hos
  have hcq : zLn s9 * zLg s9 ≤ 24 := hds.2.2.1
  have hce : zCt s9 = zLn s9 * zLg s9 := rfl
  refine lv_aload_n hx hb dX9_along_0 rfl (lv_at hl 0 rfl) ?_
  refine mg_nowShape C hW q602 dX9_along_1 ?_
  refine ln_top (hns) ?_
  refine ln_if_ne (tgt := 8) hx hb dX9_along_4 (by decide) (by omega) (fun h1 => ?_) (fun h1 => ?_)
  · skip
    refine lv_aload_n hx hb dX9_along_8 rfl (lv_at hl 0 rfl) ?_
    refine mg_nowShape C hW q602 dX9_along_9 ?_
    refine ln_top (hns) ?_
    refine lv_bipush (v := nI 32) hx hb dX9_along_12 (by decide) ?_
    refine ln_icmp_ge (tgt := 21) hx hb dX9_along_14 (by decide) (by omega) (by omega) (fun h2 => ?_) (fun h2 => ?_)
    · skip
      refine lv_aload_n hx hb dX9_along_21 rfl (lv_at hl 0 rfl) ?_
      refine mg_nowShape C hW q602 dX9_along_22 ?_
      refine ln_top (hns) ?_
      refine lv_bipush (v := nI 32) hx hb dX9_along_25 (by decide) ?_
      refine ln_idiv hx hb dX9_along_27 (by omega) (by omega) (by omega) ?_
      refine ln_top (a := zLn s9) (congrArg nI (by first | (exfalso; omega) | (unfold zLn; first | rw [if_pos (by omega)] | rw [if_neg (by omega)]))) ?_
      refine lv_istore_n (lv' := [(3, .int (nI (zLn s9))), (0, .ref (ad 0)), (1, .int (nI ch)), (2, .int (bI red))]) hx hb dX9_along_28 rfl hl (by decide) rfl (fun ls hl => ?_)
      refine lv_aload_n hx hb dX9_along_29 rfl (lv_at hl 1 rfl) ?_
      refine mg_nowShape C hW q602 dX9_along_30 ?_
      refine ln_top (hns) ?_
      refine lv_bipush (v := nI 32) hx hb dX9_along_33 (by decide) ?_
      refine ln_icmp_ge (tgt := 45) hx hb dX9_along_35 (by decide) (by omega) (by omega) (fun h3 => ?_) (fun h3 => ?_)
      · skip
        refine lv_aload_n hx hb dX9_along_45 rfl (lv_at hl 1 rfl) ?_
        refine mg_nowShape C hW q602 dX9_along_46 ?_
        refine ln_top (hns) ?_
        refine lv_bipush (v := nI 32) hx hb dX9_along_49 (by decide) ?_
        refine ln_irem hx hb dX9_along_51 (by omega) (by omega) (by omega) ?_
        refine ln_top (a := zLg s9) (congrArg nI (by first | (exfalso; omega) | (unfold zLg; rw [if_neg (by omega)]; done) | (unfold zLg; rw [if_neg (by omega)]; omega))) ?_
        refine lv_istore (lv' := [(4, .int (nI (zLg s9))), (3, .int (nI (zLn s9))), (0, .ref (ad 0)), (1, .int (nI ch)), (2, .int (bI red))]) hx hb dX9_along_52 hl (by decide) rfl (fun ls hl => ?_)
        refine lv_iconst (v := nI 0) hx hb dX9_along_54 (by decide) ?_
        refine lv_istore (lv' := [(5, .int (nI 0)), (4, .int (nI (zLg s9))), (3, .int (nI (zLn s9))), (0, .ref (ad 0)), (1, .int (nI ch)), (2, .int (bI red))]) hx hb dX9_along_55 hl (by decide) rfl (fun ls hl => ?_)
        have lp : ∀ (N9 : Nat) (k : Nat) (b : Bool) (f : Nat → UInt64) (H : Heap) (locs : List Loc) (ls : Array Slot), zLn s9 * zLg s9 - k < N9 → (k ≤ zLn s9 * zLg s9) → (zLi oo b k (zLn s9 * zLg s9) f (fun q => zAcc ch (fun z => d 8 (q / zLg s9 * zLg s9 + z)) (q % zLg s9))) → (b = false → ∀ q, k ≤ q → f q = d 8 q) → ar_W D A s.heap H locs (mL ad ct (va_up g 21 (bI b), a, va_up d 8 f)) → lv_has ls 6 [(0, .ref (ad 0)), (1, .int (nI ch)), (2, .int (bI red)), (3, .int (nI (zLn s9))), (4, .int (nI (zLg s9))), (5, .int (nI k))] → W p l e (ar_rm 2 43) s m [.ref (ad 0), .int (nI ch), .int (bI red)].toArray below meth c H locs 0 0 (ar_E below (ar_Q D ct (mL ad ct) A (fun v9 u9 => v9 = none ∧ ∃ (b : Bool) (f h : Nat → UInt64), zLi oo b (zCt s9) (zCt s9) f (fun q => zAcc ch (fun z => d 8 (q / zLg s9 * zLg s9 + z)) (q % zLg s9)) ∧ (red = false → h = f) ∧ (red = true → ∀ q, q < zLn s9 → h q = f (zLg s9 * q + zLg s9 - 1)) ∧ u9 = (va_up (va_up g 21 (bI b)) 15 (nI (if red = true then zRed s9 else s9)), a, va_up d 8 h)) (fun _ _ => False)) [.ref (ad 0), .int (nI ch), .int (bI red)].toArray s) (F0 m 57 ls []) := by
          intro N9
          induction N9 with
          | zero =>
            intro k b f H locs ls hN9
            exact absurd hN9 (Nat.not_lt_zero _)
          | succ N9 ihlp =>
            intro k b f H locs ls hN9 hk hli hrs hW hl
            refine lv_iload hx hb dX9_along_57 (lv_at hl 5 rfl) ?_
            refine lv_iload_n hx hb dX9_along_59 rfl (lv_at hl 3 rfl) ?_
            refine lv_iload hx hb dX9_along_60 (lv_at hl 4 rfl) ?_
            refine ln_imul hx hb dX9_along_62 ?_
            refine ln_icmp_ge (tgt := 125) hx hb dX9_along_63 (by decide) (by omega) (by omega) (fun h4 => ?_) (fun h4 => ?_)
            · skip
              refine lv_iload_n hx hb dX9_along_125 rfl (lv_at hl 2 rfl) ?_
              refine lb_if_ne (tgt := 130) hx hb dX9_along_126 (by decide) (fun h5 => ?_) (fun h5 => ?_)
              · skip
                refine lv_iconst (v := nI 0) hx hb dX9_along_130 (by decide) ?_
                refine lv_istore (lv' := [(5, .int (nI 0)), (0, .ref (ad 0)), (1, .int (nI ch)), (2, .int (bI red)), (3, .int (nI (zLn s9))), (4, .int (nI (zLg s9)))]) hx hb dX9_along_131 hl (by decide) rfl (fun ls hl => ?_)
                have lq : ∀ (N9 : Nat) (j : Nat) (h : Nat → UInt64) (H : Heap) (locs : List Loc) (ls : Array Slot), zLn s9 - j < N9 → (j ≤ zLn s9) → ((∀ q, q < j → h q = f (zLg s9 * q + zLg s9 - 1)) ∧ ∀ q, j ≤ q → h q = f q) → ar_W D A s.heap H locs (mL ad ct (va_up g 21 (bI b), a, va_up d 8 h)) → lv_has ls 6 [(0, .ref (ad 0)), (1, .int (nI ch)), (2, .int (bI red)), (3, .int (nI (zLn s9))), (4, .int (nI (zLg s9))), (5, .int (nI j))] → W p l e (ar_rm 2 43) s m [.ref (ad 0), .int (nI ch), .int (bI red)].toArray below meth c H locs 0 0 (ar_E below (ar_Q D ct (mL ad ct) A (fun v9 u9 => v9 = none ∧ ∃ (b : Bool) (f h : Nat → UInt64), zLi oo b (zCt s9) (zCt s9) f (fun q => zAcc ch (fun z => d 8 (q / zLg s9 * zLg s9 + z)) (q % zLg s9)) ∧ (red = false → h = f) ∧ (red = true → ∀ q, q < zLn s9 → h q = f (zLg s9 * q + zLg s9 - 1)) ∧ u9 = (va_up (va_up g 21 (bI b)) 15 (nI (if red = true then zRed s9 else s9)), a, va_up d 8 h)) (fun _ _ => False)) [.ref (ad 0), .int (nI ch), .int (bI red)].toArray s) (F0 m 133 ls []) := by
                  intro N9
                  induction N9 with
                  | zero =>
                    intro j h H locs ls hN9
                    exact absurd hN9 (Nat.not_lt_zero _)
                  | succ N9 ihlq =>
                    intro j h H locs ls hN9 hj hh hW hl
                    refine lv_iload hx hb dX9_along_133 (lv_at hl 5 rfl) ?_
                    refine lv_iload_n hx hb dX9_along_135 rfl (lv_at hl 3 rfl) ?_
                    refine ln_icmp_ge (tgt := 167) hx hb dX9_along_136 (by decide) (by omega) (by omega) (fun h6 => ?_) (fun h6 => ?_)
                    · skip
                      refine lv_aload_n hx hb dX9_along_167 rfl (lv_at hl 0 rfl) ?_
                      refine lv_aload_n hx hb dX9_along_168 rfl (lv_at hl 0 rfl) ?_
                      refine mg_nowShape C hW q602 dX9_along_169 ?_
                      rw [va_up_ne _ _ (by decide)]
                      refine ln_top (hns) ?_
                      refine lv_bipush (v := nI 32) hx hb dX9_along_172 (by decide) ?_
                      refine ln_icmp_ge (tgt := 181) hx hb dX9_along_174 (by decide) (by omega) (by omega) (fun h7 => ?_) (fun h7 => ?_)
                      · skip
                        refine lv_iload_n hx hb dX9_along_181 rfl (lv_at hl 3 rfl) ?_
                        refine mp_nowShape C hW q602 dX9_along_182 (fun H locs hW => ?_)
                        exact ar_vret C hr hW dX9_along_185 (⟨rfl, b, f, h, zLi_e hli (by first | exact Or.inl h4 | exact Or.inr (by omega)), (fun q => by rw [h5] at q; cases q), fun _ q hq => hh.1 q (by omega), by rw [h5, if_pos rfl, show zRed s9 = zLn s9 from by first | (exfalso; omega) | (unfold zRed zTb; first | rw [if_pos (by rw [decide_eq_true_eq]; omega)] | rw [if_neg (by rw [decide_eq_true_eq]; omega)])]⟩)
                      · skip
                        refine lv_iconst (v := nI 0) hx hb dX9_along_177 (by decide) ?_
                        refine lv_goto (tgt := 182) hx hb dX9_along_178 (by decide) ?_
                        refine mp_nowShape C hW q602 dX9_along_182 (fun H locs hW => ?_)
                        exact ar_vret C hr hW dX9_along_185 (⟨rfl, b, f, h, zLi_e hli (by first | exact Or.inl h4 | exact Or.inr (by omega)), (fun q => by rw [h5] at q; cases q), fun _ q hq => hh.1 q (by omega), by rw [h5, if_pos rfl, show zRed s9 = 0 from by first | (exfalso; omega) | (unfold zRed zTb; first | rw [if_pos (by rw [decide_eq_true_eq]; omega)] | rw [if_neg (by rw [decide_eq_true_eq]; omega)])]⟩)
                    · skip
                      refine lv_aload_n hx hb dX9_along_139 rfl (lv_at hl 0 rfl) ?_
                      refine mg_now C hW q597 dX9_along_140 ?_
                      refine lv_iload hx hb dX9_along_143 (lv_at hl 5 rfl) ?_
                      refine lv_aload_n hx hb dX9_along_145 rfl (lv_at hl 0 rfl) ?_
                      refine mg_now C hW q597 dX9_along_146 ?_
                      refine lv_iload hx hb dX9_along_149 (lv_at hl 4 rfl) ?_
                      refine lv_iload hx hb dX9_along_151 (lv_at hl 5 rfl) ?_
                      refine ln_imul hx hb dX9_along_153 ?_
                      refine lv_iload hx hb dX9_along_154 (lv_at hl 4 rfl) ?_
                      refine ln_iadd hx hb dX9_along_156 ?_
                      refine lv_iconst (v := nI 1) hx hb dX9_along_157 (by decide) ?_
                      refine ln_isub hx hb dX9_along_158 (by omega) ?_
                      refine ml_now (j := (((zLg s9) * j) + (zLg s9)) - 1) C hW (by first | omega | (have h71 := zIx (m := zLn s9) (n := zLg s9) (a := j) (b := zLg s9 - 1) (by omega) (by omega); rw [Nat.mul_comm] at h71; omega)) dX9_along_159 ?_
                      rw [va_up_self]
                      refine ms_now (j := j) C hW (by first | omega | (have h71 := zIx (m := zLn s9) (n := zLg s9) (a := j) (b := zLg s9 - 1) (by omega) (by omega); rw [Nat.mul_comm] at h71; omega)) dX9_along_160 (fun H locs hW => ?_)
                      simp only [bx_uu, va_up_self] at hW
                      refine ln_iinc (k := 5) (n := 1) (lv' := [(5, .int (nI (j + 1))), (0, .ref (ad 0)), (1, .int (nI ch)), (2, .int (bI red)), (3, .int (nI (zLn s9))), (4, .int (nI (zLg s9)))]) hx hb dX9_along_161 hl rfl (by decide) rfl (fun ls hl => ?_)
                      refine lv_goto (tgt := 133) hx hb dX9_along_164 (by decide) ?_
                      exact ihlq (j + 1) (va_up h j (h (zLg s9 * j + zLg s9 - 1))) _ _ _ (by omega) (by omega) (zRd_s (by omega) hh) (hW) (lv_sub hl [1, 2, 3, 4, 5, 0] rfl)
                exact lq _ 0 f _ _ _ (Nat.lt_succ_self _) (Nat.zero_le _) (⟨fun q hq => absurd hq (Nat.not_lt_zero _), fun q _ => rfl⟩) (hW) (lv_sub hl [1, 2, 3, 4, 5, 0] rfl)
              · skip
                exact ar_vret C hr hW dX9_along_129 (⟨rfl, b, f, f, zLi_e hli (by first | exact Or.inl h4 | exact Or.inr (by omega)), fun _ => rfl, (fun q => by rw [h5] at q; cases q), by rw [h5]; show _ = (va_up (va_up g 21 (bI b)) 15 (nI s9), a, va_up d 8 f); rw [va_up_s (f := va_up g 21 (bI b)) (k := 15) hns]⟩)
            · skip
              refine lv_aload_n hx hb dX9_along_66 rfl (lv_at hl 0 rfl) ?_
              refine mg_outOfRange C hW q608 dX9_along_67 ?_
              rw [va_up_self]
              refine lb_if_ne (tgt := 125) hx hb dX9_along_70 (by decide) (fun h8 => ?_) (fun h8 => ?_)
              · skip
                refine lv_iload_n hx hb dX9_along_125 rfl (lv_at hl 2 rfl) ?_
                refine lb_if_ne (tgt := 130) hx hb dX9_along_126 (by decide) (fun h9 => ?_) (fun h9 => ?_)
                · skip
                  refine lv_iconst (v := nI 0) hx hb dX9_along_130 (by decide) ?_
                  refine lv_istore (lv' := [(5, .int (nI 0)), (0, .ref (ad 0)), (1, .int (nI ch)), (2, .int (bI red)), (3, .int (nI (zLn s9))), (4, .int (nI (zLg s9)))]) hx hb dX9_along_131 hl (by decide) rfl (fun ls hl => ?_)
                  have lq : ∀ (N9 : Nat) (j : Nat) (h : Nat → UInt64) (H : Heap) (locs : List Loc) (ls : Array Slot), zLn s9 - j < N9 → (j ≤ zLn s9) → ((∀ q, q < j → h q = f (zLg s9 * q + zLg s9 - 1)) ∧ ∀ q, j ≤ q → h q = f q) → ar_W D A s.heap H locs (mL ad ct (va_up g 21 (bI b), a, va_up d 8 h)) → lv_has ls 6 [(0, .ref (ad 0)), (1, .int (nI ch)), (2, .int (bI red)), (3, .int (nI (zLn s9))), (4, .int (nI (zLg s9))), (5, .int (nI j))] → W p l e (ar_rm 2 43) s m [.ref (ad 0), .int (nI ch), .int (bI red)].toArray below meth c H locs 0 0 (ar_E below (ar_Q D ct (mL ad ct) A (fun v9 u9 => v9 = none ∧ ∃ (b : Bool) (f h : Nat → UInt64), zLi oo b (zCt s9) (zCt s9) f (fun q => zAcc ch (fun z => d 8 (q / zLg s9 * zLg s9 + z)) (q % zLg s9)) ∧ (red = false → h = f) ∧ (red = true → ∀ q, q < zLn s9 → h q = f (zLg s9 * q + zLg s9 - 1)) ∧ u9 = (va_up (va_up g 21 (bI b)) 15 (nI (if red = true then zRed s9 else s9)), a, va_up d 8 h)) (fun _ _ => False)) [.ref (ad 0), .int (nI ch), .int (bI red)].toArray s) (F0 m 133 ls []) := by
                    intro N9
                    induction N9 with
                    | zero =>
                      intro j h H locs ls hN9
                      exact absurd hN9 (Nat.not_lt_zero _)
                    | succ N9 ihlq =>
                      intro j h H locs ls hN9 hj hh hW hl
                      refine lv_iload hx hb dX9_along_133 (lv_at hl 5 rfl) ?_
                      refine lv_iload_n hx hb dX9_along_135 rfl (lv_at hl 3 rfl) ?_
                      refine ln_icmp_ge (tgt := 167) hx hb dX9_along_136 (by decide) (by omega) (by omega) (fun h10 => ?_) (fun h10 => ?_)
                      · skip
                        refine lv_aload_n hx hb dX9_along_167 rfl (lv_at hl 0 rfl) ?_
                        refine lv_aload_n hx hb dX9_along_168 rfl (lv_at hl 0 rfl) ?_
                        refine mg_nowShape C hW q602 dX9_along_169 ?_
                        rw [va_up_ne _ _ (by decide)]
                        refine ln_top (hns) ?_
                        refine lv_bipush (v := nI 32) hx hb dX9_along_172 (by decide) ?_
                        refine ln_icmp_ge (tgt := 181) hx hb dX9_along_174 (by decide) (by omega) (by omega) (fun h11 => ?_) (fun h11 => ?_)
                        · skip
                          refine lv_iload_n hx hb dX9_along_181 rfl (lv_at hl 3 rfl) ?_
                          refine mp_nowShape C hW q602 dX9_along_182 (fun H locs hW => ?_)
                          exact ar_vret C hr hW dX9_along_185 (⟨rfl, b, f, h, zLi_e hli (by first | exact Or.inl h8 | exact Or.inr (by omega)), (fun q => by rw [h9] at q; cases q), fun _ q hq => hh.1 q (by omega), by rw [h9, if_pos rfl, show zRed s9 = zLn s9 from by first | (exfalso; omega) | (unfold zRed zTb; first | rw [if_pos (by rw [decide_eq_true_eq]; omega)] | rw [if_neg (by rw [decide_eq_true_eq]; omega)])]⟩)
                        · skip
                          refine lv_iconst (v := nI 0) hx hb dX9_along_177 (by decide) ?_
                          refine lv_goto (tgt := 182) hx hb dX9_along_178 (by decide) ?_
                          refine mp_nowShape C hW q602 dX9_along_182 (fun H locs hW => ?_)
                          exact ar_vret C hr hW dX9_along_185 (⟨rfl, b, f, h, zLi_e hli (by first | exact Or.inl h8 | exact Or.inr (by omega)), (fun q => by rw [h9] at q; cases q), fun _ q hq => hh.1 q (by omega), by rw [h9, if_pos rfl, show zRed s9 = 0 from by first | (exfalso; omega) | (unfold zRed zTb; first | rw [if_pos (by rw [decide_eq_true_eq]; omega)] | rw [if_neg (by rw [decide_eq_true_eq]; omega)])]⟩)
                      · skip
                        refine lv_aload_n hx hb dX9_along_139 rfl (lv_at hl 0 rfl) ?_
                        refine mg_now C hW q597 dX9_along_140 ?_
                        refine lv_iload hx hb dX9_along_143 (lv_at hl 5 rfl) ?_
                        refine lv_aload_n hx hb dX9_along_145 rfl (lv_at hl 0 rfl) ?_
                        refine mg_now C hW q597 dX9_along_146 ?_
                        refine lv_iload hx hb dX9_along_149 (lv_at hl 4 rfl) ?_
                        refine lv_iload hx hb dX9_along_151 (lv_at hl 5 rfl) ?_
                        refine ln_imul hx hb dX9_along_153 ?_
                        refine lv_iload hx hb dX9_along_154 (lv_at hl 4 rfl) ?_
                        refine ln_iadd hx hb dX9_along_156 ?_
                        refine lv_iconst (v := nI 1) hx hb dX9_along_157 (by decide) ?_
                        refine ln_isub hx hb dX9_along_158 (by omega) ?_
                        refine ml_now (j := (((zLg s9) * j) + (zLg s9)) - 1) C hW (by first | omega | (have h71 := zIx (m := zLn s9) (n := zLg s9) (a := j) (b := zLg s9 - 1) (by omega) (by omega); rw [Nat.mul_comm] at h71; omega)) dX9_along_159 ?_
                        rw [va_up_self]
                        refine ms_now (j := j) C hW (by first | omega | (have h71 := zIx (m := zLn s9) (n := zLg s9) (a := j) (b := zLg s9 - 1) (by omega) (by omega); rw [Nat.mul_comm] at h71; omega)) dX9_along_160 (fun H locs hW => ?_)
                        simp only [bx_uu, va_up_self] at hW
                        refine ln_iinc (k := 5) (n := 1) (lv' := [(5, .int (nI (j + 1))), (0, .ref (ad 0)), (1, .int (nI ch)), (2, .int (bI red)), (3, .int (nI (zLn s9))), (4, .int (nI (zLg s9)))]) hx hb dX9_along_161 hl rfl (by decide) rfl (fun ls hl => ?_)
                        refine lv_goto (tgt := 133) hx hb dX9_along_164 (by decide) ?_
                        exact ihlq (j + 1) (va_up h j (h (zLg s9 * j + zLg s9 - 1))) _ _ _ (by omega) (by omega) (zRd_s (by omega) hh) (hW) (lv_sub hl [1, 2, 3, 4, 5, 0] rfl)
                  exact lq _ 0 f _ _ _ (Nat.lt_succ_self _) (Nat.zero_le _) (⟨fun q hq => absurd hq (Nat.not_lt_zero _), fun q _ => rfl⟩) (hW) (lv_sub hl [1, 2, 3, 4, 5, 0] rfl)
                · skip
                  exact ar_vret C hr hW dX9_along_129 (⟨rfl, b, f, f, zLi_e hli (by first | exact Or.inl h8 | exact Or.inr (by omega)), fun _ => rfl, (fun q => by rw [h9] at q; cases q), by rw [h9]; show _ = (va_up (va_up g 21 (bI b)) 15 (nI s9), a, va_up d 8 f); rw [va_up_s (f := va_up g 21 (bI b)) (k := 15) hns]⟩)
              · skip
                have b70 := h8
                have hb0 := zLi_oo hli b70
                refine lv_iload hx hb dX9_along_73 (lv_at hl 5 rfl) ?_
                refine lv_iload hx hb dX9_along_75 (lv_at hl 4 rfl) ?_
                refine ln_irem hx hb dX9_along_77 (by omega) (by omega) (by omega) ?_
                refine ln_if_le (tgt := 108) hx hb dX9_along_78 (by decide) (by have := Nat.mod_lt k (show 0 < zLg s9 by omega); omega) (fun h12 => ?_) (fun h12 => ?_)
                · skip
                  have hfk : f k = zAcc ch (fun z => d 8 (k / zLg s9 * zLg s9 + z)) (k % zLg s9) := (hrs b70 k (Nat.le_refl _)).trans (zAc_0 h12)
                  refine lv_aload_n hx hb dX9_along_108 rfl (lv_at hl 0 rfl) ?_
                  refine lv_aload_n hx hb dX9_along_109 rfl (lv_at hl 0 rfl) ?_
                  refine mg_now C hW q597 dX9_along_110 ?_
                  refine lv_iload hx hb dX9_along_113 (lv_at hl 5 rfl) ?_
                  refine ml_now (j := k) C hW (by first | omega | (have h71 := zIx (m := zLn s9) (n := zLg s9) (a := j) (b := zLg s9 - 1) (by omega) (by omega); rw [Nat.mul_comm] at h71; omega)) dX9_along_115 ?_
                  rw [va_up_self]
                  refine ln_topd (y := zAcc ch (fun z => d 8 (k / zLg s9 * zLg s9 + z)) (k % zLg s9)) (hfk) ?_
                  refine ar_callV (q0 := 0) (ci := 7) (T9 := TX9) (N9 := 27) (As := [.double (zAcc ch (fun z => d 8 (k / zLg s9 * zLg s9 + z)) (k % zLg s9))]) (rest := []) C hW (c_X9_check hl9 (va_up g 21 (bI b)) a (va_up d 8 f) (zAcc ch (fun z => d 8 (k / zLg s9 * zLg s9 + z)) (k % zLg s9)) b (va_up_self _ _ _)) (rfl) rfl q776 q778 qs11 q6 q779 hd_X9_check ⟨Nat.le_of_ble_eq_true rfl, Nat.le_of_ble_eq_true rfl⟩ hl.1 (Nat.le_of_ble_eq_true rfl) rfl dX9_along_116 (fun _ _ _ _ _ _ hp => hp.elim) (fun v9 u9 H locs hp hW => ?_)
                  obtain ⟨rfl, hu9⟩ := hp
                  rw [hu9] at hW
                  rw [bx_uu] at hW
                  refine W.eq (g2 := F0 m 119 ls []) rfl ?_
                  refine ln_iinc (k := 5) (n := 1) (lv' := [(5, .int (nI (k + 1))), (0, .ref (ad 0)), (1, .int (nI ch)), (2, .int (bI red)), (3, .int (nI (zLn s9))), (4, .int (nI (zLg s9)))]) hx hb dX9_along_119 hl rfl (by decide) rfl (fun ls hl => ?_)
                  refine lv_goto (tgt := 57) hx hb dX9_along_122 (by decide) ?_
                  exact ihlp (k + 1) (b || !(zRg (zAcc ch (fun z => d 8 (k / zLg s9 * zLg s9 + z)) (k % zLg s9)))) f _ _ _ (by omega) (by omega) (by have h66 := zLi_s (F := (fun q => zAcc ch (fun z => d 8 (q / zLg s9 * zLg s9 + z)) (q % zLg s9))) (by omega) hli b70; rw [va_up_s hfk] at h66; exact h66) (fun _ q hq => hrs b70 q (by omega)) (hW) (lv_sub hl [1, 2, 3, 4, 5, 0] rfl)
                · skip
                  have hkw := h12
                  have hdv := zDv (by omega) hkw
                  refine lv_aload_n hx hb dX9_along_81 rfl (lv_at hl 0 rfl) ?_
                  refine mg_now C hW q597 dX9_along_82 ?_
                  refine lv_iload hx hb dX9_along_85 (lv_at hl 5 rfl) ?_
                  refine lv_iload_n hx hb dX9_along_87 rfl (lv_at hl 1 rfl) ?_
                  refine lv_aload_n hx hb dX9_along_88 rfl (lv_at hl 0 rfl) ?_
                  refine mg_now C hW q597 dX9_along_89 ?_
                  refine lv_iload hx hb dX9_along_92 (lv_at hl 5 rfl) ?_
                  refine lv_iconst (v := nI 1) hx hb dX9_along_94 (by decide) ?_
                  refine ln_isub hx hb dX9_along_95 (by omega) ?_
                  refine ml_now (j := k - 1) C hW (by first | omega | (have h71 := zIx (m := zLn s9) (n := zLg s9) (a := j) (b := zLg s9 - 1) (by omega) (by omega); rw [Nat.mul_comm] at h71; omega)) dX9_along_96 ?_
                  rw [va_up_self]
                  refine ln_topd (y := zAcc ch (fun z => d 8 ((k - 1) / zLg s9 * zLg s9 + z)) ((k - 1) % zLg s9)) ((hli.2.1 b70 (k - 1) (by omega)).1) ?_
                  refine lv_aload_n hx hb dX9_along_97 rfl (lv_at hl 0 rfl) ?_
                  refine mg_now C hW q597 dX9_along_98 ?_
                  refine lv_iload hx hb dX9_along_101 (lv_at hl 5 rfl) ?_
                  refine ml_now (j := k) C hW (by first | omega | (have h71 := zIx (m := zLn s9) (n := zLg s9) (a := j) (b := zLg s9 - 1) (by omega) (by omega); rw [Nat.mul_comm] at h71; omega)) dX9_along_103 ?_
                  rw [va_up_self]
                  refine ln_topd (y := d 8 k) (hrs b70 k (Nat.le_refl _)) ?_
                  refine ar_callS (As := [.int (nI ch), .double (zAcc ch (fun z => d 8 ((k - 1) / zLg s9 * zLg s9 + z)) ((k - 1) % zLg s9)), .double (d 8 k)]) (rest := [.int (nI k), .ref (ad 8)]) C hW (c_X9_join hl9 _ ch (zAcc ch (fun z => d 8 ((k - 1) / zLg s9 * zLg s9 + z)) ((k - 1) % zLg s9)) (d 8 k) (hcs) (zRg_nn _ (hli.2.1 b70 (k - 1) (by omega)).2 (hrn hb0 k (by omega)))) q773 q774 q6 q775 hd_X9_join ⟨Nat.le_of_ble_eq_true rfl, Nat.le_of_ble_eq_true rfl⟩ hl.1 (Nat.le_of_ble_eq_true rfl) rfl dX9_along_104 (fun _ _ _ _ _ _ hp => hp.elim) (fun v9 u9 H locs hp hW => ?_)
                  obtain ⟨rfl, hu9⟩ := hp
                  rw [hu9] at hW
                  refine W.eq (g2 := F0 m 107 ls [.double (zOp ch (zAcc ch (fun z => d 8 ((k - 1) / zLg s9 * zLg s9 + z)) ((k - 1) % zLg s9)) (d 8 k)), .int (nI k), .ref (ad 8)]) rfl ?_
                  refine ln_topd (y := zAcc ch (fun z => d 8 (k / zLg s9 * zLg s9 + z)) (k % zLg s9)) (zAc_s (by omega) hkw) ?_
                  refine ms_now (j := k) C hW (by first | omega | (have h71 := zIx (m := zLn s9) (n := zLg s9) (a := j) (b := zLg s9 - 1) (by omega) (by omega); rw [Nat.mul_comm] at h71; omega)) dX9_along_107 (fun H locs hW => ?_)
                  simp only [bx_uu, va_up_self] at hW
                  refine lv_aload_n hx hb dX9_along_108 rfl (lv_at hl 0 rfl) ?_
                  refine lv_aload_n hx hb dX9_along_109 rfl (lv_at hl 0 rfl) ?_
                  refine mg_now C hW q597 dX9_along_110 ?_
                  refine lv_iload hx hb dX9_along_113 (lv_at hl 5 rfl) ?_
                  refine ml_now (j := k) C hW (by first | omega | (have h71 := zIx (m := zLn s9) (n := zLg s9) (a := j) (b := zLg s9 - 1) (by omega) (by omega); rw [Nat.mul_comm] at h71; omega)) dX9_along_115 ?_
                  rw [va_up_self]
                  rw [va_up_self]
                  refine ar_callV (q0 := 0) (ci := 7) (T9 := TX9) (N9 := 27) (As := [.double (zAcc ch (fun z => d 8 (k / zLg s9 * zLg s9 + z)) (k % zLg s9))]) (rest := []) C hW (c_X9_check hl9 (va_up g 21 (bI b)) a (va_up d 8 (va_up f k (zAcc ch (fun z => d 8 (k / zLg s9 * zLg s9 + z)) (k % zLg s9)))) (zAcc ch (fun z => d 8 (k / zLg s9 * zLg s9 + z)) (k % zLg s9)) b (va_up_self _ _ _)) (rfl) rfl q776 q778 qs11 q6 q779 hd_X9_check ⟨Nat.le_of_ble_eq_true rfl, Nat.le_of_ble_eq_true rfl⟩ hl.1 (Nat.le_of_ble_eq_true rfl) rfl dX9_along_116 (fun _ _ _ _ _ _ hp => hp.elim) (fun v9 u9 H locs hp hW => ?_)
                  obtain ⟨rfl, hu9⟩ := hp
                  rw [hu9] at hW
                  rw [bx_uu] at hW
                  refine W.eq (g2 := F0 m 119 ls []) rfl ?_
                  refine ln_iinc (k := 5) (n := 1) (lv' := [(5, .int (nI (k + 1))), (0, .ref (ad 0)), (1, .int (nI ch)), (2, .int (bI red)), (3, .int (nI (zLn s9))), (4, .int (nI (zLg s9)))]) hx hb dX9_along_119 hl rfl (by decide) rfl (fun ls hl => ?_)
                  refine lv_goto (tgt := 57) hx hb dX9_along_122 (by decide) ?_
                  exact ihlp (k + 1) (b || !(zRg (zAcc ch (fun z => d 8 (k / zLg s9 * zLg s9 + z)) (k % zLg s9)))) (va_up f k (zAcc ch (fun z => d 8 (k / zLg s9 * zLg s9 + z)) (k % zLg s9))) _ _ _ (by omega) (by omega) (zLi_s (F := (fun q => zAcc ch (fun z => d 8 (q / zLg s9 * zLg s9 + z)) (q % zLg s9))) (by omega) hli b70) (fun _ q hq => by rw [va_up_ne _ _ (by omega)]; exact hrs b70 q (by omega)) (hW) (lv_sub hl [1, 2, 3, 4, 5, 0] rfl)
        exact lp _ 0 oo (d 8) _ _ _ (Nat.lt_succ_self _) (Nat.zero_le _) (zLi_0) (fun _ q _ => rfl) (by rw [va_up_s hoo, va_up_id]; exact hW) (lv_sub hl [3, 4, 5, 2, 1, 0] rfl)
      · skip
        refine lv_aload_n hx hb dX9_along_38 rfl (lv_at hl 1 rfl) ?_
        refine mg_nowShape C hW q602 dX9_along_39 ?_
        refine ln_top (hns) ?_
        refine lv_goto (tgt := 52) hx hb dX9_along_42 (by decide) ?_
        refine ln_top (a := zLg s9) (congrArg nI (by first | (exfalso; omega) | (unfold zLg; rw [if_neg (by omega)]; done) | (unfold zLg; rw [if_neg (by omega)]; omega))) ?_
        refine lv_istore (lv' := [(4, .int (nI (zLg s9))), (3, .int (nI (zLn s9))), (0, .ref (ad 0)), (1, .int (nI ch)), (2, .int (bI red))]) hx hb dX9_along_52 hl (by decide) rfl (fun ls hl => ?_)
        refine lv_iconst (v := nI 0) hx hb dX9_along_54 (by decide) ?_
        refine lv_istore (lv' := [(5, .int (nI 0)), (4, .int (nI (zLg s9))), (3, .int (nI (zLn s9))), (0, .ref (ad 0)), (1, .int (nI ch)), (2, .int (bI red))]) hx hb dX9_along_55 hl (by decide) rfl (fun ls hl => ?_)
        have lp : ∀ (N9 : Nat) (k : Nat) (b : Bool) (f : Nat → UInt64) (H : Heap) (locs : List Loc) (ls : Array Slot), zLn s9 * zLg s9 - k < N9 → (k ≤ zLn s9 * zLg s9) → (zLi oo b k (zLn s9 * zLg s9) f (fun q => zAcc ch (fun z => d 8 (q / zLg s9 * zLg s9 + z)) (q % zLg s9))) → (b = false → ∀ q, k ≤ q → f q = d 8 q) → ar_W D A s.heap H locs (mL ad ct (va_up g 21 (bI b), a, va_up d 8 f)) → lv_has ls 6 [(0, .ref (ad 0)), (1, .int (nI ch)), (2, .int (bI red)), (3, .int (nI (zLn s9))), (4, .int (nI (zLg s9))), (5, .int (nI k))] → W p l e (ar_rm 2 43) s m [.ref (ad 0), .int (nI ch), .int (bI red)].toArray below meth c H locs 0 0 (ar_E below (ar_Q D ct (mL ad ct) A (fun v9 u9 => v9 = none ∧ ∃ (b : Bool) (f h : Nat → UInt64), zLi oo b (zCt s9) (zCt s9) f (fun q => zAcc ch (fun z => d 8 (q / zLg s9 * zLg s9 + z)) (q % zLg s9)) ∧ (red = false → h = f) ∧ (red = true → ∀ q, q < zLn s9 → h q = f (zLg s9 * q + zLg s9 - 1)) ∧ u9 = (va_up (va_up g 21 (bI b)) 15 (nI (if red = true then zRed s9 else s9)), a, va_up d 8 h)) (fun _ _ => False)) [.ref (ad 0), .int (nI ch), .int (bI red)].toArray s) (F0 m 57 ls []) := by
          intro N9
          induction N9 with
          | zero =>
            intro k b f H locs ls hN9
            exact absurd hN9 (Nat.not_lt_zero _)
          | succ N9 ihlp =>
            intro k b f H locs ls hN9 hk hli hrs hW hl
            refine lv_iload hx hb dX9_along_57 (lv_at hl 5 rfl) ?_
            refine lv_iload_n hx hb dX9_along_59 rfl (lv_at hl 3 rfl) ?_
            refine lv_iload hx hb dX9_along_60 (lv_at hl 4 rfl) ?_
            refine ln_imul hx hb dX9_along_62 ?_
            refine ln_icmp_ge (tgt := 125) hx hb dX9_along_63 (by decide) (by omega) (by omega) (fun h13 => ?_) (fun h13 => ?_)
            · skip
              refine lv_iload_n hx hb dX9_along_125 rfl (lv_at hl 2 rfl) ?_
              refine lb_if_ne (tgt := 130) hx hb dX9_along_126 (by decide) (fun h14 => ?_) (fun h14 => ?_)
              · skip
                refine lv_iconst (v := nI 0) hx hb dX9_along_130 (by decide) ?_
                refine lv_istore (lv' := [(5, .int (nI 0)), (0, .ref (ad 0)), (1, .int (nI ch)), (2, .int (bI red)), (3, .int (nI (zLn s9))), (4, .int (nI (zLg s9)))]) hx hb dX9_along_131 hl (by decide) rfl (fun ls hl => ?_)
                have lq : ∀ (N9 : Nat) (j : Nat) (h : Nat → UInt64) (H : Heap) (locs : List Loc) (ls : Array Slot), zLn s9 - j < N9 → (j ≤ zLn s9) → ((∀ q, q < j → h q = f (zLg s9 * q + zLg s9 - 1)) ∧ ∀ q, j ≤ q → h q = f q) → ar_W D A s.heap H locs (mL ad ct (va_up g 21 (bI b), a, va_up d 8 h)) → lv_has ls 6 [(0, .ref (ad 0)), (1, .int (nI ch)), (2, .int (bI red)), (3, .int (nI (zLn s9))), (4, .int (nI (zLg s9))), (5, .int (nI j))] → W p l e (ar_rm 2 43) s m [.ref (ad 0), .int (nI ch), .int (bI red)].toArray below meth c H locs 0 0 (ar_E below (ar_Q D ct (mL ad ct) A (fun v9 u9 => v9 = none ∧ ∃ (b : Bool) (f h : Nat → UInt64), zLi oo b (zCt s9) (zCt s9) f (fun q => zAcc ch (fun z => d 8 (q / zLg s9 * zLg s9 + z)) (q % zLg s9)) ∧ (red = false → h = f) ∧ (red = true → ∀ q, q < zLn s9 → h q = f (zLg s9 * q + zLg s9 - 1)) ∧ u9 = (va_up (va_up g 21 (bI b)) 15 (nI (if red = true then zRed s9 else s9)), a, va_up d 8 h)) (fun _ _ => False)) [.ref (ad 0), .int (nI ch), .int (bI red)].toArray s) (F0 m 133 ls []) := by
                  intro N9
                  induction N9 with
                  | zero =>
                    intro j h H locs ls hN9
                    exact absurd hN9 (Nat.not_lt_zero _)
                  | succ N9 ihlq =>
                    intro j h H locs ls hN9 hj hh hW hl
                    refine lv_iload hx hb dX9_along_133 (lv_at hl 5 rfl) ?_
                    refine lv_iload_n hx hb dX9_along_135 rfl (lv_at hl 3 rfl) ?_
                    refine ln_icmp_ge (tgt := 167) hx hb dX9_along_136 (by decide) (by omega) (by omega) (fun h15 => ?_) (fun h15 => ?_)
                    · skip
                      refine lv_aload_n hx hb dX9_along_167 rfl (lv_at hl 0 rfl) ?_
                      refine lv_aload_n hx hb dX9_along_168 rfl (lv_at hl 0 rfl) ?_
                      refine mg_nowShape C hW q602 dX9_along_169 ?_
                      rw [va_up_ne _ _ (by decide)]
                      refine ln_top (hns) ?_
                      refine lv_bipush (v := nI 32) hx hb dX9_along_172 (by decide) ?_
                      refine ln_icmp_ge (tgt := 181) hx hb dX9_along_174 (by decide) (by omega) (by omega) (fun h16 => ?_) (fun h16 => ?_)
                      · skip
                        refine lv_iload_n hx hb dX9_along_181 rfl (lv_at hl 3 rfl) ?_
                        refine mp_nowShape C hW q602 dX9_along_182 (fun H locs hW => ?_)
                        exact ar_vret C hr hW dX9_along_185 (⟨rfl, b, f, h, zLi_e hli (by first | exact Or.inl h13 | exact Or.inr (by omega)), (fun q => by rw [h14] at q; cases q), fun _ q hq => hh.1 q (by omega), by rw [h14, if_pos rfl, show zRed s9 = zLn s9 from by first | (exfalso; omega) | (unfold zRed zTb; first | rw [if_pos (by rw [decide_eq_true_eq]; omega)] | rw [if_neg (by rw [decide_eq_true_eq]; omega)])]⟩)
                      · skip
                        refine lv_iconst (v := nI 0) hx hb dX9_along_177 (by decide) ?_
                        refine lv_goto (tgt := 182) hx hb dX9_along_178 (by decide) ?_
                        refine mp_nowShape C hW q602 dX9_along_182 (fun H locs hW => ?_)
                        exact ar_vret C hr hW dX9_along_185 (⟨rfl, b, f, h, zLi_e hli (by first | exact Or.inl h13 | exact Or.inr (by omega)), (fun q => by rw [h14] at q; cases q), fun _ q hq => hh.1 q (by omega), by rw [h14, if_pos rfl, show zRed s9 = 0 from by first | (exfalso; omega) | (unfold zRed zTb; first | rw [if_pos (by rw [decide_eq_true_eq]; omega)] | rw [if_neg (by rw [decide_eq_true_eq]; omega)])]⟩)
                    · skip
                      refine lv_aload_n hx hb dX9_along_139 rfl (lv_at hl 0 rfl) ?_
                      refine mg_now C hW q597 dX9_along_140 ?_
                      refine lv_iload hx hb dX9_along_143 (lv_at hl 5 rfl) ?_
                      refine lv_aload_n hx hb dX9_along_145 rfl (lv_at hl 0 rfl) ?_
                      refine mg_now C hW q597 dX9_along_146 ?_
                      refine lv_iload hx hb dX9_along_149 (lv_at hl 4 rfl) ?_
                      refine lv_iload hx hb dX9_along_151 (lv_at hl 5 rfl) ?_
                      refine ln_imul hx hb dX9_along_153 ?_
                      refine lv_iload hx hb dX9_along_154 (lv_at hl 4 rfl) ?_
                      refine ln_iadd hx hb dX9_along_156 ?_
                      refine lv_iconst (v := nI 1) hx hb dX9_along_157 (by decide) ?_
                      refine ln_isub hx hb dX9_along_158 (by omega) ?_
                      refine ml_now (j := (((zLg s9) * j) + (zLg s9)) - 1) C hW (by first | omega | (have h71 := zIx (m := zLn s9) (n := zLg s9) (a := j) (b := zLg s9 - 1) (by omega) (by omega); rw [Nat.mul_comm] at h71; omega)) dX9_along_159 ?_
                      rw [va_up_self]
                      refine ms_now (j := j) C hW (by first | omega | (have h71 := zIx (m := zLn s9) (n := zLg s9) (a := j) (b := zLg s9 - 1) (by omega) (by omega); rw [Nat.mul_comm] at h71; omega)) dX9_along_160 (fun H locs hW => ?_)
                      simp only [bx_uu, va_up_self] at hW
                      refine ln_iinc (k := 5) (n := 1) (lv' := [(5, .int (nI (j + 1))), (0, .ref (ad 0)), (1, .int (nI ch)), (2, .int (bI red)), (3, .int (nI (zLn s9))), (4, .int (nI (zLg s9)))]) hx hb dX9_along_161 hl rfl (by decide) rfl (fun ls hl => ?_)
                      refine lv_goto (tgt := 133) hx hb dX9_along_164 (by decide) ?_
                      exact ihlq (j + 1) (va_up h j (h (zLg s9 * j + zLg s9 - 1))) _ _ _ (by omega) (by omega) (zRd_s (by omega) hh) (hW) (lv_sub hl [1, 2, 3, 4, 5, 0] rfl)
                exact lq _ 0 f _ _ _ (Nat.lt_succ_self _) (Nat.zero_le _) (⟨fun q hq => absurd hq (Nat.not_lt_zero _), fun q _ => rfl⟩) (hW) (lv_sub hl [1, 2, 3, 4, 5, 0] rfl)
              · skip
                exact ar_vret C hr hW dX9_along_129 (⟨rfl, b, f, f, zLi_e hli (by first | exact Or.inl h13 | exact Or.inr (by omega)), fun _ => rfl, (fun q => by rw [h14] at q; cases q), by rw [h14]; show _ = (va_up (va_up g 21 (bI b)) 15 (nI s9), a, va_up d 8 f); rw [va_up_s (f := va_up g 21 (bI b)) (k := 15) hns]⟩)
            · skip
              refine lv_aload_n hx hb dX9_along_66 rfl (lv_at hl 0 rfl) ?_
              refine mg_outOfRange C hW q608 dX9_along_67 ?_
              rw [va_up_self]
              refine lb_if_ne (tgt := 125) hx hb dX9_along_70 (by decide) (fun h17 => ?_) (fun h17 => ?_)
              · skip
                refine lv_iload_n hx hb dX9_along_125 rfl (lv_at hl 2 rfl) ?_
                refine lb_if_ne (tgt := 130) hx hb dX9_along_126 (by decide) (fun h18 => ?_) (fun h18 => ?_)
                · skip
                  refine lv_iconst (v := nI 0) hx hb dX9_along_130 (by decide) ?_
                  refine lv_istore (lv' := [(5, .int (nI 0)), (0, .ref (ad 0)), (1, .int (nI ch)), (2, .int (bI red)), (3, .int (nI (zLn s9))), (4, .int (nI (zLg s9)))]) hx hb dX9_along_131 hl (by decide) rfl (fun ls hl => ?_)
                  have lq : ∀ (N9 : Nat) (j : Nat) (h : Nat → UInt64) (H : Heap) (locs : List Loc) (ls : Array Slot), zLn s9 - j < N9 → (j ≤ zLn s9) → ((∀ q, q < j → h q = f (zLg s9 * q + zLg s9 - 1)) ∧ ∀ q, j ≤ q → h q = f q) → ar_W D A s.heap H locs (mL ad ct (va_up g 21 (bI b), a, va_up d 8 h)) → lv_has ls 6 [(0, .ref (ad 0)), (1, .int (nI ch)), (2, .int (bI red)), (3, .int (nI (zLn s9))), (4, .int (nI (zLg s9))), (5, .int (nI j))] → W p l e (ar_rm 2 43) s m [.ref (ad 0), .int (nI ch), .int (bI red)].toArray below meth c H locs 0 0 (ar_E below (ar_Q D ct (mL ad ct) A (fun v9 u9 => v9 = none ∧ ∃ (b : Bool) (f h : Nat → UInt64), zLi oo b (zCt s9) (zCt s9) f (fun q => zAcc ch (fun z => d 8 (q / zLg s9 * zLg s9 + z)) (q % zLg s9)) ∧ (red = false → h = f) ∧ (red = true → ∀ q, q < zLn s9 → h q = f (zLg s9 * q + zLg s9 - 1)) ∧ u9 = (va_up (va_up g 21 (bI b)) 15 (nI (if red = true then zRed s9 else s9)), a, va_up d 8 h)) (fun _ _ => False)) [.ref (ad 0), .int (nI ch), .int (bI red)].toArray s) (F0 m 133 ls []) := by
                    intro N9
                    induction N9 with
                    | zero =>
                      intro j h H locs ls hN9
                      exact absurd hN9 (Nat.not_lt_zero _)
                    | succ N9 ihlq =>
                      intro j h H locs ls hN9 hj hh hW hl
                      refine lv_iload hx hb dX9_along_133 (lv_at hl 5 rfl) ?_
                      refine lv_iload_n hx hb dX9_along_135 rfl (lv_at hl 3 rfl) ?_
                      refine ln_icmp_ge (tgt := 167) hx hb dX9_along_136 (by decide) (by omega) (by omega) (fun h19 => ?_) (fun h19 => ?_)
                      · skip
                        refine lv_aload_n hx hb dX9_along_167 rfl (lv_at hl 0 rfl) ?_
                        refine lv_aload_n hx hb dX9_along_168 rfl (lv_at hl 0 rfl) ?_
                        refine mg_nowShape C hW q602 dX9_along_169 ?_
                        rw [va_up_ne _ _ (by decide)]
                        refine ln_top (hns) ?_
                        refine lv_bipush (v := nI 32) hx hb dX9_along_172 (by decide) ?_
                        refine ln_icmp_ge (tgt := 181) hx hb dX9_along_174 (by decide) (by omega) (by omega) (fun h20 => ?_) (fun h20 => ?_)
                        · skip
                          refine lv_iload_n hx hb dX9_along_181 rfl (lv_at hl 3 rfl) ?_
                          refine mp_nowShape C hW q602 dX9_along_182 (fun H locs hW => ?_)
                          exact ar_vret C hr hW dX9_along_185 (⟨rfl, b, f, h, zLi_e hli (by first | exact Or.inl h17 | exact Or.inr (by omega)), (fun q => by rw [h18] at q; cases q), fun _ q hq => hh.1 q (by omega), by rw [h18, if_pos rfl, show zRed s9 = zLn s9 from by first | (exfalso; omega) | (unfold zRed zTb; first | rw [if_pos (by rw [decide_eq_true_eq]; omega)] | rw [if_neg (by rw [decide_eq_true_eq]; omega)])]⟩)
                        · skip
                          refine lv_iconst (v := nI 0) hx hb dX9_along_177 (by decide) ?_
                          refine lv_goto (tgt := 182) hx hb dX9_along_178 (by decide) ?_
                          refine mp_nowShape C hW q602 dX9_along_182 (fun H locs hW => ?_)
                          exact ar_vret C hr hW dX9_along_185 (⟨rfl, b, f, h, zLi_e hli (by first | exact Or.inl h17 | exact Or.inr (by omega)), (fun q => by rw [h18] at q; cases q), fun _ q hq => hh.1 q (by omega), by rw [h18, if_pos rfl, show zRed s9 = 0 from by first | (exfalso; omega) | (unfold zRed zTb; first | rw [if_pos (by rw [decide_eq_true_eq]; omega)] | rw [if_neg (by rw [decide_eq_true_eq]; omega)])]⟩)
                      · skip
                        refine lv_aload_n hx hb dX9_along_139 rfl (lv_at hl 0 rfl) ?_
                        refine mg_now C hW q597 dX9_along_140 ?_
                        refine lv_iload hx hb dX9_along_143 (lv_at hl 5 rfl) ?_
                        refine lv_aload_n hx hb dX9_along_145 rfl (lv_at hl 0 rfl) ?_
                        refine mg_now C hW q597 dX9_along_146 ?_
                        refine lv_iload hx hb dX9_along_149 (lv_at hl 4 rfl) ?_
                        refine lv_iload hx hb dX9_along_151 (lv_at hl 5 rfl) ?_
                        refine ln_imul hx hb dX9_along_153 ?_
                        refine lv_iload hx hb dX9_along_154 (lv_at hl 4 rfl) ?_
                        refine ln_iadd hx hb dX9_along_156 ?_
                        refine lv_iconst (v := nI 1) hx hb dX9_along_157 (by decide) ?_
                        refine ln_isub hx hb dX9_along_158 (by omega) ?_
                        refine ml_now (j := (((zLg s9) * j) + (zLg s9)) - 1) C hW (by first | omega | (have h71 := zIx (m := zLn s9) (n := zLg s9) (a := j) (b := zLg s9 - 1) (by omega) (by omega); rw [Nat.mul_comm] at h71; omega)) dX9_along_159 ?_
                        rw [va_up_self]
                        refine ms_now (j := j) C hW (by first | omega | (have h71 := zIx (m := zLn s9) (n := zLg s9) (a := j) (b := zLg s9 - 1) (by omega) (by omega); rw [Nat.mul_comm] at h71; omega)) dX9_along_160 (fun H locs hW => ?_)
                        simp only [bx_uu, va_up_self] at hW
                        refine ln_iinc (k := 5) (n := 1) (lv' := [(5, .int (nI (j + 1))), (0, .ref (ad 0)), (1, .int (nI ch)), (2, .int (bI red)), (3, .int (nI (zLn s9))), (4, .int (nI (zLg s9)))]) hx hb dX9_along_161 hl rfl (by decide) rfl (fun ls hl => ?_)
                        refine lv_goto (tgt := 133) hx hb dX9_along_164 (by decide) ?_
                        exact ihlq (j + 1) (va_up h j (h (zLg s9 * j + zLg s9 - 1))) _ _ _ (by omega) (by omega) (zRd_s (by omega) hh) (hW) (lv_sub hl [1, 2, 3, 4, 5, 0] rfl)
                  exact lq _ 0 f _ _ _ (Nat.lt_succ_self _) (Nat.zero_le _) (⟨fun q hq => absurd hq (Nat.not_lt_zero _), fun q _ => rfl⟩) (hW) (lv_sub hl [1, 2, 3, 4, 5, 0] rfl)
                · skip
                  exact ar_vret C hr hW dX9_along_129 (⟨rfl, b, f, f, zLi_e hli (by first | exact Or.inl h17 | exact Or.inr (by omega)), fun _ => rfl, (fun q => by rw [h18] at q; cases q), by rw [h18]; show _ = (va_up (va_up g 21 (bI b)) 15 (nI s9), a, va_up d 8 f); rw [va_up_s (f := va_up g 21 (bI b)) (k := 15) hns]⟩)
              · skip
                have b70 := h17
                have hb0 := zLi_oo hli b70
                refine lv_iload hx hb dX9_along_73 (lv_at hl 5 rfl) ?_
                refine lv_iload hx hb dX9_along_75 (lv_at hl 4 rfl) ?_
                refine ln_irem hx hb dX9_along_77 (by omega) (by omega) (by omega) ?_
                refine ln_if_le (tgt := 108) hx hb dX9_along_78 (by decide) (by have := Nat.mod_lt k (show 0 < zLg s9 by omega); omega) (fun h21 => ?_) (fun h21 => ?_)
                · skip
                  have hfk : f k = zAcc ch (fun z => d 8 (k / zLg s9 * zLg s9 + z)) (k % zLg s9) := (hrs b70 k (Nat.le_refl _)).trans (zAc_0 h21)
                  refine lv_aload_n hx hb dX9_along_108 rfl (lv_at hl 0 rfl) ?_
                  refine lv_aload_n hx hb dX9_along_109 rfl (lv_at hl 0 rfl) ?_
                  refine mg_now C hW q597 dX9_along_110 ?_
                  refine lv_iload hx hb dX9_along_113 (lv_at hl 5 rfl) ?_
                  refine ml_now (j := k) C hW (by first | omega | (have h71 := zIx (m := zLn s9) (n := zLg s9) (a := j) (b := zLg s9 - 1) (by omega) (by omega); rw [Nat.mul_comm] at h71; omega)) dX9_along_115 ?_
                  rw [va_up_self]
                  refine ln_topd (y := zAcc ch (fun z => d 8 (k / zLg s9 * zLg s9 + z)) (k % zLg s9)) (hfk) ?_
                  refine ar_callV (q0 := 0) (ci := 7) (T9 := TX9) (N9 := 27) (As := [.double (zAcc ch (fun z => d 8 (k / zLg s9 * zLg s9 + z)) (k % zLg s9))]) (rest := []) C hW (c_X9_check hl9 (va_up g 21 (bI b)) a (va_up d 8 f) (zAcc ch (fun z => d 8 (k / zLg s9 * zLg s9 + z)) (k % zLg s9)) b (va_up_self _ _ _)) (rfl) rfl q776 q778 qs11 q6 q779 hd_X9_check ⟨Nat.le_of_ble_eq_true rfl, Nat.le_of_ble_eq_true rfl⟩ hl.1 (Nat.le_of_ble_eq_true rfl) rfl dX9_along_116 (fun _ _ _ _ _ _ hp => hp.elim) (fun v9 u9 H locs hp hW => ?_)
                  obtain ⟨rfl, hu9⟩ := hp
                  rw [hu9] at hW
                  rw [bx_uu] at hW
                  refine W.eq (g2 := F0 m 119 ls []) rfl ?_
                  refine ln_iinc (k := 5) (n := 1) (lv' := [(5, .int (nI (k + 1))), (0, .ref (ad 0)), (1, .int (nI ch)), (2, .int (bI red)), (3, .int (nI (zLn s9))), (4, .int (nI (zLg s9)))]) hx hb dX9_along_119 hl rfl (by decide) rfl (fun ls hl => ?_)
                  refine lv_goto (tgt := 57) hx hb dX9_along_122 (by decide) ?_
                  exact ihlp (k + 1) (b || !(zRg (zAcc ch (fun z => d 8 (k / zLg s9 * zLg s9 + z)) (k % zLg s9)))) f _ _ _ (by omega) (by omega) (by have h66 := zLi_s (F := (fun q => zAcc ch (fun z => d 8 (q / zLg s9 * zLg s9 + z)) (q % zLg s9))) (by omega) hli b70; rw [va_up_s hfk] at h66; exact h66) (fun _ q hq => hrs b70 q (by omega)) (hW) (lv_sub hl [1, 2, 3, 4, 5, 0] rfl)
                · skip
                  have hkw := h21
                  have hdv := zDv (by omega) hkw
                  refine lv_aload_n hx hb dX9_along_81 rfl (lv_at hl 0 rfl) ?_
                  refine mg_now C hW q597 dX9_along_82 ?_
                  refine lv_iload hx hb dX9_along_85 (lv_at hl 5 rfl) ?_
                  refine lv_iload_n hx hb dX9_along_87 rfl (lv_at hl 1 rfl) ?_
                  refine lv_aload_n hx hb dX9_along_88 rfl (lv_at hl 0 rfl) ?_
                  refine mg_now C hW q597 dX9_along_89 ?_
                  refine lv_iload hx hb dX9_along_92 (lv_at hl 5 rfl) ?_
                  refine lv_iconst (v := nI 1) hx hb dX9_along_94 (by decide) ?_
                  refine ln_isub hx hb dX9_along_95 (by omega) ?_
                  refine ml_now (j := k - 1) C hW (by first | omega | (have h71 := zIx (m := zLn s9) (n := zLg s9) (a := j) (b := zLg s9 - 1) (by omega) (by omega); rw [Nat.mul_comm] at h71; omega)) dX9_along_96 ?_
                  rw [va_up_self]
                  refine ln_topd (y := zAcc ch (fun z => d 8 ((k - 1) / zLg s9 * zLg s9 + z)) ((k - 1) % zLg s9)) ((hli.2.1 b70 (k - 1) (by omega)).1) ?_
                  refine lv_aload_n hx hb dX9_along_97 rfl (lv_at hl 0 rfl) ?_
                  refine mg_now C hW q597 dX9_along_98 ?_
                  refine lv_iload hx hb dX9_along_101 (lv_at hl 5 rfl) ?_
                  refine ml_now (j := k) C hW (by first | omega | (have h71 := zIx (m := zLn s9) (n := zLg s9) (a := j) (b := zLg s9 - 1) (by omega) (by omega); rw [Nat.mul_comm] at h71; omega)) dX9_along_103 ?_
                  rw [va_up_self]
                  refine ln_topd (y := d 8 k) (hrs b70 k (Nat.le_refl _)) ?_
                  refine ar_callS (As := [.int (nI ch), .double (zAcc ch (fun z => d 8 ((k - 1) / zLg s9 * zLg s9 + z)) ((k - 1) % zLg s9)), .double (d 8 k)]) (rest := [.int (nI k), .ref (ad 8)]) C hW (c_X9_join hl9 _ ch (zAcc ch (fun z => d 8 ((k - 1) / zLg s9 * zLg s9 + z)) ((k - 1) % zLg s9)) (d 8 k) (hcs) (zRg_nn _ (hli.2.1 b70 (k - 1) (by omega)).2 (hrn hb0 k (by omega)))) q773 q774 q6 q775 hd_X9_join ⟨Nat.le_of_ble_eq_true rfl, Nat.le_of_ble_eq_true rfl⟩ hl.1 (Nat.le_of_ble_eq_true rfl) rfl dX9_along_104 (fun _ _ _ _ _ _ hp => hp.elim) (fun v9 u9 H locs hp hW => ?_)
                  obtain ⟨rfl, hu9⟩ := hp
                  rw [hu9] at hW
                  refine W.eq (g2 := F0 m 107 ls [.double (zOp ch (zAcc ch (fun z => d 8 ((k - 1) / zLg s9 * zLg s9 + z)) ((k - 1) % zLg s9)) (d 8 k)), .int (nI k), .ref (ad 8)]) rfl ?_
                  refine ln_topd (y := zAcc ch (fun z => d 8 (k / zLg s9 * zLg s9 + z)) (k % zLg s9)) (zAc_s (by omega) hkw) ?_
                  refine ms_now (j := k) C hW (by first | omega | (have h71 := zIx (m := zLn s9) (n := zLg s9) (a := j) (b := zLg s9 - 1) (by omega) (by omega); rw [Nat.mul_comm] at h71; omega)) dX9_along_107 (fun H locs hW => ?_)
                  simp only [bx_uu, va_up_self] at hW
                  refine lv_aload_n hx hb dX9_along_108 rfl (lv_at hl 0 rfl) ?_
                  refine lv_aload_n hx hb dX9_along_109 rfl (lv_at hl 0 rfl) ?_
                  refine mg_now C hW q597 dX9_along_110 ?_
                  refine lv_iload hx hb dX9_along_113 (lv_at hl 5 rfl) ?_
                  refine ml_now (j := k) C hW (by first | omega | (have h71 := zIx (m := zLn s9) (n := zLg s9) (a := j) (b := zLg s9 - 1) (by omega) (by omega); rw [Nat.mul_comm] at h71; omega)) dX9_along_115 ?_
                  rw [va_up_self]
                  rw [va_up_self]
                  refine ar_callV (q0 := 0) (ci := 7) (T9 := TX9) (N9 := 27) (As := [.double (zAcc ch (fun z => d 8 (k / zLg s9 * zLg s9 + z)) (k % zLg s9))]) (rest := []) C hW (c_X9_check hl9 (va_up g 21 (bI b)) a (va_up d 8 (va_up f k (zAcc ch (fun z => d 8 (k / zLg s9 * zLg s9 + z)) (k % zLg s9)))) (zAcc ch (fun z => d 8 (k / zLg s9 * zLg s9 + z)) (k % zLg s9)) b (va_up_self _ _ _)) (rfl) rfl q776 q778 qs11 q6 q779 hd_X9_check ⟨Nat.le_of_ble_eq_true rfl, Nat.le_of_ble_eq_true rfl⟩ hl.1 (Nat.le_of_ble_eq_true rfl) rfl dX9_along_116 (fun _ _ _ _ _ _ hp => hp.elim) (fun v9 u9 H locs hp hW => ?_)
                  obtain ⟨rfl, hu9⟩ := hp
                  rw [hu9] at hW
                  rw [bx_uu] at hW
                  refine W.eq (g2 := F0 m 119 ls []) rfl ?_
                  refine ln_iinc (k := 5) (n := 1) (lv' := [(5, .int (nI (k + 1))), (0, .ref (ad 0)), (1, .int (nI ch)), (2, .int (bI red)), (3, .int (nI (zLn s9))), (4, .int (nI (zLg s9)))]) hx hb dX9_along_119 hl rfl (by decide) rfl (fun ls hl => ?_)
                  refine lv_goto (tgt := 57) hx hb dX9_along_122 (by decide) ?_
                  exact ihlp (k + 1) (b || !(zRg (zAcc ch (fun z => d 8 (k / zLg s9 * zLg s9 + z)) (k % zLg s9)))) (va_up f k (zAcc ch (fun z => d 8 (k / zLg s9 * zLg s9 + z)) (k % zLg s9))) _ _ _ (by omega) (by omega) (zLi_s (F := (fun q => zAcc ch (fun z => d 8 (q / zLg s9 * zLg s9 + z)) (q % zLg s9))) (by omega) hli b70) (fun _ q hq => by rw [va_up_ne _ _ (by omega)]; exact hrs b70 q (by omega)) (hW) (lv_sub hl [1, 2, 3, 4, 5, 0] rfl)
        exact lp _ 0 oo (d 8) _ _ _ (Nat.lt_succ_self _) (Nat.zero_le _) (zLi_0) (fun _ q _ => rfl) (by rw [va_up_s hoo, va_up_id]; exact hW) (lv_sub hl [3, 4, 5, 2, 1, 0] rfl)
    · skip
      refine lv_iconst (v := nI 1) hx hb dX9_along_17 (by decide) ?_
      refine lv_goto (tgt := 28) hx hb dX9_along_18 (by decide) ?_
      refine ln_top (a := zLn s9) (congrArg nI (by first | (exfalso; omega) | (unfold zLn; first | rw [if_pos (by omega)] | rw [if_neg (by omega)]))) ?_
      refine lv_istore_n (lv' := [(3, .int (nI (zLn s9))), (0, .ref (ad 0)), (1, .int (nI ch)), (2, .int (bI red))]) hx hb dX9_along_28 rfl hl (by decide) rfl (fun ls hl => ?_)
      refine lv_aload_n hx hb dX9_along_29 rfl (lv_at hl 1 rfl) ?_
      refine mg_nowShape C hW q602 dX9_along_30 ?_
      refine ln_top (hns) ?_
      refine lv_bipush (v := nI 32) hx hb dX9_along_33 (by decide) ?_
      refine ln_icmp_ge (tgt := 45) hx hb dX9_along_35 (by decide) (by omega) (by omega) (fun h22 => ?_) (fun h22 => ?_)
      · skip
        refine lv_aload_n hx hb dX9_along_45 rfl (lv_at hl 1 rfl) ?_
        refine mg_nowShape C hW q602 dX9_along_46 ?_
        refine ln_top (hns) ?_
        refine lv_bipush (v := nI 32) hx hb dX9_along_49 (by decide) ?_
        refine ln_irem hx hb dX9_along_51 (by omega) (by omega) (by omega) ?_
        refine ln_top (a := zLg s9) (congrArg nI (by first | (exfalso; omega) | (unfold zLg; rw [if_neg (by omega)]; done) | (unfold zLg; rw [if_neg (by omega)]; omega))) ?_
        refine lv_istore (lv' := [(4, .int (nI (zLg s9))), (3, .int (nI (zLn s9))), (0, .ref (ad 0)), (1, .int (nI ch)), (2, .int (bI red))]) hx hb dX9_along_52 hl (by decide) rfl (fun ls hl => ?_)
        refine lv_iconst (v := nI 0) hx hb dX9_along_54 (by decide) ?_
        refine lv_istore (lv' := [(5, .int (nI 0)), (4, .int (nI (zLg s9))), (3, .int (nI (zLn s9))), (0, .ref (ad 0)), (1, .int (nI ch)), (2, .int (bI red))]) hx hb dX9_along_55 hl (by decide) rfl (fun ls hl => ?_)
        have lp : ∀ (N9 : Nat) (k : Nat) (b : Bool) (f : Nat → UInt64) (H : Heap) (locs : List Loc) (ls : Array Slot), zLn s9 * zLg s9 - k < N9 → (k ≤ zLn s9 * zLg s9) → (zLi oo b k (zLn s9 * zLg s9) f (fun q => zAcc ch (fun z => d 8 (q / zLg s9 * zLg s9 + z)) (q % zLg s9))) → (b = false → ∀ q, k ≤ q → f q = d 8 q) → ar_W D A s.heap H locs (mL ad ct (va_up g 21 (bI b), a, va_up d 8 f)) → lv_has ls 6 [(0, .ref (ad 0)), (1, .int (nI ch)), (2, .int (bI red)), (3, .int (nI (zLn s9))), (4, .int (nI (zLg s9))), (5, .int (nI k))] → W p l e (ar_rm 2 43) s m [.ref (ad 0), .int (nI ch), .int (bI red)].toArray below meth c H locs 0 0 (ar_E below (ar_Q D ct (mL ad ct) A (fun v9 u9 => v9 = none ∧ ∃ (b : Bool) (f h : Nat → UInt64), zLi oo b (zCt s9) (zCt s9) f (fun q => zAcc ch (fun z => d 8 (q / zLg s9 * zLg s9 + z)) (q % zLg s9)) ∧ (red = false → h = f) ∧ (red = true → ∀ q, q < zLn s9 → h q = f (zLg s9 * q + zLg s9 - 1)) ∧ u9 = (va_up (va_up g 21 (bI b)) 15 (nI (if red = true then zRed s9 else s9)), a, va_up d 8 h)) (fun _ _ => False)) [.ref (ad 0), .int (nI ch), .int (bI red)].toArray s) (F0 m 57 ls []) := by
          intro N9
          induction N9 with
          | zero =>
            intro k b f H locs ls hN9
            exact absurd hN9 (Nat.not_lt_zero _)
          | succ N9 ihlp =>
            intro k b f H locs ls hN9 hk hli hrs hW hl
            refine lv_iload hx hb dX9_along_57 (lv_at hl 5 rfl) ?_
            refine lv_iload_n hx hb dX9_along_59 rfl (lv_at hl 3 rfl) ?_
            refine lv_iload hx hb dX9_along_60 (lv_at hl 4 rfl) ?_
            refine ln_imul hx hb dX9_along_62 ?_
            refine ln_icmp_ge (tgt := 125) hx hb dX9_along_63 (by decide) (by omega) (by omega) (fun h23 => ?_) (fun h23 => ?_)
            · skip
              refine lv_iload_n hx hb dX9_along_125 rfl (lv_at hl 2 rfl) ?_
              refine lb_if_ne (tgt := 130) hx hb dX9_along_126 (by decide) (fun h24 => ?_) (fun h24 => ?_)
              · skip
                refine lv_iconst (v := nI 0) hx hb dX9_along_130 (by decide) ?_
                refine lv_istore (lv' := [(5, .int (nI 0)), (0, .ref (ad 0)), (1, .int (nI ch)), (2, .int (bI red)), (3, .int (nI (zLn s9))), (4, .int (nI (zLg s9)))]) hx hb dX9_along_131 hl (by decide) rfl (fun ls hl => ?_)
                have lq : ∀ (N9 : Nat) (j : Nat) (h : Nat → UInt64) (H : Heap) (locs : List Loc) (ls : Array Slot), zLn s9 - j < N9 → (j ≤ zLn s9) → ((∀ q, q < j → h q = f (zLg s9 * q + zLg s9 - 1)) ∧ ∀ q, j ≤ q → h q = f q) → ar_W D A s.heap H locs (mL ad ct (va_up g 21 (bI b), a, va_up d 8 h)) → lv_has ls 6 [(0, .ref (ad 0)), (1, .int (nI ch)), (2, .int (bI red)), (3, .int (nI (zLn s9))), (4, .int (nI (zLg s9))), (5, .int (nI j))] → W p l e (ar_rm 2 43) s m [.ref (ad 0), .int (nI ch), .int (bI red)].toArray below meth c H locs 0 0 (ar_E below (ar_Q D ct (mL ad ct) A (fun v9 u9 => v9 = none ∧ ∃ (b : Bool) (f h : Nat → UInt64), zLi oo b (zCt s9) (zCt s9) f (fun q => zAcc ch (fun z => d 8 (q / zLg s9 * zLg s9 + z)) (q % zLg s9)) ∧ (red = false → h = f) ∧ (red = true → ∀ q, q < zLn s9 → h q = f (zLg s9 * q + zLg s9 - 1)) ∧ u9 = (va_up (va_up g 21 (bI b)) 15 (nI (if red = true then zRed s9 else s9)), a, va_up d 8 h)) (fun _ _ => False)) [.ref (ad 0), .int (nI ch), .int (bI red)].toArray s) (F0 m 133 ls []) := by
                  intro N9
                  induction N9 with
                  | zero =>
                    intro j h H locs ls hN9
                    exact absurd hN9 (Nat.not_lt_zero _)
                  | succ N9 ihlq =>
                    intro j h H locs ls hN9 hj hh hW hl
                    refine lv_iload hx hb dX9_along_133 (lv_at hl 5 rfl) ?_
                    refine lv_iload_n hx hb dX9_along_135 rfl (lv_at hl 3 rfl) ?_
                    refine ln_icmp_ge (tgt := 167) hx hb dX9_along_136 (by decide) (by omega) (by omega) (fun h25 => ?_) (fun h25 => ?_)
                    · skip
                      refine lv_aload_n hx hb dX9_along_167 rfl (lv_at hl 0 rfl) ?_
                      refine lv_aload_n hx hb dX9_along_168 rfl (lv_at hl 0 rfl) ?_
                      refine mg_nowShape C hW q602 dX9_along_169 ?_
                      rw [va_up_ne _ _ (by decide)]
                      refine ln_top (hns) ?_
                      refine lv_bipush (v := nI 32) hx hb dX9_along_172 (by decide) ?_
                      refine ln_icmp_ge (tgt := 181) hx hb dX9_along_174 (by decide) (by omega) (by omega) (fun h26 => ?_) (fun h26 => ?_)
                      · skip
                        refine lv_iload_n hx hb dX9_along_181 rfl (lv_at hl 3 rfl) ?_
                        refine mp_nowShape C hW q602 dX9_along_182 (fun H locs hW => ?_)
                        exact ar_vret C hr hW dX9_along_185 (⟨rfl, b, f, h, zLi_e hli (by first | exact Or.inl h23 | exact Or.inr (by omega)), (fun q => by rw [h24] at q; cases q), fun _ q hq => hh.1 q (by omega), by rw [h24, if_pos rfl, show zRed s9 = zLn s9 from by first | (exfalso; omega) | (unfold zRed zTb; first | rw [if_pos (by rw [decide_eq_true_eq]; omega)] | rw [if_neg (by rw [decide_eq_true_eq]; omega)])]⟩)
                      · skip
                        refine lv_iconst (v := nI 0) hx hb dX9_along_177 (by decide) ?_
                        refine lv_goto (tgt := 182) hx hb dX9_along_178 (by decide) ?_
                        refine mp_nowShape C hW q602 dX9_along_182 (fun H locs hW => ?_)
                        exact ar_vret C hr hW dX9_along_185 (⟨rfl, b, f, h, zLi_e hli (by first | exact Or.inl h23 | exact Or.inr (by omega)), (fun q => by rw [h24] at q; cases q), fun _ q hq => hh.1 q (by omega), by rw [h24, if_pos rfl, show zRed s9 = 0 from by first | (exfalso; omega) | (unfold zRed zTb; first | rw [if_pos (by rw [decide_eq_true_eq]; omega)] | rw [if_neg (by rw [decide_eq_true_eq]; omega)])]⟩)
                    · skip
                      refine lv_aload_n hx hb dX9_along_139 rfl (lv_at hl 0 rfl) ?_
                      refine mg_now C hW q597 dX9_along_140 ?_
                      refine lv_iload hx hb dX9_along_143 (lv_at hl 5 rfl) ?_
                      refine lv_aload_n hx hb dX9_along_145 rfl (lv_at hl 0 rfl) ?_
                      refine mg_now C hW q597 dX9_along_146 ?_
                      refine lv_iload hx hb dX9_along_149 (lv_at hl 4 rfl) ?_
                      refine lv_iload hx hb dX9_along_151 (lv_at hl 5 rfl) ?_
                      refine ln_imul hx hb dX9_along_153 ?_
                      refine lv_iload hx hb dX9_along_154 (lv_at hl 4 rfl) ?_
                      refine ln_iadd hx hb dX9_along_156 ?_
                      refine lv_iconst (v := nI 1) hx hb dX9_along_157 (by decide) ?_
                      refine ln_isub hx hb dX9_along_158 (by omega) ?_
                      refine ml_now (j := (((zLg s9) * j) + (zLg s9)) - 1) C hW (by first | omega | (have h71 := zIx (m := zLn s9) (n := zLg s9) (a := j) (b := zLg s9 - 1) (by omega) (by omega); rw [Nat.mul_comm] at h71; omega)) dX9_along_159 ?_
                      rw [va_up_self]
                      refine ms_now (j := j) C hW (by first | omega | (have h71 := zIx (m := zLn s9) (n := zLg s9) (a := j) (b := zLg s9 - 1) (by omega) (by omega); rw [Nat.mul_comm] at h71; omega)) dX9_along_160 (fun H locs hW => ?_)
                      simp only [bx_uu, va_up_self] at hW
                      refine ln_iinc (k := 5) (n := 1) (lv' := [(5, .int (nI (j + 1))), (0, .ref (ad 0)), (1, .int (nI ch)), (2, .int (bI red)), (3, .int (nI (zLn s9))), (4, .int (nI (zLg s9)))]) hx hb dX9_along_161 hl rfl (by decide) rfl (fun ls hl => ?_)
                      refine lv_goto (tgt := 133) hx hb dX9_along_164 (by decide) ?_
                      exact ihlq (j + 1) (va_up h j (h (zLg s9 * j + zLg s9 - 1))) _ _ _ (by omega) (by omega) (zRd_s (by omega) hh) (hW) (lv_sub hl [1, 2, 3, 4, 5, 0] rfl)
                exact lq _ 0 f _ _ _ (Nat.lt_succ_self _) (Nat.zero_le _) (⟨fun q hq => absurd hq (Nat.not_lt_zero _), fun q _ => rfl⟩) (hW) (lv_sub hl [1, 2, 3, 4, 5, 0] rfl)
              · skip
                exact ar_vret C hr hW dX9_along_129 (⟨rfl, b, f, f, zLi_e hli (by first | exact Or.inl h23 | exact Or.inr (by omega)), fun _ => rfl, (fun q => by rw [h24] at q; cases q), by rw [h24]; show _ = (va_up (va_up g 21 (bI b)) 15 (nI s9), a, va_up d 8 f); rw [va_up_s (f := va_up g 21 (bI b)) (k := 15) hns]⟩)
            · skip
              refine lv_aload_n hx hb dX9_along_66 rfl (lv_at hl 0 rfl) ?_
              refine mg_outOfRange C hW q608 dX9_along_67 ?_
              rw [va_up_self]
              refine lb_if_ne (tgt := 125) hx hb dX9_along_70 (by decide) (fun h27 => ?_) (fun h27 => ?_)
              · skip
                refine lv_iload_n hx hb dX9_along_125 rfl (lv_at hl 2 rfl) ?_
                refine lb_if_ne (tgt := 130) hx hb dX9_along_126 (by decide) (fun h28 => ?_) (fun h28 => ?_)
                · skip
                  refine lv_iconst (v := nI 0) hx hb dX9_along_130 (by decide) ?_
                  refine lv_istore (lv' := [(5, .int (nI 0)), (0, .ref (ad 0)), (1, .int (nI ch)), (2, .int (bI red)), (3, .int (nI (zLn s9))), (4, .int (nI (zLg s9)))]) hx hb dX9_along_131 hl (by decide) rfl (fun ls hl => ?_)
                  have lq : ∀ (N9 : Nat) (j : Nat) (h : Nat → UInt64) (H : Heap) (locs : List Loc) (ls : Array Slot), zLn s9 - j < N9 → (j ≤ zLn s9) → ((∀ q, q < j → h q = f (zLg s9 * q + zLg s9 - 1)) ∧ ∀ q, j ≤ q → h q = f q) → ar_W D A s.heap H locs (mL ad ct (va_up g 21 (bI b), a, va_up d 8 h)) → lv_has ls 6 [(0, .ref (ad 0)), (1, .int (nI ch)), (2, .int (bI red)), (3, .int (nI (zLn s9))), (4, .int (nI (zLg s9))), (5, .int (nI j))] → W p l e (ar_rm 2 43) s m [.ref (ad 0), .int (nI ch), .int (bI red)].toArray below meth c H locs 0 0 (ar_E below (ar_Q D ct (mL ad ct) A (fun v9 u9 => v9 = none ∧ ∃ (b : Bool) (f h : Nat → UInt64), zLi oo b (zCt s9) (zCt s9) f (fun q => zAcc ch (fun z => d 8 (q / zLg s9 * zLg s9 + z)) (q % zLg s9)) ∧ (red = false → h = f) ∧ (red = true → ∀ q, q < zLn s9 → h q = f (zLg s9 * q + zLg s9 - 1)) ∧ u9 = (va_up (va_up g 21 (bI b)) 15 (nI (if red = true then zRed s9 else s9)), a, va_up d 8 h)) (fun _ _ => False)) [.ref (ad 0), .int (nI ch), .int (bI red)].toArray s) (F0 m 133 ls []) := by
                    intro N9
                    induction N9 with
                    | zero =>
                      intro j h H locs ls hN9
                      exact absurd hN9 (Nat.not_lt_zero _)
                    | succ N9 ihlq =>
                      intro j h H locs ls hN9 hj hh hW hl
                      refine lv_iload hx hb dX9_along_133 (lv_at hl 5 rfl) ?_
                      refine lv_iload_n hx hb dX9_along_135 rfl (lv_at hl 3 rfl) ?_
                      refine ln_icmp_ge (tgt := 167) hx hb dX9_along_136 (by decide) (by omega) (by omega) (fun h29 => ?_) (fun h29 => ?_)
                      · skip
                        refine lv_aload_n hx hb dX9_along_167 rfl (lv_at hl 0 rfl) ?_
                        refine lv_aload_n hx hb dX9_along_168 rfl (lv_at hl 0 rfl) ?_
                        refine mg_nowShape C hW q602 dX9_along_169 ?_
                        rw [va_up_ne _ _ (by decide)]
                        refine ln_top (hns) ?_
                        refine lv_bipush (v := nI 32) hx hb dX9_along_172 (by decide) ?_
                        refine ln_icmp_ge (tgt := 181) hx hb dX9_along_174 (by decide) (by omega) (by omega) (fun h30 => ?_) (fun h30 => ?_)
                        · skip
                          refine lv_iload_n hx hb dX9_along_181 rfl (lv_at hl 3 rfl) ?_
                          refine mp_nowShape C hW q602 dX9_along_182 (fun H locs hW => ?_)
                          exact ar_vret C hr hW dX9_along_185 (⟨rfl, b, f, h, zLi_e hli (by first | exact Or.inl h27 | exact Or.inr (by omega)), (fun q => by rw [h28] at q; cases q), fun _ q hq => hh.1 q (by omega), by rw [h28, if_pos rfl, show zRed s9 = zLn s9 from by first | (exfalso; omega) | (unfold zRed zTb; first | rw [if_pos (by rw [decide_eq_true_eq]; omega)] | rw [if_neg (by rw [decide_eq_true_eq]; omega)])]⟩)
                        · skip
                          refine lv_iconst (v := nI 0) hx hb dX9_along_177 (by decide) ?_
                          refine lv_goto (tgt := 182) hx hb dX9_along_178 (by decide) ?_
                          refine mp_nowShape C hW q602 dX9_along_182 (fun H locs hW => ?_)
                          exact ar_vret C hr hW dX9_along_185 (⟨rfl, b, f, h, zLi_e hli (by first | exact Or.inl h27 | exact Or.inr (by omega)), (fun q => by rw [h28] at q; cases q), fun _ q hq => hh.1 q (by omega), by rw [h28, if_pos rfl, show zRed s9 = 0 from by first | (exfalso; omega) | (unfold zRed zTb; first | rw [if_pos (by rw [decide_eq_true_eq]; omega)] | rw [if_neg (by rw [decide_eq_true_eq]; omega)])]⟩)
                      · skip
                        refine lv_aload_n hx hb dX9_along_139 rfl (lv_at hl 0 rfl) ?_
                        refine mg_now C hW q597 dX9_along_140 ?_
                        refine lv_iload hx hb dX9_along_143 (lv_at hl 5 rfl) ?_
                        refine lv_aload_n hx hb dX9_along_145 rfl (lv_at hl 0 rfl) ?_
                        refine mg_now C hW q597 dX9_along_146 ?_
                        refine lv_iload hx hb dX9_along_149 (lv_at hl 4 rfl) ?_
                        refine lv_iload hx hb dX9_along_151 (lv_at hl 5 rfl) ?_
                        refine ln_imul hx hb dX9_along_153 ?_
                        refine lv_iload hx hb dX9_along_154 (lv_at hl 4 rfl) ?_
                        refine ln_iadd hx hb dX9_along_156 ?_
                        refine lv_iconst (v := nI 1) hx hb dX9_along_157 (by decide) ?_
                        refine ln_isub hx hb dX9_along_158 (by omega) ?_
                        refine ml_now (j := (((zLg s9) * j) + (zLg s9)) - 1) C hW (by first | omega | (have h71 := zIx (m := zLn s9) (n := zLg s9) (a := j) (b := zLg s9 - 1) (by omega) (by omega); rw [Nat.mul_comm] at h71; omega)) dX9_along_159 ?_
                        rw [va_up_self]
                        refine ms_now (j := j) C hW (by first | omega | (have h71 := zIx (m := zLn s9) (n := zLg s9) (a := j) (b := zLg s9 - 1) (by omega) (by omega); rw [Nat.mul_comm] at h71; omega)) dX9_along_160 (fun H locs hW => ?_)
                        simp only [bx_uu, va_up_self] at hW
                        refine ln_iinc (k := 5) (n := 1) (lv' := [(5, .int (nI (j + 1))), (0, .ref (ad 0)), (1, .int (nI ch)), (2, .int (bI red)), (3, .int (nI (zLn s9))), (4, .int (nI (zLg s9)))]) hx hb dX9_along_161 hl rfl (by decide) rfl (fun ls hl => ?_)
                        refine lv_goto (tgt := 133) hx hb dX9_along_164 (by decide) ?_
                        exact ihlq (j + 1) (va_up h j (h (zLg s9 * j + zLg s9 - 1))) _ _ _ (by omega) (by omega) (zRd_s (by omega) hh) (hW) (lv_sub hl [1, 2, 3, 4, 5, 0] rfl)
                  exact lq _ 0 f _ _ _ (Nat.lt_succ_self _) (Nat.zero_le _) (⟨fun q hq => absurd hq (Nat.not_lt_zero _), fun q _ => rfl⟩) (hW) (lv_sub hl [1, 2, 3, 4, 5, 0] rfl)
                · skip
                  exact ar_vret C hr hW dX9_along_129 (⟨rfl, b, f, f, zLi_e hli (by first | exact Or.inl h27 | exact Or.inr (by omega)), fun _ => rfl, (fun q => by rw [h28] at q; cases q), by rw [h28]; show _ = (va_up (va_up g 21 (bI b)) 15 (nI s9), a, va_up d 8 f); rw [va_up_s (f := va_up g 21 (bI b)) (k := 15) hns]⟩)
              · skip
                have b70 := h27
                have hb0 := zLi_oo hli b70
                refine lv_iload hx hb dX9_along_73 (lv_at hl 5 rfl) ?_
                refine lv_iload hx hb dX9_along_75 (lv_at hl 4 rfl) ?_
                refine ln_irem hx hb dX9_along_77 (by omega) (by omega) (by omega) ?_
                refine ln_if_le (tgt := 108) hx hb dX9_along_78 (by decide) (by have := Nat.mod_lt k (show 0 < zLg s9 by omega); omega) (fun h31 => ?_) (fun h31 => ?_)
                · skip
                  have hfk : f k = zAcc ch (fun z => d 8 (k / zLg s9 * zLg s9 + z)) (k % zLg s9) := (hrs b70 k (Nat.le_refl _)).trans (zAc_0 h31)
                  refine lv_aload_n hx hb dX9_along_108 rfl (lv_at hl 0 rfl) ?_
                  refine lv_aload_n hx hb dX9_along_109 rfl (lv_at hl 0 rfl) ?_
                  refine mg_now C hW q597 dX9_along_110 ?_
                  refine lv_iload hx hb dX9_along_113 (lv_at hl 5 rfl) ?_
                  refine ml_now (j := k) C hW (by first | omega | (have h71 := zIx (m := zLn s9) (n := zLg s9) (a := j) (b := zLg s9 - 1) (by omega) (by omega); rw [Nat.mul_comm] at h71; omega)) dX9_along_115 ?_
                  rw [va_up_self]
                  refine ln_topd (y := zAcc ch (fun z => d 8 (k / zLg s9 * zLg s9 + z)) (k % zLg s9)) (hfk) ?_
                  refine ar_callV (q0 := 0) (ci := 7) (T9 := TX9) (N9 := 27) (As := [.double (zAcc ch (fun z => d 8 (k / zLg s9 * zLg s9 + z)) (k % zLg s9))]) (rest := []) C hW (c_X9_check hl9 (va_up g 21 (bI b)) a (va_up d 8 f) (zAcc ch (fun z => d 8 (k / zLg s9 * zLg s9 + z)) (k % zLg s9)) b (va_up_self _ _ _)) (rfl) rfl q776 q778 qs11 q6 q779 hd_X9_check ⟨Nat.le_of_ble_eq_true rfl, Nat.le_of_ble_eq_true rfl⟩ hl.1 (Nat.le_of_ble_eq_true rfl) rfl dX9_along_116 (fun _ _ _ _ _ _ hp => hp.elim) (fun v9 u9 H locs hp hW => ?_)
                  obtain ⟨rfl, hu9⟩ := hp
                  rw [hu9] at hW
                  rw [bx_uu] at hW
                  refine W.eq (g2 := F0 m 119 ls []) rfl ?_
                  refine ln_iinc (k := 5) (n := 1) (lv' := [(5, .int (nI (k + 1))), (0, .ref (ad 0)), (1, .int (nI ch)), (2, .int (bI red)), (3, .int (nI (zLn s9))), (4, .int (nI (zLg s9)))]) hx hb dX9_along_119 hl rfl (by decide) rfl (fun ls hl => ?_)
                  refine lv_goto (tgt := 57) hx hb dX9_along_122 (by decide) ?_
                  exact ihlp (k + 1) (b || !(zRg (zAcc ch (fun z => d 8 (k / zLg s9 * zLg s9 + z)) (k % zLg s9)))) f _ _ _ (by omega) (by omega) (by have h66 := zLi_s (F := (fun q => zAcc ch (fun z => d 8 (q / zLg s9 * zLg s9 + z)) (q % zLg s9))) (by omega) hli b70; rw [va_up_s hfk] at h66; exact h66) (fun _ q hq => hrs b70 q (by omega)) (hW) (lv_sub hl [1, 2, 3, 4, 5, 0] rfl)
                · skip
                  have hkw := h31
                  have hdv := zDv (by omega) hkw
                  refine lv_aload_n hx hb dX9_along_81 rfl (lv_at hl 0 rfl) ?_
                  refine mg_now C hW q597 dX9_along_82 ?_
                  refine lv_iload hx hb dX9_along_85 (lv_at hl 5 rfl) ?_
                  refine lv_iload_n hx hb dX9_along_87 rfl (lv_at hl 1 rfl) ?_
                  refine lv_aload_n hx hb dX9_along_88 rfl (lv_at hl 0 rfl) ?_
                  refine mg_now C hW q597 dX9_along_89 ?_
                  refine lv_iload hx hb dX9_along_92 (lv_at hl 5 rfl) ?_
                  refine lv_iconst (v := nI 1) hx hb dX9_along_94 (by decide) ?_
                  refine ln_isub hx hb dX9_along_95 (by omega) ?_
                  refine ml_now (j := k - 1) C hW (by first | omega | (have h71 := zIx (m := zLn s9) (n := zLg s9) (a := j) (b := zLg s9 - 1) (by omega) (by omega); rw [Nat.mul_comm] at h71; omega)) dX9_along_96 ?_
                  rw [va_up_self]
                  refine ln_topd (y := zAcc ch (fun z => d 8 ((k - 1) / zLg s9 * zLg s9 + z)) ((k - 1) % zLg s9)) ((hli.2.1 b70 (k - 1) (by omega)).1) ?_
                  refine lv_aload_n hx hb dX9_along_97 rfl (lv_at hl 0 rfl) ?_
                  refine mg_now C hW q597 dX9_along_98 ?_
                  refine lv_iload hx hb dX9_along_101 (lv_at hl 5 rfl) ?_
                  refine ml_now (j := k) C hW (by first | omega | (have h71 := zIx (m := zLn s9) (n := zLg s9) (a := j) (b := zLg s9 - 1) (by omega) (by omega); rw [Nat.mul_comm] at h71; omega)) dX9_along_103 ?_
                  rw [va_up_self]
                  refine ln_topd (y := d 8 k) (hrs b70 k (Nat.le_refl _)) ?_
                  refine ar_callS (As := [.int (nI ch), .double (zAcc ch (fun z => d 8 ((k - 1) / zLg s9 * zLg s9 + z)) ((k - 1) % zLg s9)), .double (d 8 k)]) (rest := [.int (nI k), .ref (ad 8)]) C hW (c_X9_join hl9 _ ch (zAcc ch (fun z => d 8 ((k - 1) / zLg s9 * zLg s9 + z)) ((k - 1) % zLg s9)) (d 8 k) (hcs) (zRg_nn _ (hli.2.1 b70 (k - 1) (by omega)).2 (hrn hb0 k (by omega)))) q773 q774 q6 q775 hd_X9_join ⟨Nat.le_of_ble_eq_true rfl, Nat.le_of_ble_eq_true rfl⟩ hl.1 (Nat.le_of_ble_eq_true rfl) rfl dX9_along_104 (fun _ _ _ _ _ _ hp => hp.elim) (fun v9 u9 H locs hp hW => ?_)
                  obtain ⟨rfl, hu9⟩ := hp
                  rw [hu9] at hW
                  refine W.eq (g2 := F0 m 107 ls [.double (zOp ch (zAcc ch (fun z => d 8 ((k - 1) / zLg s9 * zLg s9 + z)) ((k - 1) % zLg s9)) (d 8 k)), .int (nI k), .ref (ad 8)]) rfl ?_
                  refine ln_topd (y := zAcc ch (fun z => d 8 (k / zLg s9 * zLg s9 + z)) (k % zLg s9)) (zAc_s (by omega) hkw) ?_
                  refine ms_now (j := k) C hW (by first | omega | (have h71 := zIx (m := zLn s9) (n := zLg s9) (a := j) (b := zLg s9 - 1) (by omega) (by omega); rw [Nat.mul_comm] at h71; omega)) dX9_along_107 (fun H locs hW => ?_)
                  simp only [bx_uu, va_up_self] at hW
                  refine lv_aload_n hx hb dX9_along_108 rfl (lv_at hl 0 rfl) ?_
                  refine lv_aload_n hx hb dX9_along_109 rfl (lv_at hl 0 rfl) ?_
                  refine mg_now C hW q597 dX9_along_110 ?_
                  refine lv_iload hx hb dX9_along_113 (lv_at hl 5 rfl) ?_
                  refine ml_now (j := k) C hW (by first | omega | (have h71 := zIx (m := zLn s9) (n := zLg s9) (a := j) (b := zLg s9 - 1) (by omega) (by omega); rw [Nat.mul_comm] at h71; omega)) dX9_along_115 ?_
                  rw [va_up_self]
                  rw [va_up_self]
                  refine ar_callV (q0 := 0) (ci := 7) (T9 := TX9) (N9 := 27) (As := [.double (zAcc ch (fun z => d 8 (k / zLg s9 * zLg s9 + z)) (k % zLg s9))]) (rest := []) C hW (c_X9_check hl9 (va_up g 21 (bI b)) a (va_up d 8 (va_up f k (zAcc ch (fun z => d 8 (k / zLg s9 * zLg s9 + z)) (k % zLg s9)))) (zAcc ch (fun z => d 8 (k / zLg s9 * zLg s9 + z)) (k % zLg s9)) b (va_up_self _ _ _)) (rfl) rfl q776 q778 qs11 q6 q779 hd_X9_check ⟨Nat.le_of_ble_eq_true rfl, Nat.le_of_ble_eq_true rfl⟩ hl.1 (Nat.le_of_ble_eq_true rfl) rfl dX9_along_116 (fun _ _ _ _ _ _ hp => hp.elim) (fun v9 u9 H locs hp hW => ?_)
                  obtain ⟨rfl, hu9⟩ := hp
                  rw [hu9] at hW
                  rw [bx_uu] at hW
                  refine W.eq (g2 := F0 m 119 ls []) rfl ?_
                  refine ln_iinc (k := 5) (n := 1) (lv' := [(5, .int (nI (k + 1))), (0, .ref (ad 0)), (1, .int (nI ch)), (2, .int (bI red)), (3, .int (nI (zLn s9))), (4, .int (nI (zLg s9)))]) hx hb dX9_along_119 hl rfl (by decide) rfl (fun ls hl => ?_)
                  refine lv_goto (tgt := 57) hx hb dX9_along_122 (by decide) ?_
                  exact ihlp (k + 1) (b || !(zRg (zAcc ch (fun z => d 8 (k / zLg s9 * zLg s9 + z)) (k % zLg s9)))) (va_up f k (zAcc ch (fun z => d 8 (k / zLg s9 * zLg s9 + z)) (k % zLg s9))) _ _ _ (by omega) (by omega) (zLi_s (F := (fun q => zAcc ch (fun z => d 8 (q / zLg s9 * zLg s9 + z)) (q % zLg s9))) (by omega) hli b70) (fun _ q hq => by rw [va_up_ne _ _ (by omega)]; exact hrs b70 q (by omega)) (hW) (lv_sub hl [1, 2, 3, 4, 5, 0] rfl)
        exact lp _ 0 oo (d 8) _ _ _ (Nat.lt_succ_self _) (Nat.zero_le _) (zLi_0) (fun _ q _ => rfl) (by rw [va_up_s hoo, va_up_id]; exact hW) (lv_sub hl [3, 4, 5, 2, 1, 0] rfl)
      · skip
        refine lv_aload_n hx hb dX9_along_38 rfl (lv_at hl 1 rfl) ?_
        refine mg_nowShape C hW q602 dX9_along_39 ?_
        refine ln_top (hns) ?_
        refine lv_goto (tgt := 52) hx hb dX9_along_42 (by decide) ?_
        refine ln_top (a := zLg s9) (congrArg nI (by first | (exfalso; omega) | (unfold zLg; rw [if_neg (by omega)]; done) | (unfold zLg; rw [if_neg (by omega)]; omega))) ?_
        refine lv_istore (lv' := [(4, .int (nI (zLg s9))), (3, .int (nI (zLn s9))), (0, .ref (ad 0)), (1, .int (nI ch)), (2, .int (bI red))]) hx hb dX9_along_52 hl (by decide) rfl (fun ls hl => ?_)
        refine lv_iconst (v := nI 0) hx hb dX9_along_54 (by decide) ?_
        refine lv_istore (lv' := [(5, .int (nI 0)), (4, .int (nI (zLg s9))), (3, .int (nI (zLn s9))), (0, .ref (ad 0)), (1, .int (nI ch)), (2, .int (bI red))]) hx hb dX9_along_55 hl (by decide) rfl (fun ls hl => ?_)
        have lp : ∀ (N9 : Nat) (k : Nat) (b : Bool) (f : Nat → UInt64) (H : Heap) (locs : List Loc) (ls : Array Slot), zLn s9 * zLg s9 - k < N9 → (k ≤ zLn s9 * zLg s9) → (zLi oo b k (zLn s9 * zLg s9) f (fun q => zAcc ch (fun z => d 8 (q / zLg s9 * zLg s9 + z)) (q % zLg s9))) → (b = false → ∀ q, k ≤ q → f q = d 8 q) → ar_W D A s.heap H locs (mL ad ct (va_up g 21 (bI b), a, va_up d 8 f)) → lv_has ls 6 [(0, .ref (ad 0)), (1, .int (nI ch)), (2, .int (bI red)), (3, .int (nI (zLn s9))), (4, .int (nI (zLg s9))), (5, .int (nI k))] → W p l e (ar_rm 2 43) s m [.ref (ad 0), .int (nI ch), .int (bI red)].toArray below meth c H locs 0 0 (ar_E below (ar_Q D ct (mL ad ct) A (fun v9 u9 => v9 = none ∧ ∃ (b : Bool) (f h : Nat → UInt64), zLi oo b (zCt s9) (zCt s9) f (fun q => zAcc ch (fun z => d 8 (q / zLg s9 * zLg s9 + z)) (q % zLg s9)) ∧ (red = false → h = f) ∧ (red = true → ∀ q, q < zLn s9 → h q = f (zLg s9 * q + zLg s9 - 1)) ∧ u9 = (va_up (va_up g 21 (bI b)) 15 (nI (if red = true then zRed s9 else s9)), a, va_up d 8 h)) (fun _ _ => False)) [.ref (ad 0), .int (nI ch), .int (bI red)].toArray s) (F0 m 57 ls []) := by
          intro N9
          induction N9 with
          | zero =>
            intro k b f H locs ls hN9
            exact absurd hN9 (Nat.not_lt_zero _)
          | succ N9 ihlp =>
            intro k b f H locs ls hN9 hk hli hrs hW hl
            refine lv_iload hx hb dX9_along_57 (lv_at hl 5 rfl) ?_
            refine lv_iload_n hx hb dX9_along_59 rfl (lv_at hl 3 rfl) ?_
            refine lv_iload hx hb dX9_along_60 (lv_at hl 4 rfl) ?_
            refine ln_imul hx hb dX9_along_62 ?_
            refine ln_icmp_ge (tgt := 125) hx hb dX9_along_63 (by decide) (by omega) (by omega) (fun h32 => ?_) (fun h32 => ?_)
            · skip
              refine lv_iload_n hx hb dX9_along_125 rfl (lv_at hl 2 rfl) ?_
              refine lb_if_ne (tgt := 130) hx hb dX9_along_126 (by decide) (fun h33 => ?_) (fun h33 => ?_)
              · skip
                refine lv_iconst (v := nI 0) hx hb dX9_along_130 (by decide) ?_
                refine lv_istore (lv' := [(5, .int (nI 0)), (0, .ref (ad 0)), (1, .int (nI ch)), (2, .int (bI red)), (3, .int (nI (zLn s9))), (4, .int (nI (zLg s9)))]) hx hb dX9_along_131 hl (by decide) rfl (fun ls hl => ?_)
                have lq : ∀ (N9 : Nat) (j : Nat) (h : Nat → UInt64) (H : Heap) (locs : List Loc) (ls : Array Slot), zLn s9 - j < N9 → (j ≤ zLn s9) → ((∀ q, q < j → h q = f (zLg s9 * q + zLg s9 - 1)) ∧ ∀ q, j ≤ q → h q = f q) → ar_W D A s.heap H locs (mL ad ct (va_up g 21 (bI b), a, va_up d 8 h)) → lv_has ls 6 [(0, .ref (ad 0)), (1, .int (nI ch)), (2, .int (bI red)), (3, .int (nI (zLn s9))), (4, .int (nI (zLg s9))), (5, .int (nI j))] → W p l e (ar_rm 2 43) s m [.ref (ad 0), .int (nI ch), .int (bI red)].toArray below meth c H locs 0 0 (ar_E below (ar_Q D ct (mL ad ct) A (fun v9 u9 => v9 = none ∧ ∃ (b : Bool) (f h : Nat → UInt64), zLi oo b (zCt s9) (zCt s9) f (fun q => zAcc ch (fun z => d 8 (q / zLg s9 * zLg s9 + z)) (q % zLg s9)) ∧ (red = false → h = f) ∧ (red = true → ∀ q, q < zLn s9 → h q = f (zLg s9 * q + zLg s9 - 1)) ∧ u9 = (va_up (va_up g 21 (bI b)) 15 (nI (if red = true then zRed s9 else s9)), a, va_up d 8 h)) (fun _ _ => False)) [.ref (ad 0), .int (nI ch), .int (bI red)].toArray s) (F0 m 133 ls []) := by
                  intro N9
                  induction N9 with
                  | zero =>
                    intro j h H locs ls hN9
                    exact absurd hN9 (Nat.not_lt_zero _)
                  | succ N9 ihlq =>
                    intro j h H locs ls hN9 hj hh hW hl
                    refine lv_iload hx hb dX9_along_133 (lv_at hl 5 rfl) ?_
                    refine lv_iload_n hx hb dX9_along_135 rfl (lv_at hl 3 rfl) ?_
                    refine ln_icmp_ge (tgt := 167) hx hb dX9_along_136 (by decide) (by omega) (by omega) (fun h34 => ?_) (fun h34 => ?_)
                    · skip
                      refine lv_aload_n hx hb dX9_along_167 rfl (lv_at hl 0 rfl) ?_
                      refine lv_aload_n hx hb dX9_along_168 rfl (lv_at hl 0 rfl) ?_
                      refine mg_nowShape C hW q602 dX9_along_169 ?_
                      rw [va_up_ne _ _ (by decide)]
                      refine ln_top (hns) ?_
                      refine lv_bipush (v := nI 32) hx hb dX9_along_172 (by decide) ?_
                      refine ln_icmp_ge (tgt := 181) hx hb dX9_along_174 (by decide) (by omega) (by omega) (fun h35 => ?_) (fun h35 => ?_)
                      · skip
                        refine lv_iload_n hx hb dX9_along_181 rfl (lv_at hl 3 rfl) ?_
                        refine mp_nowShape C hW q602 dX9_along_182 (fun H locs hW => ?_)
                        exact ar_vret C hr hW dX9_along_185 (⟨rfl, b, f, h, zLi_e hli (by first | exact Or.inl h32 | exact Or.inr (by omega)), (fun q => by rw [h33] at q; cases q), fun _ q hq => hh.1 q (by omega), by rw [h33, if_pos rfl, show zRed s9 = zLn s9 from by first | (exfalso; omega) | (unfold zRed zTb; first | rw [if_pos (by rw [decide_eq_true_eq]; omega)] | rw [if_neg (by rw [decide_eq_true_eq]; omega)])]⟩)
                      · skip
                        refine lv_iconst (v := nI 0) hx hb dX9_along_177 (by decide) ?_
                        refine lv_goto (tgt := 182) hx hb dX9_along_178 (by decide) ?_
                        refine mp_nowShape C hW q602 dX9_along_182 (fun H locs hW => ?_)
                        exact ar_vret C hr hW dX9_along_185 (⟨rfl, b, f, h, zLi_e hli (by first | exact Or.inl h32 | exact Or.inr (by omega)), (fun q => by rw [h33] at q; cases q), fun _ q hq => hh.1 q (by omega), by rw [h33, if_pos rfl, show zRed s9 = 0 from by first | (exfalso; omega) | (unfold zRed zTb; first | rw [if_pos (by rw [decide_eq_true_eq]; omega)] | rw [if_neg (by rw [decide_eq_true_eq]; omega)])]⟩)
                    · skip
                      refine lv_aload_n hx hb dX9_along_139 rfl (lv_at hl 0 rfl) ?_
                      refine mg_now C hW q597 dX9_along_140 ?_
                      refine lv_iload hx hb dX9_along_143 (lv_at hl 5 rfl) ?_
                      refine lv_aload_n hx hb dX9_along_145 rfl (lv_at hl 0 rfl) ?_
                      refine mg_now C hW q597 dX9_along_146 ?_
                      refine lv_iload hx hb dX9_along_149 (lv_at hl 4 rfl) ?_
                      refine lv_iload hx hb dX9_along_151 (lv_at hl 5 rfl) ?_
                      refine ln_imul hx hb dX9_along_153 ?_
                      refine lv_iload hx hb dX9_along_154 (lv_at hl 4 rfl) ?_
                      refine ln_iadd hx hb dX9_along_156 ?_
                      refine lv_iconst (v := nI 1) hx hb dX9_along_157 (by decide) ?_
                      refine ln_isub hx hb dX9_along_158 (by omega) ?_
                      refine ml_now (j := (((zLg s9) * j) + (zLg s9)) - 1) C hW (by first | omega | (have h71 := zIx (m := zLn s9) (n := zLg s9) (a := j) (b := zLg s9 - 1) (by omega) (by omega); rw [Nat.mul_comm] at h71; omega)) dX9_along_159 ?_
                      rw [va_up_self]
                      refine ms_now (j := j) C hW (by first | omega | (have h71 := zIx (m := zLn s9) (n := zLg s9) (a := j) (b := zLg s9 - 1) (by omega) (by omega); rw [Nat.mul_comm] at h71; omega)) dX9_along_160 (fun H locs hW => ?_)
                      simp only [bx_uu, va_up_self] at hW
                      refine ln_iinc (k := 5) (n := 1) (lv' := [(5, .int (nI (j + 1))), (0, .ref (ad 0)), (1, .int (nI ch)), (2, .int (bI red)), (3, .int (nI (zLn s9))), (4, .int (nI (zLg s9)))]) hx hb dX9_along_161 hl rfl (by decide) rfl (fun ls hl => ?_)
                      refine lv_goto (tgt := 133) hx hb dX9_along_164 (by decide) ?_
                      exact ihlq (j + 1) (va_up h j (h (zLg s9 * j + zLg s9 - 1))) _ _ _ (by omega) (by omega) (zRd_s (by omega) hh) (hW) (lv_sub hl [1, 2, 3, 4, 5, 0] rfl)
                exact lq _ 0 f _ _ _ (Nat.lt_succ_self _) (Nat.zero_le _) (⟨fun q hq => absurd hq (Nat.not_lt_zero _), fun q _ => rfl⟩) (hW) (lv_sub hl [1, 2, 3, 4, 5, 0] rfl)
              · skip
                exact ar_vret C hr hW dX9_along_129 (⟨rfl, b, f, f, zLi_e hli (by first | exact Or.inl h32 | exact Or.inr (by omega)), fun _ => rfl, (fun q => by rw [h33] at q; cases q), by rw [h33]; show _ = (va_up (va_up g 21 (bI b)) 15 (nI s9), a, va_up d 8 f); rw [va_up_s (f := va_up g 21 (bI b)) (k := 15) hns]⟩)
            · skip
              refine lv_aload_n hx hb dX9_along_66 rfl (lv_at hl 0 rfl) ?_
              refine mg_outOfRange C hW q608 dX9_along_67 ?_
              rw [va_up_self]
              refine lb_if_ne (tgt := 125) hx hb dX9_along_70 (by decide) (fun h36 => ?_) (fun h36 => ?_)
              · skip
                refine lv_iload_n hx hb dX9_along_125 rfl (lv_at hl 2 rfl) ?_
                refine lb_if_ne (tgt := 130) hx hb dX9_along_126 (by decide) (fun h37 => ?_) (fun h37 => ?_)
                · skip
                  refine lv_iconst (v := nI 0) hx hb dX9_along_130 (by decide) ?_
                  refine lv_istore (lv' := [(5, .int (nI 0)), (0, .ref (ad 0)), (1, .int (nI ch)), (2, .int (bI red)), (3, .int (nI (zLn s9))), (4, .int (nI (zLg s9)))]) hx hb dX9_along_131 hl (by decide) rfl (fun ls hl => ?_)
                  have lq : ∀ (N9 : Nat) (j : Nat) (h : Nat → UInt64) (H : Heap) (locs : List Loc) (ls : Array Slot), zLn s9 - j < N9 → (j ≤ zLn s9) → ((∀ q, q < j → h q = f (zLg s9 * q + zLg s9 - 1)) ∧ ∀ q, j ≤ q → h q = f q) → ar_W D A s.heap H locs (mL ad ct (va_up g 21 (bI b), a, va_up d 8 h)) → lv_has ls 6 [(0, .ref (ad 0)), (1, .int (nI ch)), (2, .int (bI red)), (3, .int (nI (zLn s9))), (4, .int (nI (zLg s9))), (5, .int (nI j))] → W p l e (ar_rm 2 43) s m [.ref (ad 0), .int (nI ch), .int (bI red)].toArray below meth c H locs 0 0 (ar_E below (ar_Q D ct (mL ad ct) A (fun v9 u9 => v9 = none ∧ ∃ (b : Bool) (f h : Nat → UInt64), zLi oo b (zCt s9) (zCt s9) f (fun q => zAcc ch (fun z => d 8 (q / zLg s9 * zLg s9 + z)) (q % zLg s9)) ∧ (red = false → h = f) ∧ (red = true → ∀ q, q < zLn s9 → h q = f (zLg s9 * q + zLg s9 - 1)) ∧ u9 = (va_up (va_up g 21 (bI b)) 15 (nI (if red = true then zRed s9 else s9)), a, va_up d 8 h)) (fun _ _ => False)) [.ref (ad 0), .int (nI ch), .int (bI red)].toArray s) (F0 m 133 ls []) := by
                    intro N9
                    induction N9 with
                    | zero =>
                      intro j h H locs ls hN9
                      exact absurd hN9 (Nat.not_lt_zero _)
                    | succ N9 ihlq =>
                      intro j h H locs ls hN9 hj hh hW hl
                      refine lv_iload hx hb dX9_along_133 (lv_at hl 5 rfl) ?_
                      refine lv_iload_n hx hb dX9_along_135 rfl (lv_at hl 3 rfl) ?_
                      refine ln_icmp_ge (tgt := 167) hx hb dX9_along_136 (by decide) (by omega) (by omega) (fun h38 => ?_) (fun h38 => ?_)
                      · skip
                        refine lv_aload_n hx hb dX9_along_167 rfl (lv_at hl 0 rfl) ?_
                        refine lv_aload_n hx hb dX9_along_168 rfl (lv_at hl 0 rfl) ?_
                        refine mg_nowShape C hW q602 dX9_along_169 ?_
                        rw [va_up_ne _ _ (by decide)]
                        refine ln_top (hns) ?_
                        refine lv_bipush (v := nI 32) hx hb dX9_along_172 (by decide) ?_
                        refine ln_icmp_ge (tgt := 181) hx hb dX9_along_174 (by decide) (by omega) (by omega) (fun h39 => ?_) (fun h39 => ?_)
                        · skip
                          refine lv_iload_n hx hb dX9_along_181 rfl (lv_at hl 3 rfl) ?_
                          refine mp_nowShape C hW q602 dX9_along_182 (fun H locs hW => ?_)
                          exact ar_vret C hr hW dX9_along_185 (⟨rfl, b, f, h, zLi_e hli (by first | exact Or.inl h36 | exact Or.inr (by omega)), (fun q => by rw [h37] at q; cases q), fun _ q hq => hh.1 q (by omega), by rw [h37, if_pos rfl, show zRed s9 = zLn s9 from by first | (exfalso; omega) | (unfold zRed zTb; first | rw [if_pos (by rw [decide_eq_true_eq]; omega)] | rw [if_neg (by rw [decide_eq_true_eq]; omega)])]⟩)
                        · skip
                          refine lv_iconst (v := nI 0) hx hb dX9_along_177 (by decide) ?_
                          refine lv_goto (tgt := 182) hx hb dX9_along_178 (by decide) ?_
                          refine mp_nowShape C hW q602 dX9_along_182 (fun H locs hW => ?_)
                          exact ar_vret C hr hW dX9_along_185 (⟨rfl, b, f, h, zLi_e hli (by first | exact Or.inl h36 | exact Or.inr (by omega)), (fun q => by rw [h37] at q; cases q), fun _ q hq => hh.1 q (by omega), by rw [h37, if_pos rfl, show zRed s9 = 0 from by first | (exfalso; omega) | (unfold zRed zTb; first | rw [if_pos (by rw [decide_eq_true_eq]; omega)] | rw [if_neg (by rw [decide_eq_true_eq]; omega)])]⟩)
                      · skip
                        refine lv_aload_n hx hb dX9_along_139 rfl (lv_at hl 0 rfl) ?_
                        refine mg_now C hW q597 dX9_along_140 ?_
                        refine lv_iload hx hb dX9_along_143 (lv_at hl 5 rfl) ?_
                        refine lv_aload_n hx hb dX9_along_145 rfl (lv_at hl 0 rfl) ?_
                        refine mg_now C hW q597 dX9_along_146 ?_
                        refine lv_iload hx hb dX9_along_149 (lv_at hl 4 rfl) ?_
                        refine lv_iload hx hb dX9_along_151 (lv_at hl 5 rfl) ?_
                        refine ln_imul hx hb dX9_along_153 ?_
                        refine lv_iload hx hb dX9_along_154 (lv_at hl 4 rfl) ?_
                        refine ln_iadd hx hb dX9_along_156 ?_
                        refine lv_iconst (v := nI 1) hx hb dX9_along_157 (by decide) ?_
                        refine ln_isub hx hb dX9_along_158 (by omega) ?_
                        refine ml_now (j := (((zLg s9) * j) + (zLg s9)) - 1) C hW (by first | omega | (have h71 := zIx (m := zLn s9) (n := zLg s9) (a := j) (b := zLg s9 - 1) (by omega) (by omega); rw [Nat.mul_comm] at h71; omega)) dX9_along_159 ?_
                        rw [va_up_self]
                        refine ms_now (j := j) C hW (by first | omega | (have h71 := zIx (m := zLn s9) (n := zLg s9) (a := j) (b := zLg s9 - 1) (by omega) (by omega); rw [Nat.mul_comm] at h71; omega)) dX9_along_160 (fun H locs hW => ?_)
                        simp only [bx_uu, va_up_self] at hW
                        refine ln_iinc (k := 5) (n := 1) (lv' := [(5, .int (nI (j + 1))), (0, .ref (ad 0)), (1, .int (nI ch)), (2, .int (bI red)), (3, .int (nI (zLn s9))), (4, .int (nI (zLg s9)))]) hx hb dX9_along_161 hl rfl (by decide) rfl (fun ls hl => ?_)
                        refine lv_goto (tgt := 133) hx hb dX9_along_164 (by decide) ?_
                        exact ihlq (j + 1) (va_up h j (h (zLg s9 * j + zLg s9 - 1))) _ _ _ (by omega) (by omega) (zRd_s (by omega) hh) (hW) (lv_sub hl [1, 2, 3, 4, 5, 0] rfl)
                  exact lq _ 0 f _ _ _ (Nat.lt_succ_self _) (Nat.zero_le _) (⟨fun q hq => absurd hq (Nat.not_lt_zero _), fun q _ => rfl⟩) (hW) (lv_sub hl [1, 2, 3, 4, 5, 0] rfl)
                · skip
                  exact ar_vret C hr hW dX9_along_129 (⟨rfl, b, f, f, zLi_e hli (by first | exact Or.inl h36 | exact Or.inr (by omega)), fun _ => rfl, (fun q => by rw [h37] at q; cases q), by rw [h37]; show _ = (va_up (va_up g 21 (bI b)) 15 (nI s9), a, va_up d 8 f); rw [va_up_s (f := va_up g 21 (bI b)) (k := 15) hns]⟩)
              · skip
                have b70 := h36
                have hb0 := zLi_oo hli b70
                refine lv_iload hx hb dX9_along_73 (lv_at hl 5 rfl) ?_
                refine lv_iload hx hb dX9_along_75 (lv_at hl 4 rfl) ?_
                refine ln_irem hx hb dX9_along_77 (by omega) (by omega) (by omega) ?_
                refine ln_if_le (tgt := 108) hx hb dX9_along_78 (by decide) (by have := Nat.mod_lt k (show 0 < zLg s9 by omega); omega) (fun h40 => ?_) (fun h40 => ?_)
                · skip
                  have hfk : f k = zAcc ch (fun z => d 8 (k / zLg s9 * zLg s9 + z)) (k % zLg s9) := (hrs b70 k (Nat.le_refl _)).trans (zAc_0 h40)
                  refine lv_aload_n hx hb dX9_along_108 rfl (lv_at hl 0 rfl) ?_
                  refine lv_aload_n hx hb dX9_along_109 rfl (lv_at hl 0 rfl) ?_
                  refine mg_now C hW q597 dX9_along_110 ?_
                  refine lv_iload hx hb dX9_along_113 (lv_at hl 5 rfl) ?_
                  refine ml_now (j := k) C hW (by first | omega | (have h71 := zIx (m := zLn s9) (n := zLg s9) (a := j) (b := zLg s9 - 1) (by omega) (by omega); rw [Nat.mul_comm] at h71; omega)) dX9_along_115 ?_
                  rw [va_up_self]
                  refine ln_topd (y := zAcc ch (fun z => d 8 (k / zLg s9 * zLg s9 + z)) (k % zLg s9)) (hfk) ?_
                  refine ar_callV (q0 := 0) (ci := 7) (T9 := TX9) (N9 := 27) (As := [.double (zAcc ch (fun z => d 8 (k / zLg s9 * zLg s9 + z)) (k % zLg s9))]) (rest := []) C hW (c_X9_check hl9 (va_up g 21 (bI b)) a (va_up d 8 f) (zAcc ch (fun z => d 8 (k / zLg s9 * zLg s9 + z)) (k % zLg s9)) b (va_up_self _ _ _)) (rfl) rfl q776 q778 qs11 q6 q779 hd_X9_check ⟨Nat.le_of_ble_eq_true rfl, Nat.le_of_ble_eq_true rfl⟩ hl.1 (Nat.le_of_ble_eq_true rfl) rfl dX9_along_116 (fun _ _ _ _ _ _ hp => hp.elim) (fun v9 u9 H locs hp hW => ?_)
                  obtain ⟨rfl, hu9⟩ := hp
                  rw [hu9] at hW
                  rw [bx_uu] at hW
                  refine W.eq (g2 := F0 m 119 ls []) rfl ?_
                  refine ln_iinc (k := 5) (n := 1) (lv' := [(5, .int (nI (k + 1))), (0, .ref (ad 0)), (1, .int (nI ch)), (2, .int (bI red)), (3, .int (nI (zLn s9))), (4, .int (nI (zLg s9)))]) hx hb dX9_along_119 hl rfl (by decide) rfl (fun ls hl => ?_)
                  refine lv_goto (tgt := 57) hx hb dX9_along_122 (by decide) ?_
                  exact ihlp (k + 1) (b || !(zRg (zAcc ch (fun z => d 8 (k / zLg s9 * zLg s9 + z)) (k % zLg s9)))) f _ _ _ (by omega) (by omega) (by have h66 := zLi_s (F := (fun q => zAcc ch (fun z => d 8 (q / zLg s9 * zLg s9 + z)) (q % zLg s9))) (by omega) hli b70; rw [va_up_s hfk] at h66; exact h66) (fun _ q hq => hrs b70 q (by omega)) (hW) (lv_sub hl [1, 2, 3, 4, 5, 0] rfl)
                · skip
                  have hkw := h40
                  have hdv := zDv (by omega) hkw
                  refine lv_aload_n hx hb dX9_along_81 rfl (lv_at hl 0 rfl) ?_
                  refine mg_now C hW q597 dX9_along_82 ?_
                  refine lv_iload hx hb dX9_along_85 (lv_at hl 5 rfl) ?_
                  refine lv_iload_n hx hb dX9_along_87 rfl (lv_at hl 1 rfl) ?_
                  refine lv_aload_n hx hb dX9_along_88 rfl (lv_at hl 0 rfl) ?_
                  refine mg_now C hW q597 dX9_along_89 ?_
                  refine lv_iload hx hb dX9_along_92 (lv_at hl 5 rfl) ?_
                  refine lv_iconst (v := nI 1) hx hb dX9_along_94 (by decide) ?_
                  refine ln_isub hx hb dX9_along_95 (by omega) ?_
                  refine ml_now (j := k - 1) C hW (by first | omega | (have h71 := zIx (m := zLn s9) (n := zLg s9) (a := j) (b := zLg s9 - 1) (by omega) (by omega); rw [Nat.mul_comm] at h71; omega)) dX9_along_96 ?_
                  rw [va_up_self]
                  refine ln_topd (y := zAcc ch (fun z => d 8 ((k - 1) / zLg s9 * zLg s9 + z)) ((k - 1) % zLg s9)) ((hli.2.1 b70 (k - 1) (by omega)).1) ?_
                  refine lv_aload_n hx hb dX9_along_97 rfl (lv_at hl 0 rfl) ?_
                  refine mg_now C hW q597 dX9_along_98 ?_
                  refine lv_iload hx hb dX9_along_101 (lv_at hl 5 rfl) ?_
                  refine ml_now (j := k) C hW (by first | omega | (have h71 := zIx (m := zLn s9) (n := zLg s9) (a := j) (b := zLg s9 - 1) (by omega) (by omega); rw [Nat.mul_comm] at h71; omega)) dX9_along_103 ?_
                  rw [va_up_self]
                  refine ln_topd (y := d 8 k) (hrs b70 k (Nat.le_refl _)) ?_
                  refine ar_callS (As := [.int (nI ch), .double (zAcc ch (fun z => d 8 ((k - 1) / zLg s9 * zLg s9 + z)) ((k - 1) % zLg s9)), .double (d 8 k)]) (rest := [.int (nI k), .ref (ad 8)]) C hW (c_X9_join hl9 _ ch (zAcc ch (fun z => d 8 ((k - 1) / zLg s9 * zLg s9 + z)) ((k - 1) % zLg s9)) (d 8 k) (hcs) (zRg_nn _ (hli.2.1 b70 (k - 1) (by omega)).2 (hrn hb0 k (by omega)))) q773 q774 q6 q775 hd_X9_join ⟨Nat.le_of_ble_eq_true rfl, Nat.le_of_ble_eq_true rfl⟩ hl.1 (Nat.le_of_ble_eq_true rfl) rfl dX9_along_104 (fun _ _ _ _ _ _ hp => hp.elim) (fun v9 u9 H locs hp hW => ?_)
                  obtain ⟨rfl, hu9⟩ := hp
                  rw [hu9] at hW
                  refine W.eq (g2 := F0 m 107 ls [.double (zOp ch (zAcc ch (fun z => d 8 ((k - 1) / zLg s9 * zLg s9 + z)) ((k - 1) % zLg s9)) (d 8 k)), .int (nI k), .ref (ad 8)]) rfl ?_
                  refine ln_topd (y := zAcc ch (fun z => d 8 (k / zLg s9 * zLg s9 + z)) (k % zLg s9)) (zAc_s (by omega) hkw) ?_
                  refine ms_now (j := k) C hW (by first | omega | (have h71 := zIx (m := zLn s9) (n := zLg s9) (a := j) (b := zLg s9 - 1) (by omega) (by omega); rw [Nat.mul_comm] at h71; omega)) dX9_along_107 (fun H locs hW => ?_)
                  simp only [bx_uu, va_up_self] at hW
                  refine lv_aload_n hx hb dX9_along_108 rfl (lv_at hl 0 rfl) ?_
                  refine lv_aload_n hx hb dX9_along_109 rfl (lv_at hl 0 rfl) ?_
                  refine mg_now C hW q597 dX9_along_110 ?_
                  refine lv_iload hx hb dX9_along_113 (lv_at hl 5 rfl) ?_
                  refine ml_now (j := k) C hW (by first | omega | (have h71 := zIx (m := zLn s9) (n := zLg s9) (a := j) (b := zLg s9 - 1) (by omega) (by omega); rw [Nat.mul_comm] at h71; omega)) dX9_along_115 ?_
                  rw [va_up_self]
                  rw [va_up_self]
                  refine ar_callV (q0 := 0) (ci := 7) (T9 := TX9) (N9 := 27) (As := [.double (zAcc ch (fun z => d 8 (k / zLg s9 * zLg s9 + z)) (k % zLg s9))]) (rest := []) C hW (c_X9_check hl9 (va_up g 21 (bI b)) a (va_up d 8 (va_up f k (zAcc ch (fun z => d 8 (k / zLg s9 * zLg s9 + z)) (k % zLg s9)))) (zAcc ch (fun z => d 8 (k / zLg s9 * zLg s9 + z)) (k % zLg s9)) b (va_up_self _ _ _)) (rfl) rfl q776 q778 qs11 q6 q779 hd_X9_check ⟨Nat.le_of_ble_eq_true rfl, Nat.le_of_ble_eq_true rfl⟩ hl.1 (Nat.le_of_ble_eq_true rfl) rfl dX9_along_116 (fun _ _ _ _ _ _ hp => hp.elim) (fun v9 u9 H locs hp hW => ?_)
                  obtain ⟨rfl, hu9⟩ := hp
                  rw [hu9] at hW
                  rw [bx_uu] at hW
                  refine W.eq (g2 := F0 m 119 ls []) rfl ?_
                  refine ln_iinc (k := 5) (n := 1) (lv' := [(5, .int (nI (k + 1))), (0, .ref (ad 0)), (1, .int (nI ch)), (2, .int (bI red)), (3, .int (nI (zLn s9))), (4, .int (nI (zLg s9)))]) hx hb dX9_along_119 hl rfl (by decide) rfl (fun ls hl => ?_)
                  refine lv_goto (tgt := 57) hx hb dX9_along_122 (by decide) ?_
                  exact ihlp (k + 1) (b || !(zRg (zAcc ch (fun z => d 8 (k / zLg s9 * zLg s9 + z)) (k % zLg s9)))) (va_up f k (zAcc ch (fun z => d 8 (k / zLg s9 * zLg s9 + z)) (k % zLg s9))) _ _ _ (by omega) (by omega) (zLi_s (F := (fun q => zAcc ch (fun z => d 8 (q / zLg s9 * zLg s9 + z)) (q % zLg s9))) (by omega) hli b70) (fun _ q hq => by rw [va_up_ne _ _ (by omega)]; exact hrs b70 q (by omega)) (hW) (lv_sub hl [1, 2, 3, 4, 5, 0] rfl)
        exact lp _ 0 oo (d 8) _ _ _ (Nat.lt_succ_self _) (Nat.zero_le _) (zLi_0) (fun _ q _ => rfl) (by rw [va_up_s hoo, va_up_id]; exact hW) (lv_sub hl [3, 4, 5, 2, 1, 0] rfl)
  · skip
    subst h1
    exact ar_vret C hr hW dX9_along_7 (⟨rfl, oo, d 8, d 8, zLi_1 (fun ho => hrn ho 0 (by decide)), fun _ => rfl, fun _ q hq => congrArg (d 8) (by have h77 : q < 1 := hq; show q = 1 * q + 1 - 1; omega), by rw [show (if red = true then zRed 0 else 0) = 0 by cases red <;> rfl, va_up_s hoo, va_up_s hns, va_up_id]⟩)
