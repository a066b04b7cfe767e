theorem zCt_red {x : Nat} (h : zOk x = true) : zCt (zRed x) = zLn x := by
  have h1 := zOk_d h
  unfold zRed
  by_cases h2 : zTb x = true
  · rw [if_pos h2]
    exact zCt_lo (by omega) (by omega)
  · rw [if_neg h2]
    unfold zTb at h2
    rw [decide_eq_true_iff] at h2
    unfold zLn
    rw [if_neg h2]
    rfl
theorem zCt_trn {x : Nat} (h : zOk x = true) : zCt (zTrn x) = zCt x := by
  have h1 := zOk_d h
  unfold zTrn
  by_cases h2 : zTb x = true
  · rw [if_pos h2, zCt_hi (by omega), show (zLg x * 32 + zLn x) / 32 = zLg x by omega, show (zLg x * 32 + zLn x) % 32 = zLn x by omega, Nat.mul_comm]
    rfl
  · rw [if_neg h2]
theorem zTq_lt {x q : Nat} (h : zOk x = true) (hq : q < zCt x) : zTq x q < zCt x := by
  have h1 := zOk_d h
  unfold zTq
  split
  · exact zIx (Nat.mod_lt _ (by omega)) (Nat.div_lt_of_lt_mul hq)
  · exact hq
theorem zDm (q g : Nat) : q / g * g + q % g = q := by rw [Nat.mul_comm]; exact Nat.div_add_mod q g
/-- one element of what an operation gives -/
def zXo (x c sl sr : Nat) (vn fl fr own : Nat → UInt64) (q : Nat) : UInt64 :=
  if x = 1 then vn q else if x = 3 then FP.i2d (nI q) else if x = 4 then FP.dneg (fr q) else if x = 5 then fr (zTq sr q)
  else if x = 6 then zAcc c (fun z => fr (q * zLg sr + z)) (zLg sr - 1)
  else if x = 7 then zAcc c (fun z => fr (q / zLg sr * zLg sr + z)) (q % zLg sr)
  else if x = 8 then zOp c (fl (if sl = 0 then 0 else q)) (fr (if sr = 0 then 0 else q))
  else if x = 9 then (if q < zCt sl then fl q else fr (q - zCt sl))
  else if x = 10 then fr (q % zCt sr) else own q
/-- its results are in range -/
def zRo (x c sl sr so : Nat) (fl fr : Nat → UInt64) : Prop :=
  ((x = 6 ∨ x = 7) → ∀ a, a < zLn sr → ∀ b, b < zLg sr → zRg (zAcc c (fun z => fr (a * zLg sr + z)) b) = true) ∧
  (x = 8 → ∀ q, q < zCt so → zRg (zOp c (fl (if sl = 0 then 0 else q)) (fr (if sr = 0 then 0 else q))) = true)
theorem zEach_0 {x y z : Nat} (h : zEach x y = (0, z)) : (x ≠ 0 → x = z) ∧ (y ≠ 0 → y = z) := by
  unfold zEach at h
  split at h
  · cases h
  · rename_i q
    have h := congrArg Prod.snd h
    simp only at h
    split at h <;> omega
theorem zJoi_0 {x y z : Nat} (h : zJoi x y = (0, z)) : zCt z = zCt x + zCt y := by
  unfold zJoi at h
  split at h
  · cases h
  · split at h
    · rename_i q
      obtain ⟨h1, h2, h3, h4, h5⟩ := zFit_iff.mp q
      have h := congrArg Prod.snd h
      simp only at h
      rw [← h]
      exact zCt_lo (by omega) (by omega)
    · cases h
/-- what is made of numbers in range, is in range -/
theorem zXo_rg {x c sl sr so num : Nat} {sv : Nat → Nat} {vn fl fr own : Nat → UInt64} {cl : Bool} {v0 v1 : Nat} (hx0 : x ≠ 0) (hx : x ≤ 10) (hsl : 8 ≤ x → zOk sl = true) (hsr : 4 ≤ x → zOk sr = true)
    (hsf : zSf x num sv sl sr so cl v0 v1 = (0, so)) (hv : x = 1 → ∀ q, q < zCt (sv num) → zRg (vn q) = true) (hl : 8 ≤ x → ∀ q, q < zCt sl → zRg (fl q) = true) (hr : 4 ≤ x → ∀ q, q < zCt sr → zRg (fr q) = true) (ho : x = 2 → ∀ q, q < zCt so → zRg (own q) = true)
    (hR : zRo x c sl sr so fl fr) : ∀ q, q < zCt so → zRg (zXo x c sl sr vn fl fr own q) = true := by
  intro q hq
  rcases (show x = 1 ∨ x = 2 ∨ x = 3 ∨ x = 4 ∨ x = 5 ∨ x = 6 ∨ x = 7 ∨ x = 8 ∨ x = 9 ∨ x = 10 by omega) with rfl | rfl | rfl | rfl | rfl | rfl | rfl | rfl | rfl | rfl
  · have h1 : sv num = so := congrArg Prod.snd hsf
    exact hv rfl q (by rw [h1]; exact hq)
  · exact ho rfl q hq
  · exact zRg_i2d _
  · have h1 : sr = so := congrArg Prod.snd hsf
    exact zRg_neg (hr (by decide) q (by rw [h1]; exact hq))
  · have h1 : zTrn sr = so := congrArg Prod.snd hsf
    have h2 := hsr (by decide)
    exact hr (by decide) _ (zTq_lt h2 (by rw [← zCt_trn h2, h1]; exact hq))
  · have h1 : zRed sr = so := congrArg Prod.snd hsf
    have h2 := hsr (by decide)
    have h3 := zOk_d h2
    exact hR.1 (Or.inl rfl) q (by rw [← zCt_red h2, h1]; exact hq) _ (by omega)
  · have h1 : sr = so := congrArg Prod.snd hsf
    have h2 := hsr (by decide)
    have h3 := zOk_d h2
    rw [← h1] at hq
    exact hR.1 (Or.inr rfl) (q / zLg sr) (Nat.div_lt_of_lt_mul (by rw [Nat.mul_comm]; exact hq)) _ (Nat.mod_lt _ (by omega))
  · exact hR.2 rfl q hq
  · have h1 := zJoi_0 hsf
    show zRg (if q < zCt sl then fl q else fr (q - zCt sl)) = true
    by_cases h2 : q < zCt sl
    · rw [if_pos h2]; exact hl (by decide) q h2
    · rw [if_neg h2]; exact hr (by decide) _ (by omega)
  · exact hr (by decide) _ (Nat.mod_lt _ (zOk_num (hsr (by decide))).2.1)
theorem hd_X7_workOut : yX7_workOut.cls ≠ "java/lang/invoke/MethodHandle" ∧ yX7_workOut.cls ≠ "java/lang/invoke/VarHandle" ∧ (parseMethodDescriptor yX7_workOut.desc).map (fun d => d.parameters.length) = some 2 := by decide +kernel
set_option maxHeartbeats 4000000 in
set_option maxRecDepth 100000 in
theorem c_X7_workOut {l : Launch} (hl9 : l.stackTraces = false) {D : va_G} {ct : Nat → ClassId} {ad : Nat → Nat} (sc sg sh : Nat → Int32) (el : Nat → Nat → UInt64) (nf : Nat → Nat → Int32) (lr : Nat → Nat → Option Nat) (k : Nat) (hk : k < 41) (x : Nat) (hx9 : x ≤ 10) (hkd : nf 0 k = nI x) (ch : Nat) (hsgn : nf 1 k = nI ch) (hsg9 : (x = 6 ∨ x = 7 ∨ x = 8) → zSg ch) (num : Nat) (hnum : nf 2 k = nI num) (hv : x = 1 → num < 8) (lf rt : Nat) (hL9 : 8 ≤ x → lr 0 k = some lf ∧ k < lf ∧ lf < 41) (hR9 : 4 ≤ x → lr 1 k = some rt ∧ k < rt ∧ rt < 41) (s9 : Nat → Nat) (hs : ∀ j, j < 49 → sh j = nI (s9 j)) (ho : ∀ j, j < 49 → zOk (s9 j) = true) (cl : Bool) (v0 v1 : Nat) (hsf : zSf x num s9 (s9 (8 + lf)) (s9 (8 + rt)) (s9 (8 + k)) cl v0 v1 = (0, s9 (8 + k))) (hrl : 8 ≤ x → ∀ q, q < zCt (s9 (8 + lf)) → zRg (el (8 + lf) q) = true) (hrr : 4 ≤ x → ∀ q, q < zCt (s9 (8 + rt)) → zRg (el (8 + rt) q) = true) : ar_M l yX7_workOut cX7_workOut 2 none 8 144 D ct (xL ad ct) [.ref (ad (104 + k)), .ref (ad 1)] (sc, sg, sh, el, nf, lr) (fun v9 u9 => zRo x ch (s9 (8 + lf)) (s9 (8 + rt)) (s9 (8 + k)) (el (8 + lf)) (el (8 + rt)) ∧ ∃ f : Nat → UInt64, v9 = none ∧ (∀ q, q < zCt (s9 (8 + k)) → f q = zXo x ch (s9 (8 + lf)) (s9 (8 + rt)) (el num) (el (8 + lf)) (el (8 + rt)) (el (8 + k)) q) ∧ u9 = (sc, sg, sh, va_up el (8 + k) f, nf, lr)) (fun E9 u9 => E9 = ARE ∧ ¬ (zRo x ch (s9 (8 + lf)) (s9 (8 + rt)) (s9 (8 + k)) (el (8 + lf)) (el (8 + rt))) ∧ ∃ f : Nat → UInt64, u9 = (sc, sg, sh, va_up el (8 + k) f, nf, lr)) := by
  refine ar_ofW hl9 (by decide) (Nat.le_of_ble_eq_true rfl) ?_
  intro p e s m below meth c A ls C hr hnm hW hl
  have hx := C.1
  have hb := C.2.1
  have hown := C.2.2.2.1
  have hts := C.2.2.2.2.1
  have hl : lv_has ls 2 [(0, .ref (ad (104 + k))), (1, .ref (ad 1))] := hl
  refine lv_aload_n hx hb dX7_workOut_0 rfl (lv_at hl 0 rfl) ?_
  refine xg_kind (k := k) C hW q86 (by first | omega | (have := (hR9 (by decide)).2; omega) | (have := (hL9 (by decide)).2; omega)) dX7_workOut_1 ?_
  refine ln_top (hkd) ?_
  rcases (show x = 0 ∨ x = 1 ∨ x = 2 ∨ x = 3 ∨ x = 4 ∨ x = 5 ∨ x = 6 ∨ x = 7 ∨ x = 8 ∨ x = 9 ∨ x = 10 by omega) with rfl | rfl | rfl | rfl | rfl | rfl | rfl | rfl | rfl | rfl | rfl
  · skip
    refine lv_tableOut (tgt := 231) hx hb dX7_workOut_4 (by decide) (by decide) ?_
    exact ar_vret C hr hW dX7_workOut_231 (⟨⟨fun h => absurd h (by decide), fun h => absurd h (by decide)⟩, el (8 + k), rfl, fun q hq => rfl, by rw [va_up_id]⟩)
  · skip
    refine lv_tableIn (off := 56) (tgt := 60) hx hb dX7_workOut_4 (by decide) (by decide) (by decide) (by decide) ?_
    refine lv_aload_n hx hb dX7_workOut_60 rfl (lv_at hl 0 rfl) ?_
    refine xg_result (k := k) C hW q105 (by first | omega | (have := (hR9 (by decide)).2; omega) | (have := (hL9 (by decide)).2; omega)) dX7_workOut_61 ?_
    refine lv_aload_n hx hb dX7_workOut_64 rfl (lv_at hl 1 rfl) ?_
    refine lv_aload_n hx hb dX7_workOut_65 rfl (lv_at hl 0 rfl) ?_
    refine xg_number (k := k) C hW q93 (by first | omega | (have := (hR9 (by decide)).2; omega) | (have := (hL9 (by decide)).2; omega)) dX7_workOut_66 ?_
    refine ln_top (hnum) ?_
    refine xl_variables (j := num) C hW (hv rfl) dX7_workOut_69 ?_
    refine ar_callV (As := [.ref (ad (6 + num))]) (rest := []) C hW (c_X1_becomeCopy hl9 sc sg sh el nf lr (8 + k) num (by omega) (by have := hv rfl; omega) (by have := hv rfl; omega)) (xl_at (by omega) (xc_na (j := 8 + k) (by omega))) rfl q520 q521 q522 q2 q523 hd_X1_becomeCopy ⟨Nat.le_of_ble_eq_true rfl, Nat.le_of_ble_eq_true rfl⟩ hl.1 (Nat.le_of_ble_eq_true rfl) rfl dX7_workOut_70 (fun _ _ _ _ _ _ hp => hp.elim) (fun v9 u9 H locs hp hW => ?_)
    obtain ⟨rfl, hu9⟩ := hp
    rw [hu9] at hW
    refine W.eq (g2 := F0 m 73 ls []) rfl ?_
    refine lv_goto (tgt := 231) hx hb dX7_workOut_73 (by decide) ?_
    exact ar_vret C hr hW dX7_workOut_231 (⟨⟨fun h => absurd h (by decide), fun h => absurd h (by decide)⟩, zCp (el (8 + k)) (el num), rfl, fun q hq => by unfold zCp; rw [if_pos (by have := (zOk_num (ho (8 + k) (by omega))).2.2.1; omega)]; rfl, by rw [va_up_eq (f := sh) (k := 8 + k) (by rw [hs _ (by omega), hs (8 + k) (by omega)]; exact congrArg nI (congrArg Prod.snd hsf))]⟩)
  · skip
    refine lv_tableIn (off := 227) (tgt := 231) hx hb dX7_workOut_4 (by decide) (by decide) (by decide) (by decide) ?_
    exact ar_vret C hr hW dX7_workOut_231 (⟨⟨fun h => absurd h (by decide), fun h => absurd h (by decide)⟩, el (8 + k), rfl, fun q hq => rfl, by rw [va_up_id]⟩)
  · skip
    refine lv_tableIn (off := 72) (tgt := 76) hx hb dX7_workOut_4 (by decide) (by decide) (by decide) (by decide) ?_
    refine lv_aload_n hx hb dX7_workOut_76 rfl (lv_at hl 0 rfl) ?_
    refine xg_result (k := k) C hW q105 (by first | omega | (have := (hR9 (by decide)).2; omega) | (have := (hL9 (by decide)).2; omega)) dX7_workOut_77 ?_
    refine ar_callS (As := [.ref (ad (6 + (8 + k)))]) (rest := []) C hW (c_X7_countUp hl9 sc sg sh el nf lr (8 + k) (by omega) (s9 (8 + k)) (ho _ (by omega)) (hs _ (by omega))) q524 q525 q20 q526 hd_X7_countUp ⟨Nat.le_of_ble_eq_true rfl, Nat.le_of_ble_eq_true rfl⟩ hl.1 (Nat.le_of_ble_eq_true rfl) rfl dX7_workOut_80 (fun _ _ _ _ _ _ hp => hp.elim) (fun v9 u9 H locs hp hW => ?_)
    obtain ⟨f, rfl, hf, hu9⟩ := hp
    rw [hu9] at hW
    refine W.eq (g2 := F0 m 83 ls []) rfl ?_
    refine lv_goto (tgt := 231) hx hb dX7_workOut_83 (by decide) ?_
    exact ar_vret C hr hW dX7_workOut_231 (⟨⟨fun h => absurd h (by decide), fun h => absurd h (by decide)⟩, f, rfl, hf, rfl⟩)
  · skip
    refine lv_tableIn (off := 82) (tgt := 86) hx hb dX7_workOut_4 (by decide) (by decide) (by decide) (by decide) ?_
    refine lv_aload_n hx hb dX7_workOut_86 rfl (lv_at hl 0 rfl) ?_
    refine xg_right (k := k) C hW q102 (by first | omega | (have := (hR9 (by decide)).2; omega) | (have := (hL9 (by decide)).2; omega)) dX7_workOut_87 ?_
    refine ln_opt ((hR9 (by decide)).1) ?_
    refine xg_result (k := rt) C hW q105 (by first | omega | (have := (hR9 (by decide)).2; omega) | (have := (hL9 (by decide)).2; omega)) dX7_workOut_90 ?_
    refine lv_aload_n hx hb dX7_workOut_93 rfl (lv_at hl 0 rfl) ?_
    refine xg_result (k := k) C hW q105 (by first | omega | (have := (hR9 (by decide)).2; omega) | (have := (hL9 (by decide)).2; omega)) dX7_workOut_94 ?_
    refine ar_callS (As := [.ref (ad (6 + (8 + rt))), .ref (ad (6 + (8 + k)))]) (rest := []) C hW (c_X7_negate hl9 sc sg sh el nf lr (8 + rt) (8 + k) (by have := (hR9 (by decide)).2; omega) (by have := (hR9 (by decide)).2.1; omega) (by omega) (s9 (8 + k)) (ho _ (by omega)) (hs _ (by omega))) q528 q529 q20 q530 hd_X7_negate ⟨Nat.le_of_ble_eq_true rfl, Nat.le_of_ble_eq_true rfl⟩ hl.1 (Nat.le_of_ble_eq_true rfl) rfl dX7_workOut_97 (fun _ _ _ _ _ _ hp => hp.elim) (fun v9 u9 H locs hp hW => ?_)
    obtain ⟨f, rfl, hf, hu9⟩ := hp
    rw [hu9] at hW
    refine W.eq (g2 := F0 m 100 ls []) rfl ?_
    refine lv_goto (tgt := 231) hx hb dX7_workOut_100 (by decide) ?_
    exact ar_vret C hr hW dX7_workOut_231 (⟨⟨fun h => absurd h (by decide), fun h => absurd h (by decide)⟩, f, rfl, hf, rfl⟩)
  · skip
    refine lv_tableIn (off := 99) (tgt := 103) hx hb dX7_workOut_4 (by decide) (by decide) (by decide) (by decide) ?_
    refine lv_aload_n hx hb dX7_workOut_103 rfl (lv_at hl 0 rfl) ?_
    refine xg_right (k := k) C hW q102 (by first | omega | (have := (hR9 (by decide)).2; omega) | (have := (hL9 (by decide)).2; omega)) dX7_workOut_104 ?_
    refine ln_opt ((hR9 (by decide)).1) ?_
    refine xg_result (k := rt) C hW q105 (by first | omega | (have := (hR9 (by decide)).2; omega) | (have := (hL9 (by decide)).2; omega)) dX7_workOut_107 ?_
    refine lv_aload_n hx hb dX7_workOut_110 rfl (lv_at hl 0 rfl) ?_
    refine xg_result (k := k) C hW q105 (by first | omega | (have := (hR9 (by decide)).2; omega) | (have := (hL9 (by decide)).2; omega)) dX7_workOut_111 ?_
    refine ar_callS (As := [.ref (ad (6 + (8 + rt))), .ref (ad (6 + (8 + k)))]) (rest := []) C hW (c_X7_turn hl9 sc sg sh el nf lr (8 + rt) (8 + k) (by have := (hR9 (by decide)).2; omega) (by omega) (by have := (hR9 (by decide)).2.1; omega) (s9 (8 + rt)) (ho _ (by have := (hR9 (by decide)).2; omega)) (hs _ (by have := (hR9 (by decide)).2; omega)) (by rw [show zTrn (s9 (8 + rt)) = s9 (8 + k) from congrArg Prod.snd hsf]; exact hs _ (by omega))) q531 q532 q20 q533 hd_X7_turn ⟨Nat.le_of_ble_eq_true rfl, Nat.le_of_ble_eq_true rfl⟩ hl.1 (Nat.le_of_ble_eq_true rfl) rfl dX7_workOut_114 (fun _ _ _ _ _ _ hp => hp.elim) (fun v9 u9 H locs hp hW => ?_)
    obtain ⟨f, rfl, hf, hu9⟩ := hp
    rw [hu9] at hW
    refine W.eq (g2 := F0 m 117 ls []) rfl ?_
    refine lv_goto (tgt := 231) hx hb dX7_workOut_117 (by decide) ?_
    exact ar_vret C hr hW dX7_workOut_231 (⟨⟨fun h => absurd h (by decide), fun h => absurd h (by decide)⟩, f, rfl, fun q hq => hf q (by rw [← zCt_trn (ho _ (by have := (hR9 (by decide)).2; omega)), show zTrn (s9 (8 + rt)) = s9 (8 + k) from congrArg Prod.snd hsf]; exact hq), rfl⟩)
  · skip
    refine lv_tableIn (off := 116) (tgt := 120) hx hb dX7_workOut_4 (by decide) (by decide) (by decide) (by decide) ?_
    refine lv_aload_n hx hb dX7_workOut_120 rfl (lv_at hl 0 rfl) ?_
    refine xg_sign (k := k) C hW q89 (by first | omega | (have := (hR9 (by decide)).2; omega) | (have := (hL9 (by decide)).2; omega)) dX7_workOut_121 ?_
    refine ln_top (hsgn) ?_
    refine lv_aload_n hx hb dX7_workOut_124 rfl (lv_at hl 0 rfl) ?_
    refine xg_right (k := k) C hW q102 (by first | omega | (have := (hR9 (by decide)).2; omega) | (have := (hL9 (by decide)).2; omega)) dX7_workOut_125 ?_
    refine ln_opt ((hR9 (by decide)).1) ?_
    refine xg_result (k := rt) C hW q105 (by first | omega | (have := (hR9 (by decide)).2; omega) | (have := (hL9 (by decide)).2; omega)) dX7_workOut_128 ?_
    refine lv_aload_n hx hb dX7_workOut_131 rfl (lv_at hl 0 rfl) ?_
    refine xg_result (k := k) C hW q105 (by first | omega | (have := (hR9 (by decide)).2; omega) | (have := (hL9 (by decide)).2; omega)) dX7_workOut_132 ?_
    refine ar_callS (As := [.int (nI ch), .ref (ad (6 + (8 + rt))), .ref (ad (6 + (8 + k)))]) (rest := []) C hW (c_X7_reduce hl9 sc sg sh el nf lr ch (8 + rt) (8 + k) (hsg9 (by decide)) (by have := (hR9 (by decide)).2; omega) (by omega) (by have := (hR9 (by decide)).2.1; omega) (s9 (8 + rt)) (ho _ (by have := (hR9 (by decide)).2; omega)) (hs _ (by have := (hR9 (by decide)).2; omega)) (hrr (by decide))) q537 q538 q20 q539 hd_X7_reduce ⟨Nat.le_of_ble_eq_true rfl, Nat.le_of_ble_eq_true rfl⟩ hl.1 (Nat.le_of_ble_eq_true rfl) rfl dX7_workOut_135 (fun E9 ce9 q9 u9 H locs hp hW h91 h92 h93 => ar_out C hW h91 h92 h93 (⟨hp.1, fun q9 => hp.2.1 (q9.1 (by decide)), hp.2.2⟩)) (fun v9 u9 H locs hp hW => ?_)
    obtain ⟨hR, f, rfl, hf, hu9⟩ := hp
    rw [hu9] at hW
    refine W.eq (g2 := F0 m 138 ls []) rfl ?_
    refine lv_goto (tgt := 231) hx hb dX7_workOut_138 (by decide) ?_
    exact ar_vret C hr hW dX7_workOut_231 (⟨⟨fun _ => hR, fun h => absurd h (by decide)⟩, f, rfl, fun q hq => hf q (by rw [← zCt_red (ho _ (by have := (hR9 (by decide)).2; omega)), show zRed (s9 (8 + rt)) = s9 (8 + k) from congrArg Prod.snd hsf]; exact hq), rfl⟩)
  · skip
    refine lv_tableIn (off := 137) (tgt := 141) hx hb dX7_workOut_4 (by decide) (by decide) (by decide) (by decide) ?_
    refine lv_aload_n hx hb dX7_workOut_141 rfl (lv_at hl 0 rfl) ?_
    refine xg_sign (k := k) C hW q89 (by first | omega | (have := (hR9 (by decide)).2; omega) | (have := (hL9 (by decide)).2; omega)) dX7_workOut_142 ?_
    refine ln_top (hsgn) ?_
    refine lv_aload_n hx hb dX7_workOut_145 rfl (lv_at hl 0 rfl) ?_
    refine xg_right (k := k) C hW q102 (by first | omega | (have := (hR9 (by decide)).2; omega) | (have := (hL9 (by decide)).2; omega)) dX7_workOut_146 ?_
    refine ln_opt ((hR9 (by decide)).1) ?_
    refine xg_result (k := rt) C hW q105 (by first | omega | (have := (hR9 (by decide)).2; omega) | (have := (hL9 (by decide)).2; omega)) dX7_workOut_149 ?_
    refine lv_aload_n hx hb dX7_workOut_152 rfl (lv_at hl 0 rfl) ?_
    refine xg_result (k := k) C hW q105 (by first | omega | (have := (hR9 (by decide)).2; omega) | (have := (hL9 (by decide)).2; omega)) dX7_workOut_153 ?_
    refine ar_callS (As := [.int (nI ch), .ref (ad (6 + (8 + rt))), .ref (ad (6 + (8 + k)))]) (rest := []) C hW (c_X7_runAlong hl9 sc sg sh el nf lr ch (8 + rt) (8 + k) (hsg9 (by decide)) (by have := (hR9 (by decide)).2; omega) (by omega) (by have := (hR9 (by decide)).2.1; omega) (s9 (8 + rt)) (ho _ (by have := (hR9 (by decide)).2; omega)) (hs _ (by have := (hR9 (by decide)).2; omega)) (hrr (by decide))) q550 q551 q20 q552 hd_X7_runAlong ⟨Nat.le_of_ble_eq_true rfl, Nat.le_of_ble_eq_true rfl⟩ hl.1 (Nat.le_of_ble_eq_true rfl) rfl dX7_workOut_156 (fun E9 ce9 q9 u9 H locs hp hW h91 h92 h93 => ar_out C hW h91 h92 h93 (⟨hp.1, fun q9 => hp.2.1 (q9.1 (by decide)), hp.2.2⟩)) (fun v9 u9 H locs hp hW => ?_)
    obtain ⟨hR, f, rfl, hf, hu9⟩ := hp
    rw [hu9] at hW
    refine W.eq (g2 := F0 m 159 ls []) rfl ?_
    refine lv_goto (tgt := 231) hx hb dX7_workOut_159 (by decide) ?_
    exact ar_vret C hr hW dX7_workOut_231 (⟨⟨fun _ => hR, fun h => absurd h (by decide)⟩, f, rfl, fun q hq => by have h66 := hf (q / zLg (s9 (8 + rt))) (q % zLg (s9 (8 + rt))) (Nat.div_lt_of_lt_mul (by rw [Nat.mul_comm, show s9 (8 + rt) = s9 (8 + k) from congrArg Prod.snd hsf]; exact hq)) (Nat.mod_lt _ (by have := zOk_d (ho (8 + rt) (by have := (hR9 (by decide)).2; omega)); omega)); rw [zDm] at h66; exact h66, rfl⟩)
  · skip
    refine lv_tableIn (off := 158) (tgt := 162) hx hb dX7_workOut_4 (by decide) (by decide) (by decide) (by decide) ?_
    refine lv_aload_n hx hb dX7_workOut_162 rfl (lv_at hl 0 rfl) ?_
    refine xg_sign (k := k) C hW q89 (by first | omega | (have := (hR9 (by decide)).2; omega) | (have := (hL9 (by decide)).2; omega)) dX7_workOut_163 ?_
    refine ln_top (hsgn) ?_
    refine lv_aload_n hx hb dX7_workOut_166 rfl (lv_at hl 0 rfl) ?_
    refine xg_left (k := k) C hW q98 (by first | omega | (have := (hR9 (by decide)).2; omega) | (have := (hL9 (by decide)).2; omega)) dX7_workOut_167 ?_
    refine ln_opt ((hL9 (by decide)).1) ?_
    refine xg_result (k := lf) C hW q105 (by first | omega | (have := (hR9 (by decide)).2; omega) | (have := (hL9 (by decide)).2; omega)) dX7_workOut_170 ?_
    refine lv_aload_n hx hb dX7_workOut_173 rfl (lv_at hl 0 rfl) ?_
    refine xg_right (k := k) C hW q102 (by first | omega | (have := (hR9 (by decide)).2; omega) | (have := (hL9 (by decide)).2; omega)) dX7_workOut_174 ?_
    refine ln_opt ((hR9 (by decide)).1) ?_
    refine xg_result (k := rt) C hW q105 (by first | omega | (have := (hR9 (by decide)).2; omega) | (have := (hL9 (by decide)).2; omega)) dX7_workOut_177 ?_
    refine lv_aload_n hx hb dX7_workOut_180 rfl (lv_at hl 0 rfl) ?_
    refine xg_result (k := k) C hW q105 (by first | omega | (have := (hR9 (by decide)).2; omega) | (have := (hL9 (by decide)).2; omega)) dX7_workOut_181 ?_
    refine ar_callS (As := [.int (nI ch), .ref (ad (6 + (8 + lf))), .ref (ad (6 + (8 + rt))), .ref (ad (6 + (8 + k)))]) (rest := []) C hW (c_X7_combineEach hl9 sc sg sh el nf lr ch (8 + lf) (8 + rt) (8 + k) (hsg9 (by decide)) (by have := (hL9 (by decide)).2; omega) (by have := (hR9 (by decide)).2; omega) (by omega) (by have := (hL9 (by decide)).2.1; omega) (by have := (hR9 (by decide)).2.1; omega) (s9 (8 + lf)) (ho _ (by have := (hL9 (by decide)).2; omega)) (hs _ (by have := (hL9 (by decide)).2; omega)) (s9 (8 + k)) (ho _ (by omega)) (hs _ (by omega)) (s9 (8 + rt)) (ho _ (by have := (hR9 (by decide)).2; omega)) (hs _ (by have := (hR9 (by decide)).2; omega)) (zEach_0 hsf).1 (zEach_0 hsf).2 (hrl (by decide)) (hrr (by decide))) q553 q554 q20 q555 hd_X7_combineEach ⟨Nat.le_of_ble_eq_true rfl, Nat.le_of_ble_eq_true rfl⟩ hl.1 (Nat.le_of_ble_eq_true rfl) rfl dX7_workOut_184 (fun E9 ce9 q9 u9 H locs hp hW h91 h92 h93 => ar_out C hW h91 h92 h93 (⟨hp.1, fun q9 => hp.2.1 (q9.2 rfl), hp.2.2⟩)) (fun v9 u9 H locs hp hW => ?_)
    obtain ⟨hR, f, rfl, hf, hu9⟩ := hp
    rw [hu9] at hW
    refine W.eq (g2 := F0 m 187 ls []) rfl ?_
    refine lv_goto (tgt := 231) hx hb dX7_workOut_187 (by decide) ?_
    exact ar_vret C hr hW dX7_workOut_231 (⟨⟨fun h => absurd h (by decide), fun _ => hR⟩, f, rfl, hf, rfl⟩)
  · skip
    refine lv_tableIn (off := 186) (tgt := 190) hx hb dX7_workOut_4 (by decide) (by decide) (by decide) (by decide) ?_
    refine lv_aload_n hx hb dX7_workOut_190 rfl (lv_at hl 0 rfl) ?_
    refine xg_left (k := k) C hW q98 (by first | omega | (have := (hR9 (by decide)).2; omega) | (have := (hL9 (by decide)).2; omega)) dX7_workOut_191 ?_
    refine ln_opt ((hL9 (by decide)).1) ?_
    refine xg_result (k := lf) C hW q105 (by first | omega | (have := (hR9 (by decide)).2; omega) | (have := (hL9 (by decide)).2; omega)) dX7_workOut_194 ?_
    refine lv_aload_n hx hb dX7_workOut_197 rfl (lv_at hl 0 rfl) ?_
    refine xg_right (k := k) C hW q102 (by first | omega | (have := (hR9 (by decide)).2; omega) | (have := (hL9 (by decide)).2; omega)) dX7_workOut_198 ?_
    refine ln_opt ((hR9 (by decide)).1) ?_
    refine xg_result (k := rt) C hW q105 (by first | omega | (have := (hR9 (by decide)).2; omega) | (have := (hL9 (by decide)).2; omega)) dX7_workOut_201 ?_
    refine lv_aload_n hx hb dX7_workOut_204 rfl (lv_at hl 0 rfl) ?_
    refine xg_result (k := k) C hW q105 (by first | omega | (have := (hR9 (by decide)).2; omega) | (have := (hL9 (by decide)).2; omega)) dX7_workOut_205 ?_
    refine ar_callS (As := [.ref (ad (6 + (8 + lf))), .ref (ad (6 + (8 + rt))), .ref (ad (6 + (8 + k)))]) (rest := []) C hW (c_X7_join hl9 sc sg sh el nf lr (8 + lf) (8 + rt) (8 + k) (by have := (hL9 (by decide)).2; omega) (by have := (hR9 (by decide)).2; omega) (by omega) (by have := (hL9 (by decide)).2.1; omega) (by have := (hR9 (by decide)).2.1; omega) (s9 (8 + lf)) (ho _ (by have := (hL9 (by decide)).2; omega)) (hs _ (by have := (hL9 (by decide)).2; omega)) (s9 (8 + k)) (ho _ (by omega)) (hs _ (by omega)) (s9 (8 + rt)) (ho _ (by have := (hR9 (by decide)).2; omega)) (zJoi_0 hsf)) q559 q560 q20 q561 hd_X7_join ⟨Nat.le_of_ble_eq_true rfl, Nat.le_of_ble_eq_true rfl⟩ hl.1 (Nat.le_of_ble_eq_true rfl) rfl dX7_workOut_208 (fun _ _ _ _ _ _ hp => hp.elim) (fun v9 u9 H locs hp hW => ?_)
    obtain ⟨f, rfl, hf, hu9⟩ := hp
    rw [hu9] at hW
    refine W.eq (g2 := F0 m 211 ls []) rfl ?_
    refine lv_goto (tgt := 231) hx hb dX7_workOut_211 (by decide) ?_
    exact ar_vret C hr hW dX7_workOut_231 (⟨⟨fun h => absurd h (by decide), fun h => absurd h (by decide)⟩, f, rfl, hf, rfl⟩)
  · skip
    refine lv_tableIn (off := 210) (tgt := 214) hx hb dX7_workOut_4 (by decide) (by decide) (by decide) (by decide) ?_
    refine lv_aload_n hx hb dX7_workOut_214 rfl (lv_at hl 0 rfl) ?_
    refine xg_right (k := k) C hW q102 (by first | omega | (have := (hR9 (by decide)).2; omega) | (have := (hL9 (by decide)).2; omega)) dX7_workOut_215 ?_
    refine ln_opt ((hR9 (by decide)).1) ?_
    refine xg_result (k := rt) C hW q105 (by first | omega | (have := (hR9 (by decide)).2; omega) | (have := (hL9 (by decide)).2; omega)) dX7_workOut_218 ?_
    refine lv_aload_n hx hb dX7_workOut_221 rfl (lv_at hl 0 rfl) ?_
    refine xg_result (k := k) C hW q105 (by first | omega | (have := (hR9 (by decide)).2; omega) | (have := (hL9 (by decide)).2; omega)) dX7_workOut_222 ?_
    refine ar_callS (As := [.ref (ad (6 + (8 + rt))), .ref (ad (6 + (8 + k)))]) (rest := []) C hW (c_X7_fillAnew hl9 sc sg sh el nf lr (8 + rt) (8 + k) (by have := (hR9 (by decide)).2; omega) (by omega) (by have := (hR9 (by decide)).2.1; omega) (s9 (8 + rt)) (ho _ (by have := (hR9 (by decide)).2; omega)) (hs _ (by have := (hR9 (by decide)).2; omega)) (s9 (8 + k)) (ho _ (by omega)) (hs _ (by omega))) q562 q563 q20 q564 hd_X7_fillAnew ⟨Nat.le_of_ble_eq_true rfl, Nat.le_of_ble_eq_true rfl⟩ hl.1 (Nat.le_of_ble_eq_true rfl) rfl dX7_workOut_225 (fun _ _ _ _ _ _ hp => hp.elim) (fun v9 u9 H locs hp hW => ?_)
    obtain ⟨f, rfl, hf, hu9⟩ := hp
    rw [hu9] at hW
    refine W.eq (g2 := F0 m 228 ls []) rfl ?_
    refine lv_goto (tgt := 231) hx hb dX7_workOut_228 (by decide) ?_
    exact ar_vret C hr hW dX7_workOut_231 (⟨⟨fun h => absurd h (by decide), fun h => absurd h (by decide)⟩, f, rfl, hf, rfl⟩)
