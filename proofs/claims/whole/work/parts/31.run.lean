set_option maxRecDepth 20000 in
theorem ar_X_X8_71 : ar_X "ArrayText" 69 71 73 "java/lang/IndexOutOfBoundsException" "no such variable" := ⟨by decide +kernel, by decide +kernel, by decide +kernel, by decide +kernel, by decide +kernel, by decide +kernel, by decide +kernel, by decide +kernel⟩
def zTree (c : Nat → Nat) (n : Nat) : Option zTr := match zE c 41 0 with
  | none => none
  | some r => if r.1 = n then some r.2 else none
theorem zTree_s {c : Nat → Nat} {n : Nat} {t : zTr} (h : zE c 41 0 = some (n, t)) : zTree c n = some t := by
  unfold zTree
  rw [h]
  exact if_pos rfl
theorem zTree_n {c : Nat → Nat} {n : Nat} (h : match zE c 41 0 with | none => True | some r => r.1 ≠ n) : zTree c n = none := by
  unfold zTree
  rcases he : zE c 41 0 with _ | r
  · rfl
  · rw [he] at h
    exact if_neg h
theorem zTree_wf {c : Nat → Nat} {n : Nat} {t : zTr} (h : zTree c n = some t) : zWf t := by
  unfold zTree at h
  rcases he : zE c 41 0 with _ | ⟨q, t2⟩
  · rw [he] at h; cases h
  · rw [he] at h
    by_cases h1 : q = n
    · simp only [if_pos h1] at h
      cases h
      exact zE_wf _ _ _ _ he
    · simp only [if_neg h1] at h
      cases h
theorem zRp_c1 {kd sgn num l9 r9 : Nat → Nat} {s : Nat → Nat} {w : Nat → Nat → Nat} : ∀ (t : zTr) (b r : Nat), zWf t → zRp kd sgn num l9 r9 s w t b r → ∀ k, b ≤ k → k < b + zNN t → kd k = 2 → s (8 + k) = 0 ∨ (2 ≤ s (8 + k) ∧ s (8 + k) ≤ 24) := by
  intro t
  induction t with
  | leaf a =>
    intro b r hw h k k1 k2 k3
    rw [zRp] at h
    rw [zNN] at k2
    have hk : k = b := by omega
    subst hk
    obtain ⟨-, h1, h2⟩ := h
    rcases h2 with h2 | h2 | h2
    · omega
    · omega
    · rw [h2.2.2.2.1]
      split <;> omega
  | branch n l t ihl iht =>
    intro b r hw h k k1 k2 k3
    rw [zRp] at h
    rw [zNN] at k2
    rw [zWf] at hw
    obtain ⟨w1, -, -, -, w5, w6⟩ := hw
    by_cases h1 : n / 200 = 1
    · rw [if_pos h1] at h k2
      exact iht b r w5 h k k1 k2 k3
    · rw [if_neg h1] at h k2
      obtain ⟨g1, h⟩ := h
      have hk : k ≠ b := fun q => by subst q; omega
      by_cases h2 : n / 200 = 0
      · rw [if_pos h2] at h
        rw [if_pos (by omega)] at k2
        exact iht _ r w5 h k (by omega) (by omega) k3
      · rw [if_neg h2] at h
        obtain ⟨rfl, e2, e3, e4⟩ := h
        by_cases h8 : n / 200 < 8
        · rw [if_pos h8] at k2
          rw [if_pos h8, Nat.add_zero] at e3
          exact iht _ _ w5 e3 k (by omega) (by omega) k3
        · rw [if_neg h8] at k2 e3
          by_cases hk2 : k < r + 1 + zNN l
          · exact ihl _ _ (w6 (by omega)) (e4 (by omega)) k (by omega) hk2 k3
          · exact iht _ _ w5 e3 k (by omega) (by omega) k3
theorem zCkT {T : zXS} {t : zTr} {r : Nat} (hG : zGd 0 (zNN t) T) (hso : zSo T.1) (hw : zWf t) (hR : zRq T t 0 r) (hb : zNN t ≤ 41) : ∀ k, k < zNN t → zCok T.2.1 (zKd T.2.2.1) (zWv T.2.1) (zSN T.1) k := by
  intro k hk h2
  have hc := (hG k (Nat.zero_le _) hk).2 h2
  have h1 := zRp_c1 t 0 r hw hR k (Nat.zero_le _) (by omega) h2
  have ho := zOk_num (hso (8 + k) (by omega)).2
  refine ⟨Nat.mod_lt _ (by decide), Nat.mod_lt _ (by decide), hc 0 (by omega), fun h3 => hc 1 ?_⟩
  rw [zCt_lo h3 (by omega)]
  omega
abbrev zShx (T : zXS) (b : Nat) : Nat × (Nat → Nat) := zShs (zKd T.2.2.1) (zNu T.2.2.1) (zLl T.2.2.2) (zRl T.2.2.2) (zWv T.2.1) b (zSN T.1)
theorem zPass {T : zXS} {t : zTr} {r : Nat} {sv : Nat → Nat} (hw : zWf t) (hR : zRq T t 0 r) (hsv : ∀ j, j < 8 → zSN T.1 j = sv j) : (zShx T (zNN t)).1 = (zTs sv t).1 ∧ ((zShx T (zNN t)).1 = 0 → (zShx T (zNN t)).2 (8 + r) = (zTs sv t).2) := by
  have h := zShT (sv := sv) t 0 r (zSN T.1) hw hR hsv (fun _ _ _ _ => rfl)
  rw [Nat.zero_add] at h
  rcases h with ⟨h1, h2⟩ | ⟨h1, s2, h2, h3, -⟩
  · exact ⟨h2, fun q => absurd (h2.symm.trans q) h1⟩
  · refine ⟨?_, fun _ => ?_⟩
    · show (zShs _ _ _ _ _ _ _).1 = _
      rw [h2, h1]
      rfl
    · show (zShs _ _ _ _ _ _ _).2 _ = _
      rw [h2]
      exact h3
theorem zSN_eq {sh f : Nat → Int32} {j : Nat} (h : f j = sh j) : zSN f j = zSN sh j := by unfold zSN; rw [h]
/-- the shapes as the finder left them -/
theorem zSo_of {f : Nat → Int32} {z : Nat → Nat} (h : ∀ j, j < 49 → f j = nI (z j)) (ho : ∀ j, j < 49 → zOk (z j) = true) : zSo f ∧ ∀ j, j < 49 → zSN f j = z j := by
  have e : ∀ j, j < 49 → zSN f j = z j := fun j hj => by
    unfold zSN
    rw [h j hj, nI_clamp (by have := (zOk_num (ho j hj)).1; omega)]
  exact ⟨fun j hj => by rw [e j hj]; exact ⟨h j hj, ho j hj⟩, e⟩
theorem hd_X8_look : yX8_look.cls ≠ "java/lang/invoke/MethodHandle" ∧ yX8_look.cls ≠ "java/lang/invoke/VarHandle" ∧ (parseMethodDescriptor yX8_look.desc).map (fun d => d.parameters.length) = some 0 := by decide +kernel
set_option maxHeartbeats 4000000 in
set_option maxRecDepth 100000 in
theorem c_X8_look {l : Launch} (hl9 : l.stackTraces = false) {D : va_G} {ct : Nat → ClassId} {ad : Nat → Nat} (sc sg sh : Nat → Int32) (el : Nat → Nat → UInt64) (nf : Nat → Nat → Int32) (lr : Nat → Nat → Option Nat) (n : Nat) (tx : Nat → Nat) (hn : n ≤ 40) (hlen : sc 2 = nI n) (htx : ∀ j, j < n → sg j = nI (tx j)) (hcx : ∀ j, j < n → 1 ≤ tx j ∧ tx j ≤ 127) (hso : zSo sh) : ar_M l yX8_look cX8_look 2 (some .int) 104 5146 D ct (xL ad ct) [.ref (ad 0)] (sc, sg, sh, el, nf, lr) (fun v9 u9 => (∃ t : zTr, zTree (zCh tx n) n = some t ∧ (zTs (zSN sh) t).1 = 0 ∧ v9 = some (.int (nI (zTs (zSN sh) t).2))) ∧ ∃ (sc2 : Nat → Int32) (T : zXS), (∀ i, i < 3 → sc2 i = sc i) ∧ zFv (sh, el, nf, lr) T ∧ zSo T.1 ∧ u9 = (sc2, sg, T.1, T.2.1, T.2.2.1, T.2.2.2)) (fun E9 u9 => ((E9 = IAE ∧ zTree (zCh tx n) n = none) ∨ ∃ t : zTr, zTree (zCh tx n) n = some t ∧ (zTs (zSN sh) t).1 ≠ 0 ∧ E9 = zEc (zTs (zSN sh) t).1) ∧ ∃ (sc2 : Nat → Int32) (T : zXS), (∀ i, i < 3 → sc2 i = sc i) ∧ zFv (sh, el, nf, lr) T ∧ zSo T.1 ∧ u9 = (sc2, sg, T.1, T.2.1, T.2.2.1, T.2.2.2)) := by
  refine ar_ofW hl9 (by decide) (Nat.le_of_ble_eq_true rfl) ?_
  intro p e s m below meth c A ls C hr hnm hW hl
  have hx := C.1
  have hb := C.2.1
  have hown := C.2.2.2.1
  have hts := C.2.2.2.2.1
  have hl : lv_has ls 2 [(0, .ref (ad 0))] := hl
  refine lv_aload_n hx hb dX8_look_0 rfl (lv_at hl 0 rfl) ?_
  refine xg_text C hW q133 dX8_look_1 ?_
  refine lv_aload_n hx hb dX8_look_4 rfl (lv_at hl 0 rfl) ?_
  refine xg_tree C hW q134 dX8_look_5 ?_
  refine ar_callS (As := [.ref (ad 2), .ref (ad 4)]) (rest := []) C hW (c_X2_readWhole hl9 sc sg sh el nf lr n tx hn hlen htx hcx hso) q357 q358 q15 q359 hd_X2_readWhole ⟨Nat.le_of_ble_eq_true rfl, Nat.le_of_ble_eq_true rfl⟩ hl.1 (Nat.le_of_ble_eq_true rfl) rfl dX8_look_8 (fun E9 ce9 q9 u9 H locs hp hW h91 h92 h93 => ar_out C hW h91 h92 h93 (⟨Or.inl ⟨hp.1, zTree_n hp.2.1⟩, by obtain ⟨p9, b9, T9, h61, h62, h63⟩ := hp.2.2; exact ⟨_, T9, (fun i hi => by unfold zSc; rw [va_up_ne _ _ (by omega), va_up_ne _ _ (by omega)]), h61, h62, h63⟩⟩)) (fun v9 u9 H locs hp hW => ?_)
  obtain ⟨t, r, T, hE9, rfl, hN9, hFv, hGd, hsoT, hRq, p9, hu9⟩ := hp
  rw [hu9] at hW
  have hZ := zTree_s hE9
  have hwf := zTree_wf hZ
  have hrt := zRp_root t 0 r hRq
  have hsv : ∀ j, j < 8 → zSN T.1 j = zSN sh j := fun j hj => zSN_eq (hFv j hj).1
  have hps := zPass hwf hRq hsv
  refine W.eq (g2 := F0 m 11 ls [.ref (ad (104 + r))]) rfl ?_
  refine lv_astore_n (lv' := [(1, .ref (ad (104 + r))), (0, .ref (ad 0))]) hx hb dX8_look_11 rfl hl (by decide) rfl (fun ls hl => ?_)
  refine lv_aload_n hx hb dX8_look_12 rfl (lv_at hl 1 rfl) ?_
  refine xg_tree C hW q134 dX8_look_13 ?_
  refine lv_aload_n hx hb dX8_look_16 rfl (lv_at hl 1 rfl) ?_
  refine xg_variables C hW q132 dX8_look_17 ?_
  refine ar_callS (As := [.ref (ad 4), .ref (ad 1)]) (rest := []) C hW (c_X3_findAll hl9 (zSc sc p9 (zNN t)) sg T.1 T.2.1 T.2.2.1 T.2.2.2 (zNN t) hN9 zSc_4 (zKd T.2.2.1) (zSn T.2.2.1) (zNu T.2.2.1) (zLl T.2.2.2) (zRl T.2.2.2) (zWv T.2.1) (fun k hk => (hGd k (Nat.zero_le _) hk).1) (fun k i => Nat.mod_lt _ (by decide)) (zSN T.1) (fun j hj => (hsoT j hj).1) (fun j hj => (hsoT j hj).2) (zCkT hGd hsoT hwf hRq hN9)) q444 q445 q17 q446 hd_X3_findAll ⟨Nat.le_of_ble_eq_true rfl, Nat.le_of_ble_eq_true rfl⟩ hl.1 (Nat.le_of_ble_eq_true rfl) rfl dX8_look_20 (fun E9 ce9 q9 u9 H locs hp hW h91 h92 h93 => ar_out C hW h91 h92 h93 (⟨by obtain ⟨f, s8, h1, h2, -⟩ := hp; have h69 : (zTs (zSN sh) t).1 ≠ 0 := fun q => h1 (hps.1.trans q); exact Or.inr ⟨t, hZ, h69, by rw [h2]; exact congrArg zEc hps.1⟩, by obtain ⟨f, s8, -, -, hs8, ho8, hv8, h68⟩ := hp; exact ⟨_, (f, T.2.1, T.2.2.1, T.2.2.2), (fun i hi => by unfold zSc; rw [va_up_ne _ _ (by omega), va_up_ne _ _ (by omega)]), fun j hj => ⟨by show f j = sh j; rw [hs8 j (by omega), hv8 j hj, ← (hsoT j (by omega)).1]; exact (hFv j hj).1, (hFv j hj).2⟩, (zSo_of hs8 ho8).1, h68⟩⟩)) (fun v9 u9 H locs hp hW => ?_)
  obtain ⟨f, rfl, hz0, hzf, hzo, hzv, hu9⟩ := hp
  rw [hu9] at hW
  have hfs := zSo_of hzf hzo
  have hz0 : (zShx T (zNN t)).1 = 0 := hz0
  have hsr : zSN f (8 + r) = (zTs (zSN sh) t).2 := (hfs.2 _ (by omega)).trans (hps.2 hz0)
  have hts0 : (zTs (zSN sh) t).1 = 0 := hps.1.symm.trans hz0
  have hfj : ∀ j, j < 8 → f j = sh j := fun j hj => by rw [hzf j (by omega), hzv j hj, ← (hsoT j (by omega)).1]; exact (hFv j hj).1
  refine W.eq (g2 := F0 m 23 ls []) rfl ?_
  refine lv_aload_n hx hb dX8_look_23 rfl (lv_at hl 0 rfl) ?_
  refine xg_result (k := r) C hW q107 (by omega) dX8_look_24 ?_
  refine xg_shape (j := 8 + r) C hW q38 (by omega) dX8_look_27 ?_
  exact ar_iret C hr hW dX8_look_30 (⟨⟨t, hZ, hts0, congrArg (fun z => some (Value.int z)) (by rw [← hsr]; exact (hfs.1 (8 + r) (by omega)).1)⟩, _, (f, T.2.1, T.2.2.1, T.2.2.2), (fun i hi => by unfold zSc; rw [va_up_ne _ _ (by omega), va_up_ne _ _ (by omega)]), fun j hj => ⟨hfj j hj, (hFv j hj).2⟩, hfs.1, rfl⟩)
theorem hd_X8_run : yX8_run.cls ≠ "java/lang/invoke/MethodHandle" ∧ yX8_run.cls ≠ "java/lang/invoke/VarHandle" ∧ (parseMethodDescriptor yX8_run.desc).map (fun d => d.parameters.length) = some 1 := by decide +kernel
set_option maxHeartbeats 4000000 in
set_option maxRecDepth 100000 in
theorem c_X8_run {l : Launch} (hl9 : l.stackTraces = false) {D : va_G} {ct : Nat → ClassId} {ad : Nat → Nat} (sc sg sh : Nat → Int32) (el : Nat → Nat → UInt64) (nf : Nat → Nat → Int32) (lr : Nat → Nat → Option Nat) (n : Nat) (tx : Nat → Nat) (hn : n ≤ 40) (hlen : sc 2 = nI n) (htx : ∀ j, j < n → sg j = nI (tx j)) (hcx : ∀ j, j < n → 1 ≤ tx j ∧ tx j ≤ 127) (hso : zSo sh) (hvr : ∀ j, j < 8 → ∀ q, q < zCt (zSN sh j) → zRg (el j q) = true) (v : Int32) : ar_M l yX8_run cX8_run 3 (some .int) 104 5146 D ct (xL ad ct) [.ref (ad 0), .int v] (sc, sg, sh, el, nf, lr) (fun v9 u9 => ∃ (t : zTr) (j : Nat) (sc2 : Nat → Int32) (T : zXS), v = nI j ∧ j < 8 ∧ zTree (zCh tx n) n = some t ∧ (zTs (zSN sh) t).1 = 0 ∧ zTg (zSN sh) el t ∧ v9 = some (.int (nI (zCt (zTs (zSN sh) t).2))) ∧ sc2 0 = nI ((if zMr t = true then 0 else 1) + zAr t) ∧ sc2 1 = sc 1 + nI 1 ∧ sc2 2 = sc 2 ∧ (∀ i, i < 8 → i ≠ j → T.1 i = sh i ∧ T.2.1 i = el i) ∧ T.1 j = nI (zTs (zSN sh) t).2 ∧ zOk (zTs (zSN sh) t).2 = true ∧ (∀ q, q < zCt (zTs (zSN sh) t).2 → T.2.1 j q = zTx (zSN sh) el t q ∧ zRg (zTx (zSN sh) el t q) = true) ∧ zSo T.1 ∧ u9 = (sc2, sg, T.1, T.2.1, T.2.2.1, T.2.2.2)) (fun E9 u9 => ((E9 = IOB ∧ vOk v = false) ∨ (vOk v = true ∧ ((E9 = IAE ∧ zTree (zCh tx n) n = none) ∨ (∃ t : zTr, zTree (zCh tx n) n = some t ∧ (zTs (zSN sh) t).1 ≠ 0 ∧ E9 = zEc (zTs (zSN sh) t).1) ∨ (∃ t : zTr, zTree (zCh tx n) n = some t ∧ (zTs (zSN sh) t).1 = 0 ∧ ¬ zTg (zSN sh) el t ∧ E9 = ARE)))) ∧ ∃ (sc2 : Nat → Int32) (T : zXS), (∀ i, i < 3 → sc2 i = sc i) ∧ zFv (sh, el, nf, lr) T ∧ zSo T.1 ∧ u9 = (sc2, sg, T.1, T.2.1, T.2.2.1, T.2.2.2)) := by
  refine ar_ofW hl9 (by decide) (Nat.le_of_ble_eq_true rfl) ?_
  intro p e s m below meth c A ls C hr hnm hW hl
  have hx := C.1
  have hb := C.2.1
  have hown := C.2.2.2.1
  have hts := C.2.2.2.2.1
  have hl : lv_has ls 3 [(0, .ref (ad 0)), (1, .int v)] := hl
  refine lv_iload_n hx hb dX8_run_0 rfl (lv_at hl 1 rfl) ?_
  refine ar_callS (As := [.int v]) (rest := []) C hW (c_X8_isVariable hl9 _ v) q174 q175 q1 q176 hd_X8_isVariable ⟨Nat.le_of_ble_eq_true rfl, Nat.le_of_ble_eq_true rfl⟩ hl.1 (Nat.le_of_ble_eq_true rfl) rfl dX8_run_1 (fun _ _ _ _ _ _ hp => hp.elim) (fun v9 u9 H locs hp hW => ?_)
  obtain ⟨rfl, hu9⟩ := hp
  rw [hu9] at hW
  refine W.eq (g2 := F0 m 4 ls [.int (bI (vOk v))]) rfl ?_
  refine lb_if_ne (tgt := 17) hx hb dX8_run_4 (by decide) (fun h1 => ?_) (fun h1 => ?_)
  · skip
    have h1v := h1
    obtain ⟨j, hj8, rfl⟩ := vOk_nat h1
    refine lv_aload_n hx hb dX8_run_17 rfl (lv_at hl 0 rfl) ?_
    refine xg_text C hW q133 dX8_run_18 ?_
    refine lv_aload_n hx hb dX8_run_21 rfl (lv_at hl 0 rfl) ?_
    refine xg_tree C hW q134 dX8_run_22 ?_
    refine ar_callS (As := [.ref (ad 2), .ref (ad 4)]) (rest := []) C hW (c_X2_readWhole hl9 sc sg sh el nf lr n tx hn hlen htx hcx hso) q357 q358 q15 q359 hd_X2_readWhole ⟨Nat.le_of_ble_eq_true rfl, Nat.le_of_ble_eq_true rfl⟩ hl.1 (Nat.le_of_ble_eq_true rfl) rfl dX8_run_25 (fun E9 ce9 q9 u9 H locs hp hW h91 h92 h93 => ar_out C hW h91 h92 h93 (⟨Or.inr ⟨h1v, Or.inl ⟨hp.1, zTree_n hp.2.1⟩⟩, by obtain ⟨p9, b9, T9, h61, h62, h63⟩ := hp.2.2; exact ⟨_, T9, (fun i hi => by unfold zSc; rw [va_up_ne _ _ (by omega), va_up_ne _ _ (by omega)]), h61, h62, h63⟩⟩)) (fun v9 u9 H locs hp hW => ?_)
    obtain ⟨t, r, T, hE9, rfl, hN9, hFv, hGd, hsoT, hRq, p9, hu9⟩ := hp
    rw [hu9] at hW
    have hZ := zTree_s hE9
    have hwf := zTree_wf hZ
    have hrt := zRp_root t 0 r hRq
    have hsv : ∀ j, j < 8 → zSN T.1 j = zSN sh j := fun j hj => zSN_eq (hFv j hj).1
    have hps := zPass hwf hRq hsv
    refine W.eq (g2 := F0 m 28 ls [.ref (ad (104 + r))]) rfl ?_
    refine lv_astore_n (lv' := [(2, .ref (ad (104 + r))), (0, .ref (ad 0)), (1, .int (nI j))]) hx hb dX8_run_28 rfl hl (by decide) rfl (fun ls hl => ?_)
    refine lv_aload_n hx hb dX8_run_29 rfl (lv_at hl 1 rfl) ?_
    refine xg_tree C hW q134 dX8_run_30 ?_
    refine lv_aload_n hx hb dX8_run_33 rfl (lv_at hl 1 rfl) ?_
    refine xg_variables C hW q132 dX8_run_34 ?_
    refine ar_callS (As := [.ref (ad 4), .ref (ad 1)]) (rest := []) C hW (c_X3_findAll hl9 (zSc sc p9 (zNN t)) sg T.1 T.2.1 T.2.2.1 T.2.2.2 (zNN t) hN9 zSc_4 (zKd T.2.2.1) (zSn T.2.2.1) (zNu T.2.2.1) (zLl T.2.2.2) (zRl T.2.2.2) (zWv T.2.1) (fun k hk => (hGd k (Nat.zero_le _) hk).1) (fun k i => Nat.mod_lt _ (by decide)) (zSN T.1) (fun j hj => (hsoT j hj).1) (fun j hj => (hsoT j hj).2) (zCkT hGd hsoT hwf hRq hN9)) q444 q445 q17 q446 hd_X3_findAll ⟨Nat.le_of_ble_eq_true rfl, Nat.le_of_ble_eq_true rfl⟩ hl.1 (Nat.le_of_ble_eq_true rfl) rfl dX8_run_37 (fun E9 ce9 q9 u9 H locs hp hW h91 h92 h93 => ar_out C hW h91 h92 h93 (⟨by obtain ⟨f, s8, h1, h2, -⟩ := hp; have h69 : (zTs (zSN sh) t).1 ≠ 0 := fun q => h1 (hps.1.trans q); exact Or.inr ⟨h1v, Or.inr (Or.inl ⟨t, hZ, h69, by rw [h2]; exact congrArg zEc hps.1⟩)⟩, by obtain ⟨f, s8, -, -, hs8, ho8, hv8, h68⟩ := hp; exact ⟨_, (f, T.2.1, T.2.2.1, T.2.2.2), (fun i hi => by unfold zSc; rw [va_up_ne _ _ (by omega), va_up_ne _ _ (by omega)]), fun j hj => ⟨by show f j = sh j; rw [hs8 j (by omega), hv8 j hj, ← (hsoT j (by omega)).1]; exact (hFv j hj).1, (hFv j hj).2⟩, (zSo_of hs8 ho8).1, h68⟩⟩)) (fun v9 u9 H locs hp hW => ?_)
    obtain ⟨f, rfl, hz0, hzf, hzo, hzv, hu9⟩ := hp
    rw [hu9] at hW
    have hfs := zSo_of hzf hzo
    have hz0 : (zShx T (zNN t)).1 = 0 := hz0
    have hsr : zSN f (8 + r) = (zTs (zSN sh) t).2 := (hfs.2 _ (by omega)).trans (hps.2 hz0)
    have hts0 : (zTs (zSN sh) t).1 = 0 := hps.1.symm.trans hz0
    have hfj : ∀ j, j < 8 → f j = sh j := fun j hj => by rw [hzf j (by omega), hzv j hj, ← (hsoT j (by omega)).1]; exact (hFv j hj).1
    refine W.eq (g2 := F0 m 40 ls []) rfl ?_
    refine lv_aload_n hx hb dX8_run_40 rfl (lv_at hl 1 rfl) ?_
    refine xg_tree C hW q134 dX8_run_41 ?_
    refine lv_aload_n hx hb dX8_run_44 rfl (lv_at hl 1 rfl) ?_
    refine xg_variables C hW q132 dX8_run_45 ?_
    have hsf := (zShs_fix (w := zWv T.2.1) (fun k hk => (hGd k (Nat.zero_le _) hk).1) (zNN t) (zSN T.1) (Nat.le_refl _) hz0).2
    have hcs : ∀ k, zKd T.2.2.1 k = 2 → (zShx T (zNN t)).2 (8 + k) = zSN T.1 (8 + k) := fun k hk => zShs_cst hk _ _
    have hrv : ∀ j, j < 8 → ∀ q, q < zCt ((zShx T (zNN t)).2 j) → zRg (T.2.1 j q) = true := fun j hj q hq => by
      rw [(hFv j hj).2]
      rw [hzv j hj, hsv j hj] at hq
      exact hvr j hj q hq
    have hc8 : ∀ k, 0 ≤ k → k < 0 + zNN t → zKd T.2.2.1 k = 2 → ∀ i, i < zCt ((zShx T (zNN t)).2 (8 + k)) → T.2.1 (8 + k) i = FP.i2d (nI (zWv T.2.1 k i)) := fun k _ hk hk2 i hi => by
      rw [hcs k hk2] at hi
      exact (hGd k (Nat.zero_le _) (by omega)).2 hk2 i hi
    have hrc : ∀ k, k < zNN t → zKd T.2.2.1 k = 2 → ∀ q, q < zCt ((zShx T (zNN t)).2 (8 + k)) → zRg (T.2.1 (8 + k) q) = true := fun k hk hk2 q hq => by
      rw [hc8 k (Nat.zero_le _) (by omega) hk2 q hq]
      exact zRg_i2d _
    have hrp := zRp_cs t 0 r hcs hRq
    have hv8 : ∀ j, j < 8 → (zShx T (zNN t)).2 j = zSN sh j := fun j hj => (hzv j hj).trans (hsv j hj)
    have hf8 : ∀ k, 0 ≤ k → k < 0 + zNN t → zSfN (zKd T.2.2.1) (zNu T.2.2.1) (zLl T.2.2.2) (zRl T.2.2.2) (zWv T.2.1) (zShx T (zNN t)).2 k = (0, (zShx T (zNN t)).2 (8 + k)) ∧ zOk ((zShx T (zNN t)).2 (8 + k)) = true := fun k _ hk => ⟨hsf k (by omega), hzo _ (by omega)⟩
    have hz8 : (zShx T (zNN t)).2 (8 + r) = (zTs (zSN sh) t).2 := hps.2 hz0
    refine ar_callS (As := [.ref (ad 4), .ref (ad 1)]) (rest := []) C hW (c_X7_workOutAll hl9 (zSc sc p9 (zNN t)) sg f T.2.1 T.2.2.1 T.2.2.2 (zNN t) hN9 zSc_4 (zKd T.2.2.1) (zSn T.2.2.1) (zNu T.2.2.1) (zLl T.2.2.2) (zRl T.2.2.2) (zWv T.2.1) (fun k hk => (hGd k (Nat.zero_le _) hk).1) (zShx T (zNN t)).2 hzf hzo hsf (fun k hk => zRp_nz t 0 r hRq k (Nat.zero_le _) (by omega)) hrv hrc) q514 q515 q20 q516 hd_X7_workOutAll ⟨Nat.le_of_ble_eq_true rfl, Nat.le_of_ble_eq_true rfl⟩ hl.1 (Nat.le_of_ble_eq_true rfl) rfl dX8_run_48 (fun E9 ce9 q9 u9 H locs hp hW h91 h92 h93 => ar_out C hW h91 h92 h93 (⟨Or.inr ⟨h1v, Or.inr (Or.inr ⟨t, hZ, hts0, by
        have h70 := zWyT (xv := el) hv8 t 0 r T.2.1 hwf hrp hf8 (fun j hj => (hFv j hj).2) hc8 (by rw [Nat.zero_add]; exact zWkx_y _ _ hp.2.1)
        rcases h70 with ⟨-, h70⟩ | ⟨-, e1, h71, -⟩
        · exact h70
        · exact h71.elim, hp.1⟩)⟩, by
        obtain ⟨e3, h72, h73⟩ := hp.2.2
        exact ⟨_, (f, e3, T.2.2.1, T.2.2.2), (fun i hi => by unfold zSc; rw [va_up_ne _ _ (by omega), va_up_ne _ _ (by omega)]), fun j hj => ⟨hfj j hj, (h72 j hj).trans (hFv j hj).2⟩, hfs.1, h73⟩⟩)) (fun v9 u9 H locs hp hW => ?_)
    obtain ⟨e3, rfl, hwk, hev, hrg, hu9⟩ := hp
    rw [hu9] at hW
    have hwy := zWyT (xv := el) hv8 t 0 r T.2.1 hwf hrp hf8 (fun j hj => (hFv j hj).2) hc8 (by rw [Nat.zero_add]; exact zWks_y _ _ hwk)
    rcases hwy with ⟨hwy, -⟩ | ⟨hTg, e1, rfl, hval, -⟩
    · exact hwy.elim
    refine W.eq (g2 := F0 m 51 ls []) rfl ?_
    refine lv_aload_n hx hb dX8_run_51 rfl (lv_at hl 1 rfl) ?_
    refine xg_variables C hW q132 dX8_run_52 ?_
    refine lv_iload_n hx hb dX8_run_55 rfl (lv_at hl 2 rfl) ?_
    refine xl_variables (j := j) C hW (hj8) dX8_run_56 ?_
    refine lv_aload_n hx hb dX8_run_57 rfl (lv_at hl 0 rfl) ?_
    refine xg_result (k := r) C hW q107 (by omega) dX8_run_58 ?_
    refine ar_callV (As := [.ref (ad (6 + (8 + r)))]) (rest := []) C hW (c_X1_becomeCopy hl9 (zSc sc p9 (zNN t)) sg f e3 T.2.2.1 T.2.2.2 j (8 + r) (by omega) (by omega) (by omega)) (xl_at (by omega) (xc_na (j := j) (by omega))) rfl q565 q521 q522 q2 q523 hd_X1_becomeCopy ⟨Nat.le_of_ble_eq_true rfl, Nat.le_of_ble_eq_true rfl⟩ hl.1 (Nat.le_of_ble_eq_true rfl) rfl dX8_run_61 (fun _ _ _ _ _ _ hp => hp.elim) (fun v9 u9 H locs hp hW => ?_)
    obtain ⟨rfl, hu9⟩ := hp
    rw [hu9] at hW
    refine W.eq (g2 := F0 m 64 ls []) rfl ?_
    refine lv_aload_n hx hb dX8_run_64 rfl (lv_at hl 1 rfl) ?_
    refine lv_aload_n hx hb dX8_run_65 rfl (lv_at hl 1 rfl) ?_
    refine xg_tree C hW q134 dX8_run_66 ?_
    refine lv_aload_n hx hb dX8_run_69 rfl (lv_at hl 0 rfl) ?_
    refine ar_callV (As := [.ref (ad (104 + r))]) (rest := [.ref (ad 0)]) C hW (c_X6_arraysMade hl9 (zSc sc p9 (zNN t)) sg (va_up f j (f (8 + r))) (va_up e3 j (zCp (e3 j) (e3 (8 + r)))) T.2.2.1 T.2.2.2 r (by omega) (zKd T.2.2.1 r) (by have := (hGd r (Nat.zero_le _) (by omega)).1.2.1; omega) (hGd r (Nat.zero_le _) (by omega)).1.1 (zNN t) hN9 zSc_4 (zKd T.2.2.1) (fun k hk => (hGd k (Nat.zero_le _) hk).1.1) (fun k hk => (hGd k (Nat.zero_le _) hk).1.2.1)) (xl_at (by decide) rfl) rfl q566 q567 q568 q4 q569 hd_X6_arraysMade ⟨Nat.le_of_ble_eq_true rfl, Nat.le_of_ble_eq_true rfl⟩ hl.1 (Nat.le_of_ble_eq_true rfl) rfl dX8_run_70 (fun _ _ _ _ _ _ hp => hp.elim) (fun v9 u9 H locs hp hW => ?_)
    obtain ⟨rfl, hu9⟩ := hp
    rw [hu9] at hW
    refine W.eq (g2 := F0 m 73 ls [.int (nI ((if zMk (zKd T.2.2.1 r) = true then 0 else 1) + zMkC (zKd T.2.2.1) (zNN t))), .ref (ad 0)]) rfl ?_
    refine xp_madeByLatest C hW q135 dX8_run_73 (fun H locs hW => ?_)
    refine lv_aload_n hx hb dX8_run_76 rfl (lv_at hl 1 rfl) ?_
    refine lv_dup hx hb dX8_run_77 rfl ?_
    refine xg_runsSoFar C hW q136 dX8_run_78 ?_
    rw [va_up_ne _ _ (by decide)]
    refine lv_iconst (v := nI 1) hx hb dX8_run_81 (by decide) ?_
    refine lv_iadd hx hb dX8_run_82 ?_
    refine xp_runsSoFar C hW q136 dX8_run_83 (fun H locs hW => ?_)
    refine lv_aload_n hx hb dX8_run_86 rfl (lv_at hl 1 rfl) ?_
    refine xg_variables C hW q132 dX8_run_87 ?_
    refine lv_iload_n hx hb dX8_run_90 rfl (lv_at hl 2 rfl) ?_
    refine xl_variables (j := j) C hW (hj8) dX8_run_91 ?_
    refine ar_callV (As := []) (rest := []) C hW (c_X1_count hl9 (va_up (va_up (zSc sc p9 (zNN t)) 0 (nI ((if zMk (zKd T.2.2.1 r) = true then 0 else 1) + zMkC (zKd T.2.2.1) (zNN t)))) 1 (((zSc sc p9 (zNN t)) 1) + (nI 1))) sg (va_up f j (f (8 + r))) (va_up e3 j (zCp (e3 j) (e3 (8 + r)))) T.2.2.1 T.2.2.2 j (by omega) ((zTs (zSN sh) t).2) (by have := (zOk_num (hzo (8 + r) (by omega))).1; rw [hz8] at this; omega) (by rw [va_up_self, hzf _ (by omega), hz8])) (xl_at (by omega) (xc_na (j := j) (by omega))) rfl q228 q214 q215 q2 q216 hd_X1_count ⟨Nat.le_of_ble_eq_true rfl, Nat.le_of_ble_eq_true rfl⟩ hl.1 (Nat.le_of_ble_eq_true rfl) rfl dX8_run_92 (fun _ _ _ _ _ _ hp => hp.elim) (fun v9 u9 H locs hp hW => ?_)
    obtain ⟨rfl, hu9⟩ := hp
    rw [hu9] at hW
    refine W.eq (g2 := F0 m 95 ls [.int (nI (zCt ((zTs (zSN sh) t).2)))]) rfl ?_
    exact ar_iret C hr hW dX8_run_95 (by
        have har := zArT t 0 r hwf hRq
        rw [Nat.zero_add, show zMkC (zKd T.2.2.1) 0 = 0 from rfl, Nat.zero_add] at har
        have hok9 : zOk (zTs (zSN sh) t).2 = true := by rw [← hz8]; exact hzo _ (by omega)
        refine ⟨t, j, (va_up (va_up (zSc sc p9 (zNN t)) 0 (nI ((if zMk (zKd T.2.2.1 r) = true then 0 else 1) + zMkC (zKd T.2.2.1) (zNN t)))) 1 (((zSc sc p9 (zNN t)) 1) + (nI 1))), (va_up f j (f (8 + r)), va_up e3 j (zCp (e3 j) (e3 (8 + r))), T.2.2.1, T.2.2.2), rfl, hj8, hZ, hts0, hTg, rfl, ?_, rfl, rfl, fun i hi hij => ⟨?_, ?_⟩, ?_, hok9, fun q hq => ?_, ?_, rfl⟩
        · rw [va_up_ne _ _ (by decide), va_up_self, har.1, har.2]
        · exact (va_up_ne _ _ hij).trans (hfj i hi)
        · exact (va_up_ne _ _ hij).trans ((hev i hi).trans (hFv i hi).2)
        · exact (va_up_self _ _ _).trans (by rw [hzf _ (by omega), hz8])
        · have h24 := (zOk_num hok9).2.2.1
          have h81 : e3 (8 + r) q = zTx (zSN sh) el t q := hval q (by rw [hz8]; exact hq)
          refine ⟨?_, by rw [← h81]; exact hrg r (by omega) hrt.2.2 q (by rw [hz8]; exact hq)⟩
          refine (congrFun (va_up_self _ _ _) q).trans ?_
          unfold zCp
          rw [if_pos (by omega), h81]
        · show zSo (va_up f j (f (8 + r)))
          rw [hzf _ (by omega)]
          exact zSo_up hfs.1 (hzo _ (by omega)))
  · skip
    exact ar_throw C hW ar_X_X8_71 hl.1 dX8_run_7 dX8_run_10 dX8_run_11 dX8_run_13 dX8_run_16 (Nat.le_of_ble_eq_true rfl) (Nat.le_of_ble_eq_true rfl) (⟨Or.inl ⟨rfl, h1⟩, sc, (sh, el, nf, lr), fun _ _ => rfl, zFv.rf _, hso, rfl⟩)
