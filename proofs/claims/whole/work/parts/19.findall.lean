theorem zOkA {s : Nat → Nat} (h : ∀ j, j < 49 → zOk (s j) = true) : ∀ j, j < 49 → s j ≤ 792 ∧ zCt (s j) ≤ 24 := fun j hj => ⟨(zOk_num (h j hj)).1, (zOk_num (h j hj)).2.2.1⟩
theorem zSfN_ok {nf : Nat → Nat → Int32} {lr : Nat → Nat → Option Nat} {kd sgn num l9 r9 : Nat → Nat} {w : Nat → Nat → Nat} {b k : Nat} {s : Nat → Nat} (hb : b ≤ 41) (hk : k < b) (hn : zNok nf lr kd sgn num l9 r9 b k) (hs : ∀ j, j < 49 → zOk (s j) = true) (h : (zSfN kd num l9 r9 w s k).1 = 0) : zOk (zSfN kd num l9 r9 w s k).2 = true := by
  obtain ⟨-, -, -, -, -, -, h1, h2, h3, -⟩ := hn
  exact zSf_ok (fun q => hs _ (by have := h1 q; omega)) (fun q => hs _ (by have := (h2 q).2; omega)) (fun q => hs _ (by have := (h3 q).2; omega)) (hs _ (by omega)) h
theorem zSfN_cst {kd num l9 r9 : Nat → Nat} {w : Nat → Nat → Nat} {s : Nat → Nat} {k : Nat} (h : kd k = 2) : zSfN kd num l9 r9 w s k = (0, s (8 + k)) := by
  unfold zSfN zSf
  rw [h]
  rfl
theorem hd_X3_findAll : yX3_findAll.cls ≠ "java/lang/invoke/MethodHandle" ∧ yX3_findAll.cls ≠ "java/lang/invoke/VarHandle" ∧ (parseMethodDescriptor yX3_findAll.desc).map (fun d => d.parameters.length) = some 2 := by decide +kernel
set_option maxHeartbeats 4000000 in
set_option maxRecDepth 100000 in
theorem c_X3_findAll {l : Launch} (hl9 : l.stackTraces = false) {D : va_G} {ct : Nat → ClassId} {ad : Nat → Nat} (sc sg sh : Nat → Int32) (el : Nat → Nat → UInt64) (nf : Nat → Nat → Int32) (lr : Nat → Nat → Option Nat) (b : Nat) (hb9 : b ≤ 41) (hct : sc 4 = nI b) (kd sgn num l9 r9 : Nat → Nat) (w : Nat → Nat → Nat) (hnk : ∀ k, k < b → zNok nf lr kd sgn num l9 r9 b k) (hw15 : ∀ k i, w k i < 2 ^ 15) (s9 : Nat → Nat) (hs9 : ∀ j, j < 49 → sh j = nI (s9 j)) (ho9 : ∀ j, j < 49 → zOk (s9 j) = true) (hck : ∀ k, k < b → zCok el kd w s9 k) : ar_M l yX3_findAll cX3_findAll 4 none 8 135 D ct (xL ad ct) [.ref (ad 4), .ref (ad 1)] (sc, sg, sh, el, nf, lr) (fun v9 u9 => ∃ f : Nat → Int32, v9 = none ∧ (zShs kd num l9 r9 w b s9).1 = 0 ∧ (∀ j, j < 49 → f j = nI ((zShs kd num l9 r9 w b s9).2 j)) ∧ (∀ j, j < 49 → zOk ((zShs kd num l9 r9 w b s9).2 j) = true) ∧ (∀ j, j < 8 → (zShs kd num l9 r9 w b s9).2 j = s9 j) ∧ u9 = (sc, sg, f, el, nf, lr)) (fun E9 u9 => ∃ (f : Nat → Int32) (s8 : Nat → Nat), (zShs kd num l9 r9 w b s9).1 ≠ 0 ∧ E9 = zEc (zShs kd num l9 r9 w b s9).1 ∧ (∀ j, j < 49 → f j = nI (s8 j)) ∧ (∀ j, j < 49 → zOk (s8 j) = true) ∧ (∀ j, j < 8 → s8 j = s9 j) ∧ u9 = (sc, sg, f, el, nf, lr)) := by
  refine ar_ofW hl9 (by decide) (Nat.le_of_ble_eq_true rfl) ?_
  intro p e s m below meth c A ls C hr hnm hW hl
  have hx := C.1
  have hb := C.2.1
  have hown := C.2.2.2.1
  have hts := C.2.2.2.2.1
  have hl : lv_has ls 4 [(0, .ref (ad 4)), (1, .ref (ad 1))] := hl
  refine lv_aload_n hx hb dX3_findAll_0 rfl (lv_at hl 0 rfl) ?_
  refine xg_count C hW q124 dX3_findAll_1 ?_
  refine ln_top (hct) ?_
  refine lv_iconst (v := nI 1) hx hb dX3_findAll_4 (by decide) ?_
  refine lv_isub hx hb dX3_findAll_5 ?_
  refine W.eq (g2 := F0 m 6 ls [.int (zPr b)]) rfl ?_
  refine lv_istore_n (lv' := [(2, .int (zPr b)), (0, .ref (ad 4)), (1, .ref (ad 1))]) hx hb dX3_findAll_6 rfl hl (by decide) rfl (fun ls hl => ?_)
  have lp : ∀ (N9 : Nat) (i : Nat) (s8 : Nat → Nat) (f : Nat → Int32) (H : Heap) (locs : List Loc) (ls : Array Slot), i < N9 → (i ≤ b) → (∀ j, j < 49 → f j = nI (s8 j)) → (∀ j, j < 49 → zOk (s8 j) = true) → (∀ k, k < b → kd k = 2 → s8 (8 + k) = s9 (8 + k)) → (zShs kd num l9 r9 w b s9 = zShs kd num l9 r9 w i s8) → (∀ j, j < 8 → s8 j = s9 j) → ar_W D A s.heap H locs (xL ad ct (sc, sg, f, el, nf, lr)) → lv_has ls 4 [(0, .ref (ad 4)), (1, .ref (ad 1)), (2, .int (zPr i))] → W p l e (ar_rm 8 135) s m [.ref (ad 4), .ref (ad 1)].toArray below meth c H locs 0 0 (ar_E below (ar_Q D ct (xL ad ct) A (fun v9 u9 => ∃ f : Nat → Int32, v9 = none ∧ (zShs kd num l9 r9 w b s9).1 = 0 ∧ (∀ j, j < 49 → f j = nI ((zShs kd num l9 r9 w b s9).2 j)) ∧ (∀ j, j < 49 → zOk ((zShs kd num l9 r9 w b s9).2 j) = true) ∧ (∀ j, j < 8 → (zShs kd num l9 r9 w b s9).2 j = s9 j) ∧ u9 = (sc, sg, f, el, nf, lr)) (fun E9 u9 => ∃ (f : Nat → Int32) (s8 : Nat → Nat), (zShs kd num l9 r9 w b s9).1 ≠ 0 ∧ E9 = zEc (zShs kd num l9 r9 w b s9).1 ∧ (∀ j, j < 49 → f j = nI (s8 j)) ∧ (∀ j, j < 49 → zOk (s8 j) = true) ∧ (∀ j, j < 8 → s8 j = s9 j) ∧ u9 = (sc, sg, f, el, nf, lr))) [.ref (ad 4), .ref (ad 1)].toArray s) (F0 m 7 ls []) := by
    intro N9
    induction N9 with
    | zero =>
      intro i s8 f H locs ls hN9
      exact absurd hN9 (Nat.not_lt_zero _)
    | succ N9 ihlp =>
      intro i s8 f H locs ls hN9 hi hs8 ho8 hcs hzz hvv hW hl
      refine lv_iload_n hx hb dX3_findAll_7 rfl (lv_at hl 2 rfl) ?_
      refine lv_if_lt (tgt := 36) hx hb dX3_findAll_8 (by decide) (fun h1 => ?_) (fun h1 => ?_)
      · skip
        have hi0 := zPr_neg (by omega) h1
        subst hi0
        exact ar_vret C hr hW dX3_findAll_36 (⟨f, rfl, by rw [hzz]; rfl, by rw [hzz]; exact hs8, by rw [hzz]; exact ho8, by rw [hzz]; exact hvv, rfl⟩)
      · skip
        obtain ⟨k, rfl⟩ := zPr_pos h1
        rw [zPr_s] at hl
        have hnok := hnk k (by omega)
        obtain ⟨n1, n2, n3, n4, n5, n6, n7, n8, n9, n10⟩ := id hnok
        refine lv_aload_n hx hb dX3_findAll_11 rfl (lv_at hl 0 rfl) ?_
        refine xg_nodes C hW q122 dX3_findAll_12 ?_
        refine lv_iload_n hx hb dX3_findAll_15 rfl (lv_at hl 2 rfl) ?_
        refine xl_nodes (j := k) C hW (by omega) dX3_findAll_16 ?_
        refine lv_astore_n (lv' := [(3, .ref (ad (104 + k))), (0, .ref (ad 4)), (1, .ref (ad 1)), (2, .int (nI k))]) hx hb dX3_findAll_17 rfl hl (by decide) rfl (fun ls hl => ?_)
        refine lv_aload_n hx hb dX3_findAll_18 rfl (lv_at hl 0 rfl) ?_
        refine xg_result (k := k) C hW q104 (by omega) dX3_findAll_19 ?_
        refine lv_aload_n hx hb dX3_findAll_22 rfl (lv_at hl 0 rfl) ?_
        refine lv_aload_n hx hb dX3_findAll_23 rfl (lv_at hl 2 rfl) ?_
        refine ar_callS (As := [.ref (ad (104 + k)), .ref (ad 1)]) (rest := [.ref (ad (6 + (8 + k)))]) C hW (c_X3_shapeFound hl9 sc sg f el nf lr k (by omega) (kd k) n2 n1 (num k) n5 n6 n7 (l9 k) (r9 k) (fun q => ⟨(n8 q).1, by have := (n8 q).2; omega⟩) (fun q => ⟨(n9 q).1, by have := (n9 q).2; omega⟩) s8 hs8 (zOkA ho8) (kd (l9 k)) (fun q => by have h55 := hnk (l9 k) (n8 (by omega)).2.2; exact ⟨h55.1, h55.2.1⟩) (w (l9 k) 0) (w (l9 k) 1) (hw15 _ 0) (hw15 _ 1) (fun q q2 => by have h56 := hck (l9 k) (n8 (by omega)).2.2 q2; exact ⟨h56.2.2.1, trivial, fun q3 => ⟨h56.2.2.2 (by rw [← hcs _ (n8 (by omega)).2.2 q2]; exact q3), trivial⟩⟩)) q447 q448 q17 q449 hd_X3_shapeFound ⟨Nat.le_of_ble_eq_true rfl, Nat.le_of_ble_eq_true rfl⟩ hl.1 (Nat.le_of_ble_eq_true rfl) rfl dX3_findAll_24 (fun E9 ce9 q9 u9 H locs hp hW h91 h92 h93 => ar_out C hW h91 h92 h93 (⟨f, s8, by rw [hzz, zShs, if_pos (show (zSfN kd num l9 r9 w s8 k).1 ≠ 0 from hp.1)]; exact hp.1, by rw [hzz, zShs, if_pos (show (zSfN kd num l9 r9 w s8 k).1 ≠ 0 from hp.1)]; exact hp.2.1, hs8, ho8, hvv, hp.2.2⟩)) (fun v9 u9 H locs hp hW => ?_)
        obtain ⟨hz9, rfl, hu9⟩ := hp
        rw [hu9] at hW
        have hz9 : (zSfN kd num l9 r9 w s8 k).1 = 0 := hz9
        refine W.eq (g2 := F0 m 27 ls [.int (nI ((zSfN kd num l9 r9 w s8 k).2)), .ref (ad (6 + (8 + k)))]) rfl ?_
        refine xp_shape (j := 8 + k) C hW q37 (by omega) dX3_findAll_27 (fun H locs hW => ?_)
        refine lv_iinc (k := 3) (v := zPr k) (lv' := [(2, .int (zPr k)), (3, .ref (ad (104 + k))), (0, .ref (ad 4)), (1, .ref (ad 1))]) hx hb dX3_findAll_30 hl rfl (zPr_d _) (by decide) rfl (fun ls hl => ?_)
        refine lv_goto (tgt := 7) hx hb dX3_findAll_33 (by decide) ?_
        exact ihlp k (va_up s8 (8 + k) (zSfN kd num l9 r9 w s8 k).2) (va_up f (8 + k) (nI (zSfN kd num l9 r9 w s8 k).2)) _ _ _ (by omega) (by omega) (fun j hj => by unfold va_up; split; rfl; exact hs8 j hj) (fun j hj => by unfold va_up; split; exact zSfN_ok hb9 (by omega) hnok ho8 hz9; exact ho8 j hj) (fun q hq hq2 => by unfold va_up; split; (rename_i h77; have h78 : q = k := by omega); (subst h78; rw [zSfN_cst hq2]; exact hcs q hq hq2); exact hcs q hq hq2) (by rw [hzz, zShs, if_neg (by rw [hz9]; exact fun q => q rfl)]) (fun j hj => by rw [va_up_ne _ _ (by omega)]; exact hvv j hj) (hW) (lv_sub hl [2, 3, 0] rfl)
  exact lp _ b s9 sh _ _ _ (Nat.lt_succ_self _) (Nat.le_refl _) (hs9) (ho9) (fun _ _ _ => rfl) (rfl) (fun _ _ => rfl) (hW) (lv_sub hl [1, 2, 0] rfl)
