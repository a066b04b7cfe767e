def zXN (kd sgn num l9 r9 : Nat → Nat) (s : Nat → Nat) (e : Nat → Nat → UInt64) (k : Nat) : Nat → UInt64 := zXo (kd k) (sgn k) (s (8 + l9 k)) (s (8 + r9 k)) (e (num k)) (e (8 + l9 k)) (e (8 + r9 k)) (e (8 + k))
def zRN (kd sgn l9 r9 : Nat → Nat) (s : Nat → Nat) (e : Nat → Nat → UInt64) (k : Nat) : Prop := zRo (kd k) (sgn k) (s (8 + l9 k)) (s (8 + r9 k)) (s (8 + k)) (e (8 + l9 k)) (e (8 + r9 k))
/-- the elements of the nodes below i, from the last to the first -/
def zWks (kd sgn num l9 r9 : Nat → Nat) (s : Nat → Nat) : Nat → (Nat → Nat → UInt64) → (Nat → Nat → UInt64) → Prop
  | 0, e, e2 => e2 = e
  | k + 1, e, e2 => zRN kd sgn l9 r9 s e k ∧ ∃ f : Nat → UInt64, (∀ q, q < zCt (s (8 + k)) → f q = zXN kd sgn num l9 r9 s e k q) ∧ zWks kd sgn num l9 r9 s k (va_up e (8 + k) f) e2
/-- one of them is out of range -/
def zWkx (kd sgn num l9 r9 : Nat → Nat) (s : Nat → Nat) : Nat → (Nat → Nat → UInt64) → Prop
  | 0, _ => False
  | k + 1, e => ¬ zRN kd sgn l9 r9 s e k ∨ (zRN kd sgn l9 r9 s e k ∧ ∃ f : Nat → UInt64, (∀ q, q < zCt (s (8 + k)) → f q = zXN kd sgn num l9 r9 s e k q) ∧ zWkx kd sgn num l9 r9 s k (va_up e (8 + k) f))
theorem zSfN_cg {kd num l9 r9 : Nat → Nat} {w : Nat → Nat → Nat} {s t : Nat → Nat} {k : Nat} (h1 : kd k = 1 → s (num k) = t (num k)) (h2 : 8 ≤ kd k → s (8 + l9 k) = t (8 + l9 k)) (h3 : 4 ≤ kd k → s (8 + r9 k) = t (8 + r9 k)) (h4 : (kd k = 0 ∨ kd k = 2 ∨ 10 < kd k) → s (8 + k) = t (8 + k)) : zSfN kd num l9 r9 w s k = zSfN kd num l9 r9 w t k := by
  unfold zSfN zSf
  by_cases a1 : kd k = 1
  · rw [if_pos a1, if_pos a1, h1 a1]
  rw [if_neg a1, if_neg a1]
  by_cases a2 : kd k = 3
  · rw [if_pos a2, if_pos a2]
  rw [if_neg a2, if_neg a2]
  by_cases a3 : kd k = 4 ∨ kd k = 7
  · rw [if_pos a3, if_pos a3, h3 (by omega)]
  rw [if_neg a3, if_neg a3]
  by_cases a4 : kd k = 5
  · rw [if_pos a4, if_pos a4, h3 (by omega)]
  rw [if_neg a4, if_neg a4]
  by_cases a5 : kd k = 6
  · rw [if_pos a5, if_pos a5, h3 (by omega)]
  rw [if_neg a5, if_neg a5]
  by_cases a6 : kd k = 8
  · rw [if_pos a6, if_pos a6, h3 (by omega), h2 (by omega)]
  rw [if_neg a6, if_neg a6]
  by_cases a7 : kd k = 9
  · rw [if_pos a7, if_pos a7, h3 (by omega), h2 (by omega)]
  rw [if_neg a7, if_neg a7]
  by_cases a8 : kd k = 10
  · rw [if_pos a8, if_pos a8, h3 (by omega), h2 (by omega)]
  rw [if_neg a8, if_neg a8, h4 (by omega)]
/-- the shapes that were found stand fast -/
theorem zShs_fix {nf : Nat → Nat → Int32} {lr : Nat → Nat → Option Nat} {kd sgn num l9 r9 : Nat → Nat} {w : Nat → Nat → Nat} {b : Nat} (hnk : ∀ k, k < b → zNok nf lr kd sgn num l9 r9 b k) : ∀ (i : Nat) (s : Nat → Nat), i ≤ b → (zShs kd num l9 r9 w i s).1 = 0 → (∀ j, (j < 8 ∨ 8 + i ≤ j) → (zShs kd num l9 r9 w i s).2 j = s j) ∧ ∀ k, k < i → zSfN kd num l9 r9 w (zShs kd num l9 r9 w i s).2 k = (0, (zShs kd num l9 r9 w i s).2 (8 + k)) := by
  intro i
  induction i with
  | zero => exact fun s _ _ => ⟨fun _ _ => rfl, fun k hk => absurd hk (Nat.not_lt_zero _)⟩
  | succ k ih =>
    intro s hi h0
    rw [zShs] at h0 ⊢
    by_cases hz : (zSfN kd num l9 r9 w s k).1 ≠ 0
    · rw [if_pos hz] at h0
      exact absurd h0 hz
    · rw [if_neg hz] at h0 ⊢
      obtain ⟨g1, g2⟩ := ih (va_up s (8 + k) (zSfN kd num l9 r9 w s k).2) (by omega) h0
      have e1 : (zShs kd num l9 r9 w k (va_up s (8 + k) (zSfN kd num l9 r9 w s k).2)).2 (8 + k) = (zSfN kd num l9 r9 w s k).2 := by rw [g1 _ (by omega), va_up_self]
      have e2 : ∀ j, (j < 8 ∨ 8 + k < j) → (zShs kd num l9 r9 w k (va_up s (8 + k) (zSfN kd num l9 r9 w s k).2)).2 j = s j := fun j hj => by rw [g1 j (by omega), va_up_ne _ _ (by omega)]
      refine ⟨fun j hj => e2 j (by omega), fun q hq => ?_⟩
      by_cases hqk : q = k
      · subst hqk
        obtain ⟨-, n2, -, -, -, -, n7, n8, n9, -⟩ := hnk q (by omega)
        have e3 : zSfN kd num l9 r9 w (zShs kd num l9 r9 w q (va_up s (8 + q) (zSfN kd num l9 r9 w s q).2)).2 q = zSfN kd num l9 r9 w s q := by
          refine zSfN_cg (fun h => e2 _ (by have := n7 h; omega)) (fun h => e2 _ (by have := (n8 h).2; omega)) (fun h => e2 _ (by have := (n9 h).2; omega)) (fun h => ?_)
          rw [e1]
          rcases h with h | h | h
          · unfold zSfN zSf; rw [h]; rfl
          · rw [zSfN_cst h]
          · omega
        rw [e3, e1]
        exact Prod.ext (Decidable.not_not.mp hz) rfl
      · exact g2 q (by omega)
theorem hd_X7_workOutAll : yX7_workOutAll.cls ≠ "java/lang/invoke/MethodHandle" ∧ yX7_workOutAll.cls ≠ "java/lang/invoke/VarHandle" ∧ (parseMethodDescriptor yX7_workOutAll.desc).map (fun d => d.parameters.length) = some 2 := by decide +kernel
set_option maxHeartbeats 4000000 in
set_option maxRecDepth 100000 in
theorem c_X7_workOutAll {l : Launch} (hl9 : l.stackTraces = false) {D : va_G} {ct : Nat → ClassId} {ad : Nat → Nat} (sc sg sh : Nat → Int32) (el : Nat → Nat → UInt64) (nf : Nat → Nat → Int32) (lr : Nat → Nat → Option Nat) (b : Nat) (hb9 : b ≤ 41) (hct : sc 4 = nI b) (kd sgn num l9 r9 : Nat → Nat) (w : Nat → Nat → Nat) (hnk : ∀ k, k < b → zNok nf lr kd sgn num l9 r9 b k) (s9 : Nat → Nat) (hs9 : ∀ j, j < 49 → sh j = nI (s9 j)) (ho9 : ∀ j, j < 49 → zOk (s9 j) = true) (hsf : ∀ k, k < b → zSfN kd num l9 r9 w s9 k = (0, s9 (8 + k))) (hnz : ∀ k, k < b → (4 ≤ kd k → kd (r9 k) ≠ 0) ∧ (8 ≤ kd k → kd (l9 k) ≠ 0)) (hrv : ∀ j, j < 8 → ∀ q, q < zCt (s9 j) → zRg (el j q) = true) (hrc : ∀ k, k < b → kd k = 2 → ∀ q, q < zCt (s9 (8 + k)) → zRg (el (8 + k) q) = true) : ar_M l yX7_workOutAll cX7_workOutAll 3 none 9 165 D ct (xL ad ct) [.ref (ad 4), .ref (ad 1)] (sc, sg, sh, el, nf, lr) (fun v9 u9 => ∃ e3 : Nat → Nat → UInt64, v9 = none ∧ zWks kd sgn num l9 r9 s9 b el e3 ∧ (∀ j, j < 8 → e3 j = el j) ∧ (∀ k, k < b → kd k ≠ 0 → ∀ q, q < zCt (s9 (8 + k)) → zRg (e3 (8 + k) q) = true) ∧ u9 = (sc, sg, sh, e3, nf, lr)) (fun E9 u9 => E9 = ARE ∧ zWkx kd sgn num l9 r9 s9 b el ∧ ∃ e3 : Nat → Nat → UInt64, (∀ j, j < 8 → e3 j = el j) ∧ u9 = (sc, sg, sh, e3, nf, lr)) := by
  refine ar_ofW hl9 (by decide) (Nat.le_of_ble_eq_true rfl) ?_
  intro p e s m below meth c A ls C hr hnm hW hl
  have hx := C.1
  have hb := C.2.1
  have hown := C.2.2.2.1
  have hts := C.2.2.2.2.1
  have hl : lv_has ls 3 [(0, .ref (ad 4)), (1, .ref (ad 1))] := hl
  refine lv_aload_n hx hb dX7_workOutAll_0 rfl (lv_at hl 0 rfl) ?_
  refine xg_count C hW q125 dX7_workOutAll_1 ?_
  refine ln_top (hct) ?_
  refine lv_iconst (v := nI 1) hx hb dX7_workOutAll_4 (by decide) ?_
  refine lv_isub hx hb dX7_workOutAll_5 ?_
  refine W.eq (g2 := F0 m 6 ls [.int (zPr b)]) rfl ?_
  refine lv_istore_n (lv' := [(2, .int (zPr b)), (0, .ref (ad 4)), (1, .ref (ad 1))]) hx hb dX7_workOutAll_6 rfl hl (by decide) rfl (fun ls hl => ?_)
  have lp : ∀ (N9 : Nat) (i : Nat) (e2 : Nat → Nat → UInt64) (H : Heap) (locs : List Loc) (ls : Array Slot), i < N9 → (i ≤ b) → (∀ e3, zWks kd sgn num l9 r9 s9 i e2 e3 → zWks kd sgn num l9 r9 s9 b el e3) → (zWkx kd sgn num l9 r9 s9 i e2 → zWkx kd sgn num l9 r9 s9 b el) → (∀ j, j < 8 → e2 j = el j) → (∀ k, i ≤ k → k < b → kd k ≠ 0 → ∀ q, q < zCt (s9 (8 + k)) → zRg (e2 (8 + k) q) = true) → (∀ k, k < b → kd k = 2 → ∀ q, q < zCt (s9 (8 + k)) → zRg (e2 (8 + k) q) = true) → ar_W D A s.heap H locs (xL ad ct (sc, sg, sh, e2, nf, lr)) → lv_has ls 3 [(0, .ref (ad 4)), (1, .ref (ad 1)), (2, .int (zPr i))] → W p l e (ar_rm 9 165) s m [.ref (ad 4), .ref (ad 1)].toArray below meth c H locs 0 0 (ar_E below (ar_Q D ct (xL ad ct) A (fun v9 u9 => ∃ e3 : Nat → Nat → UInt64, v9 = none ∧ zWks kd sgn num l9 r9 s9 b el e3 ∧ (∀ j, j < 8 → e3 j = el j) ∧ (∀ k, k < b → kd k ≠ 0 → ∀ q, q < zCt (s9 (8 + k)) → zRg (e3 (8 + k) q) = true) ∧ u9 = (sc, sg, sh, e3, nf, lr)) (fun E9 u9 => E9 = ARE ∧ zWkx kd sgn num l9 r9 s9 b el ∧ ∃ e3 : Nat → Nat → UInt64, (∀ j, j < 8 → e3 j = el j) ∧ u9 = (sc, sg, sh, e3, nf, lr))) [.ref (ad 4), .ref (ad 1)].toArray s) (F0 m 7 ls []) := by
    intro N9
    induction N9 with
    | zero =>
      intro i e2 H locs ls hN9
      exact absurd hN9 (Nat.not_lt_zero _)
    | succ N9 ihlp =>
      intro i e2 H locs ls hN9 hi hzz hzx hvv hrg hrd hW hl
      refine lv_iload_n hx hb dX7_workOutAll_7 rfl (lv_at hl 2 rfl) ?_
      refine lv_if_lt (tgt := 27) hx hb dX7_workOutAll_8 (by decide) (fun h1 => ?_) (fun h1 => ?_)
      · skip
        have hi0 := zPr_neg (by omega) h1
        subst hi0
        exact ar_vret C hr hW dX7_workOutAll_27 (⟨e2, rfl, hzz _ rfl, hvv, fun k hk => hrg k (by omega) hk, rfl⟩)
      · skip
        obtain ⟨k, rfl⟩ := zPr_pos h1
        rw [zPr_s] at hl
        have hnok := hnk k (by omega)
        obtain ⟨n1, n2, n3, n4, n5, n6, n7, n8, n9, n10⟩ := id hnok
        refine lv_aload_n hx hb dX7_workOutAll_11 rfl (lv_at hl 0 rfl) ?_
        refine xg_nodes C hW q123 dX7_workOutAll_12 ?_
        refine lv_iload_n hx hb dX7_workOutAll_15 rfl (lv_at hl 2 rfl) ?_
        refine xl_nodes (j := k) C hW (by omega) dX7_workOutAll_16 ?_
        refine lv_aload_n hx hb dX7_workOutAll_17 rfl (lv_at hl 1 rfl) ?_
        refine ar_callS (As := [.ref (ad (104 + k)), .ref (ad 1)]) (rest := []) C hW (c_X7_workOut hl9 sc sg sh e2 nf lr k (by omega) (kd k) n2 n1 (sgn k) n3 n10 (num k) n5 n7 (l9 k) (r9 k) (fun q => ⟨(n8 q).1, (n8 q).2.1, by have := (n8 q).2; omega⟩) (fun q => ⟨(n9 q).1, (n9 q).2.1, by have := (n9 q).2; omega⟩) s9 hs9 ho9 (decide (kd (l9 k) = 2)) (w (l9 k) 0) (w (l9 k) 1) (hsf k (by omega)) (fun h => hrg _ (by have := (n8 h).2; omega) (n8 h).2.2 ((hnz k (by omega)).2 h)) (fun h => hrg _ (by have := (n9 h).2; omega) (n9 h).2.2 ((hnz k (by omega)).1 h))) q517 q518 q20 q519 hd_X7_workOut ⟨Nat.le_of_ble_eq_true rfl, Nat.le_of_ble_eq_true rfl⟩ hl.1 (Nat.le_of_ble_eq_true rfl) rfl dX7_workOutAll_18 (fun E9 ce9 q9 u9 H locs hp hW h91 h92 h93 => ar_out C hW h91 h92 h93 (⟨hp.1, hzx (Or.inl hp.2.1), by obtain ⟨f, h66⟩ := hp.2.2; exact ⟨va_up e2 (8 + k) f, fun j hj => by rw [va_up_ne _ _ (by omega)]; exact hvv j hj, h66⟩⟩)) (fun v9 u9 H locs hp hW => ?_)
        obtain ⟨hR, f, rfl, hf, hu9⟩ := hp
        rw [hu9] at hW
        refine W.eq (g2 := F0 m 21 ls []) rfl ?_
        refine lv_iinc (k := 2) (v := zPr k) (lv' := [(2, .int (zPr k)), (0, .ref (ad 4)), (1, .ref (ad 1))]) hx hb dX7_workOutAll_21 hl rfl (zPr_d _) (by decide) rfl (fun ls hl => ?_)
        refine lv_goto (tgt := 7) hx hb dX7_workOutAll_24 (by decide) ?_
        exact ihlp k (va_up e2 (8 + k) f) _ _ _ (by omega) (by omega) (fun e9 h77 => hzz e9 ⟨hR, f, hf, h77⟩) (fun h77 => hzx (Or.inr ⟨hR, f, hf, h77⟩)) (fun j hj => by rw [va_up_ne _ _ (by omega)]; exact hvv j hj) (fun k7 hk7 hk8 hk0 q hq => by by_cases h77 : k7 = k; (subst h77; rw [va_up_self, hf q hq]; exact zXo_rg hk0 n2 (fun h => ho9 _ (by have := (n8 h).2; omega)) (fun h => ho9 _ (by have := (n9 h).2; omega)) (hsf k7 hk8) (fun h q2 hq2 => by rw [hvv _ (n7 h)]; exact hrv _ (n7 h) q2 hq2) (fun h => hrg _ (by have := (n8 h).2; omega) (n8 h).2.2 ((hnz k7 hk8).2 h)) (fun h => hrg _ (by have := (n9 h).2; omega) (n9 h).2.2 ((hnz k7 hk8).1 h)) (fun h => hrd k7 hk8 h) hR q hq); rw [va_up_ne _ _ (by omega)]; exact hrg k7 (by omega) hk8 hk0 q hq) (fun k7 hk8 hk2 q hq => by by_cases h77 : k7 = k; (subst h77; rw [va_up_self, hf q hq]; unfold zXo; rw [hk2]; exact hrd k7 hk8 hk2 q hq); rw [va_up_ne _ _ (by omega)]; exact hrd k7 hk8 hk2 q hq) (hW) (lv_sub hl [1, 2, 0] rfl)
  exact lp _ b el _ _ _ (Nat.lt_succ_self _) (Nat.le_refl _) (fun _ h77 => h77) (fun h77 => h77) (fun _ _ => rfl) (fun k h77 h78 => absurd h77 (by omega)) (hrc) (hW) (lv_sub hl [1, 2, 0] rfl)
