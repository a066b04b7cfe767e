theorem zJ_keep {n : Nat} {tx : Nat → Nat} {sc sg sh : Nat → Int32} {el : Nat → Nat → UInt64} {nf : Nat → Nat → Int32} {lr : Nat → Nat → Option Nat} {g : Nat → Int32} {a : Nat → Nat → Int32} {d : Nat → Nat → UInt64} {sc2 : Nat → Int32} {T : zXS} {u1 : MS} (hJ : zJ n tx (sc, sg, sh, el, nf, lr) (g, a, d)) (h1 : ∀ i, i < 3 → sc2 i = sc i) (h2 : zFv (sh, el, nf, lr) T) (h3 : zSo T.1) (h4 : zFz (g, a, d) u1) : zJ n tx (sc2, sg, T.1, T.2.1, T.2.2.1, T.2.2.2) u1 := by
  obtain ⟨⟨j1, j2, j3, j4⟩, ⟨k1, k2, k3⟩, m1, m2⟩ := hJ
  obtain ⟨f1, f2, f3⟩ := h4
  refine ⟨⟨j1, (h1 2 (by decide)).trans j2, (f3 1 (by decide)).trans j3, fun j hj => ?_⟩, ⟨h3, fun j hj => ?_, fun j hj q hq => ?_⟩, (h1 0 (by decide)).trans (m1.trans (f3 24 (by decide)).symm), (h1 1 (by decide)).trans (m2.trans (f3 25 (by decide)).symm)⟩
  · have := j4 j hj
    exact ⟨this.1, (congrFun (f1 1 (by decide)) j).trans this.2.1, this.2.2⟩
  · exact (congrFun (f1 2 (by decide)) j).trans ((k2 j hj).trans (h2 j hj).1.symm)
  · have e1 : T.1 j = sh j := (h2 j hj).1
    have e2 : T.2.1 j = el j := (h2 j hj).2
    have hq : q < zCt (zSN T.1 j) := hq
    rw [zSN_eq e1] at hq
    have := k3 j hj q hq
    show u1.2.2 3 (24 * j + q) = T.2.1 j q ∧ zRg (T.2.1 j q) = true
    rw [e2, f2]
    exact this
theorem zFz_26 {g : Nat → Int32} {a : Nat → Nat → Int32} {d : Nat → Nat → UInt64} {y : Int32} : zFz (g, a, d) (va_up g 26 y, a, d) := ⟨fun _ _ => rfl, rfl, fun k hk => va_up_ne g y (by omega)⟩
theorem zj_run {n : Nat} {tx : Nat → Nat} {sc sg sh : Nat → Int32} {el : Nat → Nat → UInt64} {nf : Nat → Nat → Int32} {lr : Nat → Nat → Option Nat} {g : Nat → Int32} {a : Nat → Nat → Int32} {d : Nat → Nat → UInt64} {v : Int32} {v8 w8 : Option Value} {x1 : XS} {u1 : MS} {f0 f1 : Nat → Int64} (hJ : zJ n tx (sc, sg, sh, el, nf, lr) (g, a, d)) (h8 : (∃ r : Int32, (fun (v9 : Option Value) (u9 : XS) => ∃ (t : zTr) (j : Nat) (sc2 : Nat → Int32) (T : zXS), v = nI j ∧ j < 8 ∧ zTree (zCh tx n) n = some t ∧ (zTs (zSN sh) t).1 = 0 ∧ zTg (zSN sh) el t ∧ v9 = some (.int (nI (zCt (zTs (zSN sh) t).2))) ∧ sc2 0 = nI ((if zMr t = true then 0 else 1) + zAr t) ∧ sc2 1 = sc 1 + nI 1 ∧ sc2 2 = sc 2 ∧ (∀ i, i < 8 → i ≠ j → T.1 i = sh i ∧ T.2.1 i = el i) ∧ T.1 j = nI (zTs (zSN sh) t).2 ∧ zOk (zTs (zSN sh) t).2 = true ∧ (∀ q, q < zCt (zTs (zSN sh) t).2 → T.2.1 j q = zTx (zSN sh) el t q ∧ zRg (zTx (zSN sh) el t q) = true) ∧ zSo T.1 ∧ u9 = (sc2, sg, T.1, T.2.1, T.2.2.1, T.2.2.2)) (some (.int r)) x1 ∧ f1 = vp_updL f0 0 r.toInt64 ∧ v8 = some (.int (nI 0))) ∨ (∃ E : String, E ∈ [IOB, IAE, ISE, UOE, ARE] ∧ (fun (E9 : String) (u9 : XS) => ((E9 = IOB ∧ vOk v = false) ∨ (vOk v = true ∧ ((E9 = IAE ∧ zTree (zCh tx n) n = none) ∨ (∃ t : zTr, zTree (zCh tx n) n = some t ∧ (zTs (zSN sh) t).1 ≠ 0 ∧ E9 = zEc (zTs (zSN sh) t).1) ∨ (∃ t : zTr, zTree (zCh tx n) n = some t ∧ (zTs (zSN sh) t).1 = 0 ∧ ¬ zTg (zSN sh) el t ∧ E9 = ARE)))) ∧ ∃ (sc2 : Nat → Int32) (T : zXS), (∀ i, i < 3 → sc2 i = sc i) ∧ zFv (sh, el, nf, lr) T ∧ zSo T.1 ∧ u9 = (sc2, sg, T.1, T.2.1, T.2.2.1, T.2.2.2)) E x1 ∧ f1 = f0 ∧ v8 = some (.int (nI (zHr E))))) (h9 : (fun (v9 : Option Value) (u9 : MS) => (vOk v = false ∧ v9 = some (.int (nI 0)) ∧ u9 = (va_up g 26 (nI 1), a, d)) ∨ (∃ e : Nat, vOk v = true ∧ e ≠ 0 ∧ zCd (zSN sh) (fun j q => d 3 (24 * j + q)) (zTree (zCh tx n) n) e ∧ v9 = some (.int (nI 0)) ∧ u9.1 26 = nI (1 + e) ∧ zFz (g, a, d) u9) ∨ (∃ (t : zTr) (j9 : Nat), v = nI j9 ∧ j9 < 8 ∧ zTree (zCh tx n) n = some t ∧ (zTs (zSN sh) t).1 = 0 ∧ zTg (zSN sh) (fun j q => d 3 (24 * j + q)) t ∧ v9 = some (.int (nI (zCt (zTs (zSN sh) t).2))) ∧ u9.1 26 = nI 0 ∧ u9.1 24 = nI (zAr t + if zMr t = true then 0 else 1) ∧ u9.1 25 = g 25 + nI 1 ∧ u9.1 1 = g 1 ∧ u9.2.1 1 = a 1 ∧ (∀ i, i < 8 → i ≠ j9 → u9.2.1 2 i = a 2 i) ∧ u9.2.1 2 j9 = nI (zTs (zSN sh) t).2 ∧ (∀ i, i < 8 → i ≠ j9 → ∀ q, q < 24 → u9.2.2 3 (24 * i + q) = d 3 (24 * i + q)) ∧ (∀ q, q < zCt (zTs (zSN sh) t).2 → u9.2.2 3 (24 * j9 + q) = zTx (zSN sh) (fun j q => d 3 (24 * j + q)) t q))) w8 u1) : ∃ (k : Nat) (b : Int32), k < 10 ∧ v8 = some (.int (nI k)) ∧ w8 = some (.int b) ∧ u1.1 26 = nI k ∧ (k = 0 → f1 0 = b.toInt64) ∧ ∃ n2 tx2, zJ n2 tx2 x1 u1 := by
  have hvs := zJ_vs hJ
  have hsv : ∀ j, j < 8 → zOk (zSN sh j) = true := hvs.2.2.2.2
  have hxy : ∀ j, j < 8 → ∀ q, q < zCt (zSN sh j) → el j q = (fun j q => d 3 (24 * j + q)) j q := fun j hj q hq => (hJ.2.1.2.2 j hj q hq).1.symm
  have hyx : ∀ j, j < 8 → ∀ q, q < zCt (zSN sh j) → (fun j q => d 3 (24 * j + q)) j q = el j q := fun j hj q hq => (hJ.2.1.2.2 j hj q hq).1
  rcases h8 with ⟨r, ⟨t, j, sc2, T, rfl, hj, hZ, hz, hg, hr9, hm, hrn, hln, hoth, hTj, hok, hel, hso, rfl⟩, rfl, rfl⟩ | ⟨E, hE, ⟨hc, sc2, T, hsc, hfv, hso, rfl⟩, rfl, rfl⟩
  · have hwf := zTree_wf hZ
    rcases h9 with ⟨h1, -, -⟩ | ⟨e, -, -, h1, -, -, -⟩ | ⟨t2, j2, h0, hj2, hZ2, hz2, hg2, rfl, h26, h24, h25, hl1, ha1, hao, haj, hdo, hdj⟩
    · rw [vOk_lt hj] at h1; cases h1
    · rcases h1 with ⟨h1, -⟩ | ⟨t2, h1, h2, -⟩ | ⟨t2, h1, h2, h3, -⟩
      · rw [hZ] at h1; cases h1
      · rw [hZ] at h1; cases h1; exact absurd hz h2
      · rw [hZ] at h1; cases h1; exact absurd ((zTx_cg hsv hxy t hwf hz).2 hg) h3
    · cases (nI_eq (by omega) (by omega)).mp h0
      rw [hZ] at hZ2
      cases hZ2
      cases hr9
      refine ⟨0, _, by decide, rfl, rfl, h26, fun _ => rfl, n, tx, ⟨hJ.1.1, hln.trans hJ.1.2.1, hl1.trans hJ.1.2.2.1, fun i hi => ?_⟩, ⟨hso, fun i hi => ?_, fun i hi q hq => ?_⟩, ?_, ?_⟩
      · have := hJ.1.2.2.2 i hi
        exact ⟨this.1, (congrFun ha1 i).trans this.2.1, this.2.2⟩
      · by_cases hij : i = j
        · subst hij; exact haj.trans hTj.symm
        · exact (hao i hi hij).trans ((hJ.2.1.2.1 i hi).trans (hoth i hi hij).1.symm)
      · show u1.2.2 3 (24 * i + q) = T.2.1 i q ∧ zRg (T.2.1 i q) = true
        have hq : q < zCt (zSN T.1 i) := hq
        by_cases hij : i = j
        · subst hij
          have e1 : zSN T.1 i = (zTs (zSN sh) t).2 := by unfold zSN; rw [hTj, nI_clamp (by have := (zOk_num hok).1; omega)]; rfl
          rw [e1] at hq
          rw [hdj q hq, (hel q hq).1]
          exact ⟨(zTx_cg hsv hyx t hwf hz).1 q hq, (hel q hq).2⟩
        · have e1 := hoth i hi hij
          rw [zSN_eq e1.1] at hq
          have h24' : zCt (zSN sh i) ≤ 24 := (hvs.2.2.2.1 i hi).2
          rw [hdo i hi hij q (by omega), e1.2]
          exact hJ.2.1.2.2 i hi q hq
      · exact hm.trans (by rw [h24, Nat.add_comm])
      · exact hrn.trans ((congrArg (fun z => z + nI 1) hJ.2.2.2).trans h25.symm)
  · rcases hc with ⟨rfl, hv⟩ | ⟨hv, hc⟩
    · rcases h9 with ⟨-, rfl, rfl⟩ | ⟨e, h1, -, -, -, -, -⟩ | ⟨t2, j2, rfl, hj2, -⟩
      · exact ⟨1, _, by decide, rfl, rfl, va_up_self g 26 (nI 1), fun q => by omega, n, tx, zJ_keep hJ hsc hfv hso zFz_26⟩
      · rw [hv] at h1; cases h1
      · rw [vOk_lt hj2] at hv; cases hv
    · have hkey : ∀ k : Nat, k ≠ 0 → k < 10 → zHr E = k → (∀ e : Nat, zCd (zSN sh) (fun j q => d 3 (24 * j + q)) (zTree (zCh tx n) n) e → 1 + e = k) → (∀ t2 : zTr, zTree (zCh tx n) n = some t2 → (zTs (zSN sh) t2).1 = 0 → ¬ zTg (zSN sh) (fun j q => d 3 (24 * j + q)) t2) → ∃ (k : Nat) (b : Int32), k < 10 ∧ some (Value.int (nI (zHr E))) = some (.int (nI k)) ∧ w8 = some (.int b) ∧ u1.1 26 = nI k ∧ (k = 0 → f1 0 = b.toInt64) ∧ ∃ n2 tx2, zJ n2 tx2 (sc2, sg, T.1, T.2.1, T.2.2.1, T.2.2.2) u1 := by
        intro k hk0 hk10 hk hcd hno
        rcases h9 with ⟨h1, -, -⟩ | ⟨e, -, he0, h1, rfl, h26, hfz⟩ | ⟨t2, j2, -, -, hZ2, hz2, hg2, -⟩
        · rw [hv] at h1; cases h1
        · exact ⟨k, _, hk10, by rw [hk], rfl, by rw [h26, hcd e h1], fun q => absurd q hk0, n, tx, zJ_keep hJ hsc hfv hso hfz⟩
        · exact absurd hg2 (hno t2 hZ2 hz2)
      rcases hc with ⟨rfl, hZ⟩ | ⟨t, hZ, hz, rfl⟩ | ⟨t, hZ, hz, hg, rfl⟩
      · refine hkey 2 (by decide) (by decide) (by decide) (fun e h1 => ?_) (fun t2 h1 => by rw [hZ] at h1; cases h1)
        rcases h1 with ⟨-, h2⟩ | ⟨t2, h1, -⟩ | ⟨t2, h1, -⟩
        · omega
        · rw [hZ] at h1; cases h1
        · rw [hZ] at h1; cases h1
      · have hle := zTs_le (sv := zSN sh) t
        refine hkey (2 + (zTs (zSN sh) t).1) (by omega) (by omega) ?_ (fun e h1 => ?_) (fun t2 h1 h2 => by rw [hZ] at h1; cases h1; exact absurd h2 hz)
        · obtain ⟨z, hz9⟩ : ∃ z, z = (zTs (zSN sh) t).1 := ⟨_, rfl⟩
          rw [← hz9] at hz hle ⊢
          rcases (show z = 1 ∨ z = 2 by omega) with rfl | rfl <;> decide
        · rcases h1 with ⟨h1, -⟩ | ⟨t2, h1, -, h2⟩ | ⟨t2, h1, h2, -⟩
          · rw [hZ] at h1; cases h1
          · rw [hZ] at h1; cases h1; omega
          · rw [hZ] at h1; cases h1; exact absurd h2 hz
      · refine hkey 5 (by decide) (by decide) (by decide) (fun e h1 => ?_) (fun t2 h1 h2 h3 => by rw [hZ] at h1; cases h1; exact hg ((zTx_cg hsv hyx t (zTree_wf hZ) hz).2 h3))
        rcases h1 with ⟨h1, -⟩ | ⟨t2, h1, h2, -⟩ | ⟨t2, h1, -, -, h2⟩
        · rw [hZ] at h1; cases h1
        · rw [hZ] at h1; cases h1; exact absurd hz h2
        · omega
theorem zj_look {n : Nat} {tx : Nat → Nat} {sc sg sh : Nat → Int32} {el : Nat → Nat → UInt64} {nf : Nat → Nat → Int32} {lr : Nat → Nat → Option Nat} {g : Nat → Int32} {a : Nat → Nat → Int32} {d : Nat → Nat → UInt64} {v8 w8 : Option Value} {x1 : XS} {u1 : MS} {f0 f1 : Nat → Int64} (hJ : zJ n tx (sc, sg, sh, el, nf, lr) (g, a, d)) (h8 : (∃ r : Int32, (fun (v9 : Option Value) (u9 : XS) => (∃ t : zTr, zTree (zCh tx n) n = some t ∧ (zTs (zSN sh) t).1 = 0 ∧ v9 = some (.int (nI (zTs (zSN sh) t).2))) ∧ ∃ (sc2 : Nat → Int32) (T : zXS), (∀ i, i < 3 → sc2 i = sc i) ∧ zFv (sh, el, nf, lr) T ∧ zSo T.1 ∧ u9 = (sc2, sg, T.1, T.2.1, T.2.2.1, T.2.2.2)) (some (.int r)) x1 ∧ f1 = vp_updL f0 0 r.toInt64 ∧ v8 = some (.int (nI 0))) ∨ (∃ E : String, E ∈ [IAE, ISE, UOE] ∧ (fun (E9 : String) (u9 : XS) => ((E9 = IAE ∧ zTree (zCh tx n) n = none) ∨ ∃ t : zTr, zTree (zCh tx n) n = some t ∧ (zTs (zSN sh) t).1 ≠ 0 ∧ E9 = zEc (zTs (zSN sh) t).1) ∧ ∃ (sc2 : Nat → Int32) (T : zXS), (∀ i, i < 3 → sc2 i = sc i) ∧ zFv (sh, el, nf, lr) T ∧ zSo T.1 ∧ u9 = (sc2, sg, T.1, T.2.1, T.2.2.1, T.2.2.2)) E x1 ∧ f1 = f0 ∧ v8 = some (.int (nI (zHl E))))) (h9 : (fun (v9 : Option Value) (u9 : MS) => (∃ e : Nat, e ≠ 0 ∧ e < 4 ∧ zCd (zSN sh) (fun j q => d 3 (24 * j + q)) (zTree (zCh tx n) n) e ∧ v9 = some (.int (nI 0)) ∧ u9.1 26 = nI e ∧ zFz (g, a, d) u9) ∨ (∃ t : zTr, zTree (zCh tx n) n = some t ∧ (zTs (zSN sh) t).1 = 0 ∧ v9 = some (.int (nI (zTs (zSN sh) t).2)) ∧ u9.1 26 = nI 0 ∧ zFz (g, a, d) u9)) w8 u1) : ∃ (k : Nat) (b : Int32), k < 10 ∧ v8 = some (.int (nI k)) ∧ w8 = some (.int b) ∧ u1.1 26 = nI k ∧ (k = 0 → f1 0 = b.toInt64) ∧ ∃ n2 tx2, zJ n2 tx2 x1 u1 := by
  have hvs := zJ_vs hJ
  have hsv : ∀ j, j < 8 → zOk (zSN sh j) = true := hvs.2.2.2.2
  have hxy : ∀ j, j < 8 → ∀ q, q < zCt (zSN sh j) → el j q = (fun j q => d 3 (24 * j + q)) j q := fun j hj q hq => (hJ.2.1.2.2 j hj q hq).1.symm
  have hyx : ∀ j, j < 8 → ∀ q, q < zCt (zSN sh j) → (fun j q => d 3 (24 * j + q)) j q = el j q := fun j hj q hq => (hJ.2.1.2.2 j hj q hq).1
  rcases h8 with ⟨r, ⟨⟨t, hZ, hz, hr9⟩, sc2, T, hsc, hfv, hso, rfl⟩, rfl, rfl⟩ | ⟨E, hE, ⟨hc, sc2, T, hsc, hfv, hso, rfl⟩, rfl, rfl⟩
  · rcases h9 with ⟨e, -, he4, h1, -, -, -⟩ | ⟨t2, hZ2, hz2, rfl, h26, hfz⟩
    · rcases h1 with ⟨h1, -⟩ | ⟨t2, h1, h2, -⟩ | ⟨t2, h1, h2, h3, h4⟩
      · rw [hZ] at h1; cases h1
      · rw [hZ] at h1; cases h1; exact absurd hz h2
      · omega
    · rw [hZ] at hZ2
      cases hZ2
      cases hr9
      exact ⟨0, _, by decide, rfl, rfl, h26, fun _ => rfl, n, tx, zJ_keep hJ hsc hfv hso hfz⟩
  · have hkey : ∀ k : Nat, k ≠ 0 → k < 10 → zHl E = k → (∀ e : Nat, e < 4 → zCd (zSN sh) (fun j q => d 3 (24 * j + q)) (zTree (zCh tx n) n) e → e = k) → (∀ t2 : zTr, zTree (zCh tx n) n = some t2 → ¬ (zTs (zSN sh) t2).1 = 0) → ∃ (k : Nat) (b : Int32), k < 10 ∧ some (Value.int (nI (zHl E))) = some (.int (nI k)) ∧ w8 = some (.int b) ∧ u1.1 26 = nI k ∧ (k = 0 → f1 0 = b.toInt64) ∧ ∃ n2 tx2, zJ n2 tx2 (sc2, sg, T.1, T.2.1, T.2.2.1, T.2.2.2) u1 := by
      intro k hk0 hk10 hk hcd hno
      rcases h9 with ⟨e, he0, he4, h1, rfl, h26, hfz⟩ | ⟨t2, hZ2, hz2, -⟩
      · exact ⟨k, _, hk10, by rw [hk], rfl, by rw [h26, hcd e he4 h1], fun q => absurd q hk0, n, tx, zJ_keep hJ hsc hfv hso hfz⟩
      · exact absurd hz2 (hno t2 hZ2)
    rcases hc with ⟨rfl, hZ⟩ | ⟨t, hZ, hz, rfl⟩
    · refine hkey 1 (by decide) (by decide) (by decide) (fun e he h1 => ?_) (fun t2 h1 => by rw [hZ] at h1; cases h1)
      rcases h1 with ⟨-, h2⟩ | ⟨t2, h1, -⟩ | ⟨t2, h1, -⟩
      · omega
      · rw [hZ] at h1; cases h1
      · rw [hZ] at h1; cases h1
    · have hle := zTs_le (sv := zSN sh) t
      refine hkey (1 + (zTs (zSN sh) t).1) (by omega) (by omega) ?_ (fun e he h1 => ?_) (fun t2 h1 h2 => by rw [hZ] at h1; cases h1; exact absurd h2 hz)
      · obtain ⟨z, hz9⟩ : ∃ z, z = (zTs (zSN sh) t).1 := ⟨_, rfl⟩
        rw [← hz9] at hz hle ⊢
        rcases (show z = 1 ∨ z = 2 by omega) with rfl | rfl <;> decide
      · rcases h1 with ⟨h1, -⟩ | ⟨t2, h1, -, h2⟩ | ⟨t2, h1, h2, -⟩
        · rw [hZ] at h1; cases h1
        · rw [hZ] at h1; cases h1; omega
        · rw [hZ] at h1; cases h1; exact absurd h2 hz
