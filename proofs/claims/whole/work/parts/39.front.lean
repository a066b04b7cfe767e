/-- what a front gives -/
def zFt (x c : Nat) (oo : Bool) (ar s : Nat) (y : Nat → UInt64) (u w : zM3) : Prop :=
  (∀ e, zFm e u w) ∧ w.2.1 = u.2.1 ∧ w.1 23 = u.1 23 ∧ w.1 22 = nI (ar + if x = 4 then 0 else 1) ∧ ∃ b : Bool, w.1 21 = bI b ∧ (b = false ↔ oo = false ∧ zRo x c 0 s (zSf x 0 (fun _ => 0) 0 s 0 false 0 0).2 (fun _ => 0) y) ∧ zVl (w.1 15) (w.1 17) (w.1 19) (w.2.2 8) b (zSf x 0 (fun _ => 0) 0 s 0 false 0 0).2 (zXo x c 0 s (fun _ => 0) (fun _ => 0) y (fun _ => 0)) none (zMk x)
theorem zFm_g {g w1 : Nat → Int32} {a : Nat → Nat → Int32} {d e : Nat → Nat → UInt64} {dp : Nat} (h : ∀ k, (k < 15 ∨ 23 < k) → w1 k = g k) (h3 : e 3 = d 3) (h10 : e 10 = d 10) : zFm dp (g, a, d) (w1, a, e) := ⟨fun _ _ _ => rfl, h3, h, fun _ _ => ⟨rfl, rfl, fun _ _ => congrFun h10 _⟩⟩
section FT
variable {g : Nat → Int32} {a : Nat → Nat → Int32} {d : Nat → Nat → UInt64} {ar s c : Nat} {oo mk : Bool} {y : Nat → UInt64} {cv : Option (List Nat)}
theorem zFt_4 {f : Nat → UInt64} (hp : zVl (g 15) (g 17) (g 19) (d 8) oo s y cv mk) (hoo : g 21 = bI oo) (har : g 22 = nI ar) (hf : ∀ q, q < zCt s → f q = FP.dneg (d 8 q)) : zFt 4 c oo ar s y (g, a, d) (va_up (va_up g 17 (nI 0)) 19 (nI 0), a, va_up d 8 f) := by
  obtain ⟨h1, h2, h3, h4, h5, h6⟩ := hp
  refine ⟨fun e => zFm_g (fun k hk => by rw [va_up_ne _ _ (by omega), va_up_ne _ _ (by omega)]) (va_up_ne _ _ (by decide)) (va_up_ne _ _ (by decide)), rfl, rfl, har, oo, hoo, ⟨fun q => ⟨q, ⟨fun q2 => absurd q2 (by decide), fun q2 => absurd q2 (by decide)⟩⟩, fun q => q.1⟩, zVl_n h1 h2 (fun ho q hq => ?_) rfl rfl⟩
  have hq : q < zCt s := hq
  have e8 : va_up d 8 f 8 q = f q := congrFun (va_up_self d 8 f) q
  show va_up d 8 f 8 q = FP.dneg (y q) ∧ zRg (FP.dneg (y q)) = true
  rw [e8, hf q hq, (h3 ho q hq).1]
  exact ⟨rfl, zRg_neg (h3 ho q hq).2⟩
theorem zFt_5 {f h : Nat → UInt64} (hp : zVl (g 15) (g 17) (g 19) (d 8) oo s y cv mk) (hoo : g 21 = bI oo) (hf : ∀ q, q < zCt s → f q = d 8 (zTq s q)) : zFt 5 c oo ar s y (g, a, d) (va_up (va_up (va_up (va_up g 17 (nI 0)) 19 (nI 1)) 22 (nI (ar + 1))) 15 (nI (zTrn s)), a, va_up (va_up d 9 h) 8 f) := by
  obtain ⟨h1, h2, h3, h4, h5, h6⟩ := hp
  refine ⟨fun e => zFm_g (fun k hk => by rw [va_up_ne _ _ (by omega), va_up_ne _ _ (by omega), va_up_ne _ _ (by omega), va_up_ne _ _ (by omega)]) (by rw [va_up_ne _ _ (by decide), va_up_ne _ _ (by decide)]) (by rw [va_up_ne _ _ (by decide), va_up_ne _ _ (by decide)]), rfl, rfl, rfl, oo, hoo, ⟨fun q => ⟨q, ⟨fun q2 => absurd q2 (by decide), fun q2 => absurd q2 (by decide)⟩⟩, fun q => q.1⟩, zVl_n rfl (zTrn_ok h2) (fun ho q hq => ?_) rfl rfl⟩
  have hq : q < zCt (zTrn s) := hq
  rw [zCt_trn h2] at hq
  have e8 : va_up (va_up d 9 h) 8 f 8 q = f q := congrFun (va_up_self (va_up d 9 h) 8 f) q
  show va_up (va_up d 9 h) 8 f 8 q = y (zTq s q) ∧ zRg (y (zTq s q)) = true
  rw [e8, hf q hq]
  exact h3 ho _ (zTq_lt h2 hq)
theorem zAl_R {b : Bool} {f : Nat → UInt64} (h2 : zOk s = true) (h3 : oo = false → ∀ q, q < zCt s → d 8 q = y q ∧ zRg (y q) = true) (hli : zLi oo b (zCt s) (zCt s) f (fun q => zAcc c (fun z => d 8 (q / zLg s * zLg s + z)) (q % zLg s))) : (oo = false → ∀ q, q < zCt s → zAcc c (fun z => d 8 (q / zLg s * zLg s + z)) (q % zLg s) = zAcc c (fun z => y (q / zLg s * zLg s + z)) (q % zLg s)) ∧ (b = false ↔ oo = false ∧ ∀ i, i < zLn s → ∀ j, j < zLg s → zRg (zAcc c (fun z => y (i * zLg s + z)) j) = true) := by
  have hd := zOk_d h2
  have key : oo = false → ∀ q, q < zCt s → zAcc c (fun z => d 8 (q / zLg s * zLg s + z)) (q % zLg s) = zAcc c (fun z => y (q / zLg s * zLg s + z)) (q % zLg s) := fun ho q hq => zRow_cg (fun q hq => (h3 ho q hq).1) (Nat.div_lt_of_lt_mul (by rw [Nat.mul_comm]; exact hq)) (Nat.mod_lt _ (by omega))
  refine ⟨key, fun hb => ?_, fun hb => ?_⟩
  · have ho := zLi_oo hli hb
    refine ⟨ho, fun i hi j hj => ?_⟩
    have hq : i * zLg s + j < zCt s := zIx hi hj
    have h9 : zRg (zAcc c (fun z => d 8 ((i * zLg s + j) / zLg s * zLg s + z)) ((i * zLg s + j) % zLg s)) = true := (hli.2.1 hb _ hq).2
    have e1 : (i * zLg s + j) / zLg s = i := by rw [Nat.mul_comm, Nat.mul_add_div (by omega), Nat.div_eq_of_lt hj, Nat.add_zero]
    have e2 : (i * zLg s + j) % zLg s = j := by rw [Nat.mul_comm, Nat.mul_add_mod]; exact Nat.mod_eq_of_lt hj
    have h8 := key ho _ hq
    rw [e1, e2] at h8 h9
    rw [← h8]
    exact h9
  · cases b
    · rfl
    · exfalso
      rcases hli.2.2 rfl with q | ⟨q, q1, q2⟩
      · rw [hb.1] at q; cases q
      · have h9 := hb.2 (q / zLg s) (Nat.div_lt_of_lt_mul (by rw [Nat.mul_comm]; exact q1)) (q % zLg s) (Nat.mod_lt _ (by omega))
        rw [← key hb.1 q q1] at h9
        rw [h9] at q2
        cases q2
theorem zFt_7 {b : Bool} {f h : Nat → UInt64} (hp : zVl (g 15) (g 17) (g 19) (d 8) oo s y cv mk) (hli : zLi oo b (zCt s) (zCt s) f (fun q => zAcc c (fun z => d 8 (q / zLg s * zLg s + z)) (q % zLg s))) (hh : h = f) : zFt 7 c oo ar s y (g, a, d) (va_up (va_up (va_up (va_up (va_up g 17 (nI 0)) 19 (nI 1)) 22 (nI (ar + 1))) 21 (bI b)) 15 (nI s), a, va_up d 8 h) := by
  obtain ⟨h1, h2, h3, h4, h5, h6⟩ := hp
  subst hh
  obtain ⟨r1, r2⟩ := zAl_R h2 h3 hli
  refine ⟨fun e => zFm_g (fun k hk => by rw [va_up_ne _ _ (by omega), va_up_ne _ _ (by omega), va_up_ne _ _ (by omega), va_up_ne _ _ (by omega), va_up_ne _ _ (by omega)]) (va_up_ne _ _ (by decide)) (va_up_ne _ _ (by decide)), rfl, rfl, rfl, b, rfl, ⟨fun q => ⟨(r2.mp q).1, fun _ => (r2.mp q).2, fun q2 => absurd q2 (by decide)⟩, fun q => r2.mpr ⟨q.1, q.2.1 (by decide)⟩⟩, zVl_n rfl h2 (fun hb q hq => ?_) rfl rfl⟩
  have hq : q < zCt s := hq
  have e8 : va_up d 8 h 8 q = h q := congrFun (va_up_self d 8 h) q
  show va_up d 8 h 8 q = zAcc c (fun z => y (q / zLg s * zLg s + z)) (q % zLg s) ∧ zRg (zAcc c (fun z => y (q / zLg s * zLg s + z)) (q % zLg s)) = true
  rw [e8, ← r1 (zLi_oo hli hb) q hq]
  exact hli.2.1 hb q hq
theorem zFt_6 {b : Bool} {f h : Nat → UInt64} (hp : zVl (g 15) (g 17) (g 19) (d 8) oo s y cv mk) (hli : zLi oo b (zCt s) (zCt s) f (fun q => zAcc c (fun z => d 8 (q / zLg s * zLg s + z)) (q % zLg s))) (hh : ∀ q, q < zLn s → h q = f (zLg s * q + zLg s - 1)) : zFt 6 c oo ar s y (g, a, d) (va_up (va_up (va_up (va_up (va_up g 17 (nI 0)) 19 (nI 1)) 22 (nI (ar + 1))) 21 (bI b)) 15 (nI (zRed s)), a, va_up d 8 h) := by
  obtain ⟨h1, h2, h3, h4, h5, h6⟩ := hp
  obtain ⟨r1, r2⟩ := zAl_R h2 h3 hli
  have hd := zOk_d h2
  refine ⟨fun e => zFm_g (fun k hk => by rw [va_up_ne _ _ (by omega), va_up_ne _ _ (by omega), va_up_ne _ _ (by omega), va_up_ne _ _ (by omega), va_up_ne _ _ (by omega)]) (va_up_ne _ _ (by decide)) (va_up_ne _ _ (by decide)), rfl, rfl, rfl, b, rfl, ⟨fun q => ⟨(r2.mp q).1, fun _ => (r2.mp q).2, fun q2 => absurd q2 (by decide)⟩, fun q => r2.mpr ⟨q.1, q.2.1 (by decide)⟩⟩, zVl_n rfl (zRed_ok h2) (fun hb q hq => ?_) rfl rfl⟩
  have hq : q < zCt (zRed s) := hq
  rw [zCt_red h2] at hq
  have e8 : va_up d 8 h 8 q = h q := congrFun (va_up_self d 8 h) q
  have hi : q * zLg s + (zLg s - 1) < zCt s := zIx hq (by omega)
  have ei : zLg s * q + zLg s - 1 = q * zLg s + (zLg s - 1) := by rw [Nat.mul_comm]; omega
  have e1 : (q * zLg s + (zLg s - 1)) / zLg s = q := by rw [Nat.mul_comm, Nat.mul_add_div (by omega), Nat.div_eq_of_lt (show zLg s - 1 < zLg s by omega), Nat.add_zero]
  have e2 : (q * zLg s + (zLg s - 1)) % zLg s = zLg s - 1 := by rw [Nat.mul_comm, Nat.mul_add_mod]; exact Nat.mod_eq_of_lt (by omega)
  have k1 : f (q * zLg s + (zLg s - 1)) = zAcc c (fun z => d 8 ((q * zLg s + (zLg s - 1)) / zLg s * zLg s + z)) ((q * zLg s + (zLg s - 1)) % zLg s) ∧ zRg (zAcc c (fun z => d 8 ((q * zLg s + (zLg s - 1)) / zLg s * zLg s + z)) ((q * zLg s + (zLg s - 1)) % zLg s)) = true := hli.2.1 hb _ hi
  have k2 := r1 (zLi_oo hli hb) _ hi
  rw [k2] at k1
  rw [e1, e2] at k1
  show va_up d 8 h 8 q = zAcc c (fun z => y (q * zLg s + z)) (zLg s - 1) ∧ zRg (zAcc c (fun z => y (q * zLg s + z)) (zLg s - 1)) = true
  rw [e8, hh q hq, ei]
  exact k1
end FT
theorem hd_X9_front : yX9_front.cls ≠ "java/lang/invoke/MethodHandle" ∧ yX9_front.cls ≠ "java/lang/invoke/VarHandle" ∧ (parseMethodDescriptor yX9_front.desc).map (fun d => d.parameters.length) = some 1 := by decide +kernel
set_option maxHeartbeats 4000000 in
set_option maxRecDepth 100000 in
theorem c_X9_front {l : Launch} (hl9 : l.stackTraces = false) {D : va_G} {ct : Nat → ClassId} {ad : Nat → Nat} (g : Nat → Int32) (a : Nat → Nat → Int32) (d : Nat → Nat → UInt64) (t : Nat) (ht : t < 40) (x9 ch : Nat) (hx4 : x9 = 4 ∨ x9 = 5 ∨ x9 = 6 ∨ x9 = 7) (hcs : (x9 = 6 ∨ x9 = 7) → zSg ch) (hch : ch < 200) (hk4 : a 4 t = nI (if x9 = 6 then 8 else if x9 = 7 then 9 else 7)) (hk5 : a 5 t = nI (if x9 = 4 then 45 else if x9 = 5 then 126 else ch)) (oo : Bool) (hoo : g 21 = bI oo) (ar : Nat) (har : g 22 = nI ar) (s9 : Nat) (y : Nat → UInt64) (cv : Option (List Nat)) (mk : Bool) (hv9 : zVl (g 15) (g 17) (g 19) (d 8) oo s9 y cv mk) : ar_M l yX9_front cX9_front 5 none 3 68 D ct (mL ad ct) [.ref (ad 0), .int (nI t)] (g, a, d) (fun v9 u9 => v9 = none ∧ zFt x9 ch oo ar s9 y (g, a, d) u9) (fun _ _ => False) := by
  refine ar_ofW hl9 (by decide) (Nat.le_of_ble_eq_true rfl) ?_
  intro p e s m below meth c A ls C hr hnm hW hl
  have hx := C.1
  have hb := C.2.1
  have hown := C.2.2.2.1
  have hts := C.2.2.2.2.1
  have hl : lv_has ls 5 [(0, .ref (ad 0)), (1, .int (nI t))] := hl
  have hds := zOk_num hv9.2.1
  rcases hx4 with rfl | rfl | rfl | rfl
  · skip
    have hk4 : a 4 t = nI 7 := hk4
    have hk5 : a 5 t = nI 45 := hk5
    refine lv_aload_n hx hb dX9_front_0 rfl (lv_at hl 0 rfl) ?_
    refine mg_symbol C hW q591 dX9_front_1 ?_
    refine lv_iload_n hx hb dX9_front_4 rfl (lv_at hl 1 rfl) ?_
    refine ml_symbol (j := t) C hW (by omega) dX9_front_5 ?_
    refine ln_top (hk4) ?_
    refine lv_istore_n (lv' := [(2, .int (nI 7)), (0, .ref (ad 0)), (1, .int (nI t))]) hx hb dX9_front_6 rfl hl (by decide) rfl (fun ls hl => ?_)
    refine lv_aload_n hx hb dX9_front_7 rfl (lv_at hl 1 rfl) ?_
    refine lv_iconst (v := nI 0) hx hb dX9_front_8 (by decide) ?_
    refine mp_nowConstant (nI_z0) C hW q604 dX9_front_9 (fun H locs hW => ?_)
    refine lv_aload_n hx hb dX9_front_12 rfl (lv_at hl 1 rfl) ?_
    refine lv_iload_n hx hb dX9_front_13 rfl (lv_at hl 0 rfl) ?_
    refine lv_bipush (v := nI 7) hx hb dX9_front_14 (by decide) ?_
    refine ln_icmp_ne (tgt := 30) hx hb dX9_front_16 (by decide) (by decide) (by decide) (fun h1 => absurd h1 (by decide)) (fun _ => ?_)
    refine lv_aload_n hx hb dX9_front_19 rfl (lv_at hl 1 rfl) ?_
    refine mg_about C hW q592 dX9_front_20 ?_
    refine lv_iload_n hx hb dX9_front_23 rfl (lv_at hl 2 rfl) ?_
    refine ml_about (j := t) C hW (by omega) dX9_front_24 ?_
    refine ln_top (hk5) ?_
    refine lv_bipush (v := nI 126) hx hb dX9_front_25 (by decide) ?_
    refine ln_icmp_ne (tgt := 34) hx hb dX9_front_27 (by decide) (by decide) (by decide) (fun _ => ?_) (fun h2 => absurd h2 (by decide))
    refine lv_iconst (v := nI 0) hx hb dX9_front_34 (by decide) ?_
    refine mp_nowCounts (nI_z0) C hW q606 dX9_front_35 (fun H locs hW => ?_)
    refine lv_aload_n hx hb dX9_front_38 rfl (lv_at hl 1 rfl) ?_
    refine mg_nowCounts C hW q606 dX9_front_39 ?_
    rw [va_up_self]
    refine ln_if_eq (tgt := 55) hx hb dX9_front_42 (by decide) (by decide) (fun _ => ?_) (fun h3 => absurd h3 (by decide))
    refine lv_aload_n hx hb dX9_front_55 rfl (lv_at hl 1 rfl) ?_
    refine mg_nowShape C hW q602 dX9_front_56 ?_
    rw [va_up_ne _ _ (by decide)]
    rw [va_up_ne _ _ (by decide)]
    refine ln_top (hv9.1) ?_
    refine ar_callS (As := [.int (nI s9)]) (rest := []) C hW (c_X9_count hl9 _ s9 (by omega)) q709 q710 q6 q711 hd_X9_count ⟨Nat.le_of_ble_eq_true rfl, Nat.le_of_ble_eq_true rfl⟩ hl.1 (Nat.le_of_ble_eq_true rfl) rfl dX9_front_59 (fun _ _ _ _ _ _ hp => hp.elim) (fun v9 u9 H locs hp hW => ?_)
    obtain ⟨rfl, hu9⟩ := hp
    rw [hu9] at hW
    refine W.eq (g2 := F0 m 62 ls [.int (nI (zCt s9))]) rfl ?_
    refine lv_istore_n (lv' := [(3, .int (nI (zCt s9))), (2, .int (nI 7)), (0, .ref (ad 0)), (1, .int (nI t))]) hx hb dX9_front_62 rfl hl (by decide) rfl (fun ls hl => ?_)
    refine lv_iload_n hx hb dX9_front_63 rfl (lv_at hl 1 rfl) ?_
    refine lv_bipush (v := nI 7) hx hb dX9_front_64 (by decide) ?_
    refine ln_icmp_ne (tgt := 113) hx hb dX9_front_66 (by decide) (by decide) (by decide) (fun h4 => absurd h4 (by decide)) (fun _ => ?_)
    refine lv_aload_n hx hb dX9_front_69 rfl (lv_at hl 2 rfl) ?_
    refine mg_about C hW q592 dX9_front_70 ?_
    refine lv_iload_n hx hb dX9_front_73 rfl (lv_at hl 3 rfl) ?_
    refine ml_about (j := t) C hW (by omega) dX9_front_74 ?_
    refine ln_top (hk5) ?_
    refine lv_bipush (v := nI 45) hx hb dX9_front_75 (by decide) ?_
    refine ln_icmp_ne (tgt := 113) hx hb dX9_front_77 (by decide) (by decide) (by decide) (fun h5 => absurd h5 (by decide)) (fun _ => ?_)
    refine lv_iconst (v := nI 0) hx hb dX9_front_80 (by decide) ?_
    refine lv_istore (lv' := [(4, .int (nI 0)), (3, .int (nI (zCt s9))), (2, .int (nI 7)), (0, .ref (ad 0)), (1, .int (nI t))]) hx hb dX9_front_81 hl (by decide) rfl (fun ls hl => ?_)
    have lp : ∀ (N9 : Nat) (k : Nat) (f : Nat → UInt64) (H : Heap) (locs : List Loc) (ls : Array Slot), zCt s9 - k < N9 → (k ≤ zCt s9) → ((∀ q, q < k → f q = FP.dneg (d 8 q)) ∧ ∀ q, k ≤ q → f q = d 8 q) → ar_W D A s.heap H locs (mL ad ct (va_up (va_up g 17 (nI 0)) 19 (nI 0), a, va_up d 8 f)) → lv_has ls 5 [(0, .ref (ad 0)), (1, .int (nI t)), (2, .int (nI 7)), (3, .int (nI (zCt s9))), (4, .int (nI k))] → W p l e (ar_rm 3 68) s m [.ref (ad 0), .int (nI t)].toArray below meth c H locs 0 0 (ar_E below (ar_Q D ct (mL ad ct) A (fun v9 u9 => v9 = none ∧ zFt (4) ch oo ar s9 y (g, a, d) u9) (fun _ _ => False)) [.ref (ad 0), .int (nI t)].toArray s) (F0 m 83 ls []) := by
      intro N9
      induction N9 with
      | zero =>
        intro k f H locs ls hN9
        exact absurd hN9 (Nat.not_lt_zero _)
      | succ N9 ihlp =>
        intro k f H locs ls hN9 hk hf hW hl
        refine lv_iload hx hb dX9_front_83 (lv_at hl 4 rfl) ?_
        refine lv_iload_n hx hb dX9_front_85 rfl (lv_at hl 3 rfl) ?_
        refine ln_icmp_ge (tgt := 110) hx hb dX9_front_86 (by decide) (by omega) (by first | decide | omega) (fun h6 => ?_) (fun h6 => ?_)
        · skip
          refine lv_goto (tgt := 147) hx hb dX9_front_110 (by decide) ?_
          exact ar_vret C hr hW dX9_front_147 (⟨rfl, zFt_4 hv9 hoo har (fun q hq => hf.1 q (by omega))⟩)
        · skip
          refine lv_aload_n hx hb dX9_front_89 rfl (lv_at hl 0 rfl) ?_
          refine mg_now C hW q597 dX9_front_90 ?_
          refine lv_iload hx hb dX9_front_93 (lv_at hl 4 rfl) ?_
          refine lv_aload_n hx hb dX9_front_95 rfl (lv_at hl 0 rfl) ?_
          refine mg_now C hW q597 dX9_front_96 ?_
          refine lv_iload hx hb dX9_front_99 (lv_at hl 4 rfl) ?_
          refine ml_now (j := k) C hW (by omega) dX9_front_101 ?_
          rw [va_up_self]
          refine ln_topd (y := d 8 k) (hf.2 k (Nat.le_refl _)) ?_
          refine lv_dneg hx hb dX9_front_102 ?_
          refine ms_now (j := k) C hW (by omega) dX9_front_103 (fun H locs hW => ?_)
          simp only [bx_uu, va_up_self] at hW
          refine ln_iinc (k := 4) (n := 1) (lv' := [(4, .int (nI (k + 1))), (0, .ref (ad 0)), (1, .int (nI t)), (2, .int (nI 7)), (3, .int (nI (zCt s9)))]) hx hb dX9_front_104 hl rfl (by decide) rfl (fun ls hl => ?_)
          refine lv_goto (tgt := 83) hx hb dX9_front_107 (by decide) ?_
          exact ihlp (k + 1) (va_up f k (FP.dneg (d 8 k))) _ _ _ (by omega) (by omega) (⟨fill_p hf.1, fun q hq => by rw [va_up_ne _ _ (by omega)]; exact hf.2 q (by omega)⟩) (hW) (lv_sub hl [1, 2, 3, 4, 0] rfl)
    exact lp _ 0 (d 8) _ _ _ (Nat.lt_succ_self _) (Nat.zero_le _) (⟨fun q hq => absurd hq (Nat.not_lt_zero _), fun q _ => rfl⟩) (by rw [va_up_id]; exact hW) (lv_sub hl [3, 4, 2, 1, 0] rfl)
  · skip
    have hk4 : a 4 t = nI 7 := hk4
    have hk5 : a 5 t = nI 126 := hk5
    refine lv_aload_n hx hb dX9_front_0 rfl (lv_at hl 0 rfl) ?_
    refine mg_symbol C hW q591 dX9_front_1 ?_
    refine lv_iload_n hx hb dX9_front_4 rfl (lv_at hl 1 rfl) ?_
    refine ml_symbol (j := t) C hW (by omega) dX9_front_5 ?_
    refine ln_top (hk4) ?_
    refine lv_istore_n (lv' := [(2, .int (nI 7)), (0, .ref (ad 0)), (1, .int (nI t))]) hx hb dX9_front_6 rfl hl (by decide) rfl (fun ls hl => ?_)
    refine lv_aload_n hx hb dX9_front_7 rfl (lv_at hl 1 rfl) ?_
    refine lv_iconst (v := nI 0) hx hb dX9_front_8 (by decide) ?_
    refine mp_nowConstant (nI_z0) C hW q604 dX9_front_9 (fun H locs hW => ?_)
    refine lv_aload_n hx hb dX9_front_12 rfl (lv_at hl 1 rfl) ?_
    refine lv_iload_n hx hb dX9_front_13 rfl (lv_at hl 0 rfl) ?_
    refine lv_bipush (v := nI 7) hx hb dX9_front_14 (by decide) ?_
    refine ln_icmp_ne (tgt := 30) hx hb dX9_front_16 (by decide) (by decide) (by decide) (fun h7 => absurd h7 (by decide)) (fun _ => ?_)
    refine lv_aload_n hx hb dX9_front_19 rfl (lv_at hl 1 rfl) ?_
    refine mg_about C hW q592 dX9_front_20 ?_
    refine lv_iload_n hx hb dX9_front_23 rfl (lv_at hl 2 rfl) ?_
    refine ml_about (j := t) C hW (by omega) dX9_front_24 ?_
    refine ln_top (hk5) ?_
    refine lv_bipush (v := nI 126) hx hb dX9_front_25 (by decide) ?_
    refine ln_icmp_ne (tgt := 34) hx hb dX9_front_27 (by decide) (by decide) (by decide) (fun h8 => absurd h8 (by decide)) (fun _ => ?_)
    refine lv_iconst (v := nI 1) hx hb dX9_front_30 (by decide) ?_
    refine lv_goto (tgt := 35) hx hb dX9_front_31 (by decide) ?_
    refine mp_nowCounts (nI_z1) C hW q606 dX9_front_35 (fun H locs hW => ?_)
    refine lv_aload_n hx hb dX9_front_38 rfl (lv_at hl 1 rfl) ?_
    refine mg_nowCounts C hW q606 dX9_front_39 ?_
    rw [va_up_self]
    refine ln_if_eq (tgt := 55) hx hb dX9_front_42 (by decide) (by decide) (fun h9 => absurd h9 (by decide)) (fun _ => ?_)
    refine lv_aload_n hx hb dX9_front_45 rfl (lv_at hl 1 rfl) ?_
    refine lv_dup hx hb dX9_front_46 rfl ?_
    refine mg_arrays C hW q609 dX9_front_47 ?_
    rw [va_up_ne _ _ (by decide)]
    rw [va_up_ne _ _ (by decide)]
    refine ln_top (har) ?_
    refine lv_iconst (v := nI 1) hx hb dX9_front_50 (by decide) ?_
    refine ln_iadd hx hb dX9_front_51 ?_
    refine mp_arrays C hW q609 dX9_front_52 (fun H locs hW => ?_)
    refine lv_aload_n hx hb dX9_front_55 rfl (lv_at hl 1 rfl) ?_
    refine mg_nowShape C hW q602 dX9_front_56 ?_
    rw [va_up_ne _ _ (by decide)]
    rw [va_up_ne _ _ (by decide)]
    rw [va_up_ne _ _ (by decide)]
    refine ln_top (hv9.1) ?_
    refine ar_callS (As := [.int (nI s9)]) (rest := []) C hW (c_X9_count hl9 _ s9 (by omega)) q709 q710 q6 q711 hd_X9_count ⟨Nat.le_of_ble_eq_true rfl, Nat.le_of_ble_eq_true rfl⟩ hl.1 (Nat.le_of_ble_eq_true rfl) rfl dX9_front_59 (fun _ _ _ _ _ _ hp => hp.elim) (fun v9 u9 H locs hp hW => ?_)
    obtain ⟨rfl, hu9⟩ := hp
    rw [hu9] at hW
    refine W.eq (g2 := F0 m 62 ls [.int (nI (zCt s9))]) rfl ?_
    refine lv_istore_n (lv' := [(3, .int (nI (zCt s9))), (2, .int (nI 7)), (0, .ref (ad 0)), (1, .int (nI t))]) hx hb dX9_front_62 rfl hl (by decide) rfl (fun ls hl => ?_)
    refine lv_iload_n hx hb dX9_front_63 rfl (lv_at hl 1 rfl) ?_
    refine lv_bipush (v := nI 7) hx hb dX9_front_64 (by decide) ?_
    refine ln_icmp_ne (tgt := 113) hx hb dX9_front_66 (by decide) (by decide) (by decide) (fun h10 => absurd h10 (by decide)) (fun _ => ?_)
    refine lv_aload_n hx hb dX9_front_69 rfl (lv_at hl 2 rfl) ?_
    refine mg_about C hW q592 dX9_front_70 ?_
    refine lv_iload_n hx hb dX9_front_73 rfl (lv_at hl 3 rfl) ?_
    refine ml_about (j := t) C hW (by omega) dX9_front_74 ?_
    refine ln_top (hk5) ?_
    refine lv_bipush (v := nI 45) hx hb dX9_front_75 (by decide) ?_
    refine ln_icmp_ne (tgt := 113) hx hb dX9_front_77 (by decide) (by decide) (by decide) (fun _ => ?_) (fun h11 => absurd h11 (by decide))
    refine lv_iload_n hx hb dX9_front_113 rfl (lv_at hl 1 rfl) ?_
    refine lv_bipush (v := nI 7) hx hb dX9_front_114 (by decide) ?_
    refine ln_icmp_ne (tgt := 126) hx hb dX9_front_116 (by decide) (by decide) (by decide) (fun h12 => absurd h12 (by decide)) (fun _ => ?_)
    refine lv_aload_n hx hb dX9_front_119 rfl (lv_at hl 2 rfl) ?_
    refine ar_callV (q0 := 0) (ci := 7) (T9 := TX9) (N9 := 27) (As := []) (rest := []) C hW (c_X9_turn hl9 (va_up (va_up (va_up g 17 (nI 0)) 19 (nI 1)) 22 (nI (ar + 1))) a d s9 hv9.2.1 hv9.1) (rfl) rfl q765 q767 qs9 q6 q768 hd_X9_turn ⟨Nat.le_of_ble_eq_true rfl, Nat.le_of_ble_eq_true rfl⟩ hl.1 (Nat.le_of_ble_eq_true rfl) rfl dX9_front_120 (fun _ _ _ _ _ _ hp => hp.elim) (fun v9 u9 H locs hp hW => ?_)
    obtain ⟨rfl, f, h, hf, hu9⟩ := hp
    rw [hu9] at hW
    refine W.eq (g2 := F0 m 123 ls []) rfl ?_
    refine lv_goto (tgt := 147) hx hb dX9_front_123 (by decide) ?_
    exact ar_vret C hr hW dX9_front_147 (⟨rfl, zFt_5 hv9 hoo hf⟩)
  · skip
    have hk4 : a 4 t = nI 8 := hk4
    have hk5 : a 5 t = nI ch := hk5
    refine lv_aload_n hx hb dX9_front_0 rfl (lv_at hl 0 rfl) ?_
    refine mg_symbol C hW q591 dX9_front_1 ?_
    refine lv_iload_n hx hb dX9_front_4 rfl (lv_at hl 1 rfl) ?_
    refine ml_symbol (j := t) C hW (by omega) dX9_front_5 ?_
    refine ln_top (hk4) ?_
    refine lv_istore_n (lv' := [(2, .int (nI 8)), (0, .ref (ad 0)), (1, .int (nI t))]) hx hb dX9_front_6 rfl hl (by decide) rfl (fun ls hl => ?_)
    refine lv_aload_n hx hb dX9_front_7 rfl (lv_at hl 1 rfl) ?_
    refine lv_iconst (v := nI 0) hx hb dX9_front_8 (by decide) ?_
    refine mp_nowConstant (nI_z0) C hW q604 dX9_front_9 (fun H locs hW => ?_)
    refine lv_aload_n hx hb dX9_front_12 rfl (lv_at hl 1 rfl) ?_
    refine lv_iload_n hx hb dX9_front_13 rfl (lv_at hl 0 rfl) ?_
    refine lv_bipush (v := nI 7) hx hb dX9_front_14 (by decide) ?_
    refine ln_icmp_ne (tgt := 30) hx hb dX9_front_16 (by decide) (by decide) (by decide) (fun _ => ?_) (fun h13 => absurd h13 (by decide))
    refine lv_iconst (v := nI 1) hx hb dX9_front_30 (by decide) ?_
    refine lv_goto (tgt := 35) hx hb dX9_front_31 (by decide) ?_
    refine mp_nowCounts (nI_z1) C hW q606 dX9_front_35 (fun H locs hW => ?_)
    refine lv_aload_n hx hb dX9_front_38 rfl (lv_at hl 1 rfl) ?_
    refine mg_nowCounts C hW q606 dX9_front_39 ?_
    rw [va_up_self]
    refine ln_if_eq (tgt := 55) hx hb dX9_front_42 (by decide) (by decide) (fun h14 => absurd h14 (by decide)) (fun _ => ?_)
    refine lv_aload_n hx hb dX9_front_45 rfl (lv_at hl 1 rfl) ?_
    refine lv_dup hx hb dX9_front_46 rfl ?_
    refine mg_arrays C hW q609 dX9_front_47 ?_
    rw [va_up_ne _ _ (by decide)]
    rw [va_up_ne _ _ (by decide)]
    refine ln_top (har) ?_
    refine lv_iconst (v := nI 1) hx hb dX9_front_50 (by decide) ?_
    refine ln_iadd hx hb dX9_front_51 ?_
    refine mp_arrays C hW q609 dX9_front_52 (fun H locs hW => ?_)
    refine lv_aload_n hx hb dX9_front_55 rfl (lv_at hl 1 rfl) ?_
    refine mg_nowShape C hW q602 dX9_front_56 ?_
    rw [va_up_ne _ _ (by decide)]
    rw [va_up_ne _ _ (by decide)]
    rw [va_up_ne _ _ (by decide)]
    refine ln_top (hv9.1) ?_
    refine ar_callS (As := [.int (nI s9)]) (rest := []) C hW (c_X9_count hl9 _ s9 (by omega)) q709 q710 q6 q711 hd_X9_count ⟨Nat.le_of_ble_eq_true rfl, Nat.le_of_ble_eq_true rfl⟩ hl.1 (Nat.le_of_ble_eq_true rfl) rfl dX9_front_59 (fun _ _ _ _ _ _ hp => hp.elim) (fun v9 u9 H locs hp hW => ?_)
    obtain ⟨rfl, hu9⟩ := hp
    rw [hu9] at hW
    refine W.eq (g2 := F0 m 62 ls [.int (nI (zCt s9))]) rfl ?_
    refine lv_istore_n (lv' := [(3, .int (nI (zCt s9))), (2, .int (nI 8)), (0, .ref (ad 0)), (1, .int (nI t))]) hx hb dX9_front_62 rfl hl (by decide) rfl (fun ls hl => ?_)
    refine lv_iload_n hx hb dX9_front_63 rfl (lv_at hl 1 rfl) ?_
    refine lv_bipush (v := nI 7) hx hb dX9_front_64 (by decide) ?_
    refine ln_icmp_ne (tgt := 113) hx hb dX9_front_66 (by decide) (by decide) (by decide) (fun _ => ?_) (fun h15 => absurd h15 (by decide))
    refine lv_iload_n hx hb dX9_front_113 rfl (lv_at hl 1 rfl) ?_
    refine lv_bipush (v := nI 7) hx hb dX9_front_114 (by decide) ?_
    refine ln_icmp_ne (tgt := 126) hx hb dX9_front_116 (by decide) (by decide) (by decide) (fun _ => ?_) (fun h16 => absurd h16 (by decide))
    refine lv_aload_n hx hb dX9_front_126 rfl (lv_at hl 2 rfl) ?_
    refine lv_aload_n hx hb dX9_front_127 rfl (lv_at hl 2 rfl) ?_
    refine mg_about C hW q592 dX9_front_128 ?_
    refine lv_iload_n hx hb dX9_front_131 rfl (lv_at hl 3 rfl) ?_
    refine ml_about (j := t) C hW (by omega) dX9_front_132 ?_
    refine ln_top (hk5) ?_
    refine lv_iload_n hx hb dX9_front_133 rfl (lv_at hl 1 rfl) ?_
    refine lv_bipush (v := nI 8) hx hb dX9_front_134 (by decide) ?_
    refine ln_icmp_ne (tgt := 143) hx hb dX9_front_136 (by decide) (by decide) (by decide) (fun h17 => absurd h17 (by decide)) (fun _ => ?_)
    refine lv_iconst (v := nI 1) hx hb dX9_front_139 (by decide) ?_
    refine lv_goto (tgt := 144) hx hb dX9_front_140 (by decide) ?_
    refine ar_callV (q0 := 0) (ci := 7) (T9 := TX9) (N9 := 27) (As := [.int (nI ch), .int (nI 1)]) (rest := []) C hW (c_X9_along hl9 (va_up (va_up (va_up g 17 (nI 0)) 19 (nI 1)) 22 (nI (ar + 1))) a d s9 hv9.2.1 hv9.1 ch (hcs (by decide)) true oo hoo (fun ho q hq => by rw [(hv9.2.2.1 ho q hq).1]; exact (hv9.2.2.1 ho q hq).2)) (rfl) rfl q769 q771 qs10 q6 q772 hd_X9_along ⟨Nat.le_of_ble_eq_true rfl, Nat.le_of_ble_eq_true rfl⟩ hl.1 (Nat.le_of_ble_eq_true rfl) rfl dX9_front_144 (fun _ _ _ _ _ _ hp => hp.elim) (fun v9 u9 H locs hp hW => ?_)
    obtain ⟨rfl, b, f, h, hli, hh0, hh1, hu9⟩ := hp
    rw [hu9] at hW
    refine W.eq (g2 := F0 m 147 ls []) rfl ?_
    exact ar_vret C hr hW dX9_front_147 (⟨rfl, zFt_6 hv9 hli (hh1 rfl)⟩)
  · skip
    have hk4 : a 4 t = nI 9 := hk4
    have hk5 : a 5 t = nI ch := hk5
    refine lv_aload_n hx hb dX9_front_0 rfl (lv_at hl 0 rfl) ?_
    refine mg_symbol C hW q591 dX9_front_1 ?_
    refine lv_iload_n hx hb dX9_front_4 rfl (lv_at hl 1 rfl) ?_
    refine ml_symbol (j := t) C hW (by omega) dX9_front_5 ?_
    refine ln_top (hk4) ?_
    refine lv_istore_n (lv' := [(2, .int (nI 9)), (0, .ref (ad 0)), (1, .int (nI t))]) hx hb dX9_front_6 rfl hl (by decide) rfl (fun ls hl => ?_)
    refine lv_aload_n hx hb dX9_front_7 rfl (lv_at hl 1 rfl) ?_
    refine lv_iconst (v := nI 0) hx hb dX9_front_8 (by decide) ?_
    refine mp_nowConstant (nI_z0) C hW q604 dX9_front_9 (fun H locs hW => ?_)
    refine lv_aload_n hx hb dX9_front_12 rfl (lv_at hl 1 rfl) ?_
    refine lv_iload_n hx hb dX9_front_13 rfl (lv_at hl 0 rfl) ?_
    refine lv_bipush (v := nI 7) hx hb dX9_front_14 (by decide) ?_
    refine ln_icmp_ne (tgt := 30) hx hb dX9_front_16 (by decide) (by decide) (by decide) (fun _ => ?_) (fun h18 => absurd h18 (by decide))
    refine lv_iconst (v := nI 1) hx hb dX9_front_30 (by decide) ?_
    refine lv_goto (tgt := 35) hx hb dX9_front_31 (by decide) ?_
    refine mp_nowCounts (nI_z1) C hW q606 dX9_front_35 (fun H locs hW => ?_)
    refine lv_aload_n hx hb dX9_front_38 rfl (lv_at hl 1 rfl) ?_
    refine mg_nowCounts C hW q606 dX9_front_39 ?_
    rw [va_up_self]
    refine ln_if_eq (tgt := 55) hx hb dX9_front_42 (by decide) (by decide) (fun h19 => absurd h19 (by decide)) (fun _ => ?_)
    refine lv_aload_n hx hb dX9_front_45 rfl (lv_at hl 1 rfl) ?_
    refine lv_dup hx hb dX9_front_46 rfl ?_
    refine mg_arrays C hW q609 dX9_front_47 ?_
    rw [va_up_ne _ _ (by decide)]
    rw [va_up_ne _ _ (by decide)]
    refine ln_top (har) ?_
    refine lv_iconst (v := nI 1) hx hb dX9_front_50 (by decide) ?_
    refine ln_iadd hx hb dX9_front_51 ?_
    refine mp_arrays C hW q609 dX9_front_52 (fun H locs hW => ?_)
    refine lv_aload_n hx hb dX9_front_55 rfl (lv_at hl 1 rfl) ?_
    refine mg_nowShape C hW q602 dX9_front_56 ?_
    rw [va_up_ne _ _ (by decide)]
    rw [va_up_ne _ _ (by decide)]
    rw [va_up_ne _ _ (by decide)]
    refine ln_top (hv9.1) ?_
    refine ar_callS (As := [.int (nI s9)]) (rest := []) C hW (c_X9_count hl9 _ s9 (by omega)) q709 q710 q6 q711 hd_X9_count ⟨Nat.le_of_ble_eq_true rfl, Nat.le_of_ble_eq_true rfl⟩ hl.1 (Nat.le_of_ble_eq_true rfl) rfl dX9_front_59 (fun _ _ _ _ _ _ hp => hp.elim) (fun v9 u9 H locs hp hW => ?_)
    obtain ⟨rfl, hu9⟩ := hp
    rw [hu9] at hW
    refine W.eq (g2 := F0 m 62 ls [.int (nI (zCt s9))]) rfl ?_
    refine lv_istore_n (lv' := [(3, .int (nI (zCt s9))), (2, .int (nI 9)), (0, .ref (ad 0)), (1, .int (nI t))]) hx hb dX9_front_62 rfl hl (by decide) rfl (fun ls hl => ?_)
    refine lv_iload_n hx hb dX9_front_63 rfl (lv_at hl 1 rfl) ?_
    refine lv_bipush (v := nI 7) hx hb dX9_front_64 (by decide) ?_
    refine ln_icmp_ne (tgt := 113) hx hb dX9_front_66 (by decide) (by decide) (by decide) (fun _ => ?_) (fun h20 => absurd h20 (by decide))
    refine lv_iload_n hx hb dX9_front_113 rfl (lv_at hl 1 rfl) ?_
    refine lv_bipush (v := nI 7) hx hb dX9_front_114 (by decide) ?_
    refine ln_icmp_ne (tgt := 126) hx hb dX9_front_116 (by decide) (by decide) (by decide) (fun _ => ?_) (fun h21 => absurd h21 (by decide))
    refine lv_aload_n hx hb dX9_front_126 rfl (lv_at hl 2 rfl) ?_
    refine lv_aload_n hx hb dX9_front_127 rfl (lv_at hl 2 rfl) ?_
    refine mg_about C hW q592 dX9_front_128 ?_
    refine lv_iload_n hx hb dX9_front_131 rfl (lv_at hl 3 rfl) ?_
    refine ml_about (j := t) C hW (by omega) dX9_front_132 ?_
    refine ln_top (hk5) ?_
    refine lv_iload_n hx hb dX9_front_133 rfl (lv_at hl 1 rfl) ?_
    refine lv_bipush (v := nI 8) hx hb dX9_front_134 (by decide) ?_
    refine ln_icmp_ne (tgt := 143) hx hb dX9_front_136 (by decide) (by decide) (by decide) (fun _ => ?_) (fun h22 => absurd h22 (by decide))
    refine lv_iconst (v := nI 0) hx hb dX9_front_143 (by decide) ?_
    refine ar_callV (q0 := 0) (ci := 7) (T9 := TX9) (N9 := 27) (As := [.int (nI ch), .int (nI 0)]) (rest := []) C hW (c_X9_along hl9 (va_up (va_up (va_up g 17 (nI 0)) 19 (nI 1)) 22 (nI (ar + 1))) a d s9 hv9.2.1 hv9.1 ch (hcs (by decide)) false oo hoo (fun ho q hq => by rw [(hv9.2.2.1 ho q hq).1]; exact (hv9.2.2.1 ho q hq).2)) (rfl) rfl q769 q771 qs10 q6 q772 hd_X9_along ⟨Nat.le_of_ble_eq_true rfl, Nat.le_of_ble_eq_true rfl⟩ hl.1 (Nat.le_of_ble_eq_true rfl) rfl dX9_front_144 (fun _ _ _ _ _ _ hp => hp.elim) (fun v9 u9 H locs hp hW => ?_)
    obtain ⟨rfl, b, f, h, hli, hh0, hh1, hu9⟩ := hp
    rw [hu9] at hW
    refine W.eq (g2 := F0 m 147 ls []) rfl ?_
    exact ar_vret C hr hW dX9_front_147 (⟨rfl, zFt_7 hv9 hli (hh0 rfl)⟩)
/-- what the loading of a leaf gives -/
def zLd (sv : Nat → Nat) (xv : Nat → Nat → UInt64) (oo : Bool) (x : Nat × List Nat) (u w : zM3) : Prop :=
  (∀ e, zFm e u w) ∧ w.2.1 = u.2.1 ∧ w.2.2 10 = u.2.2 10 ∧ w.1 21 = u.1 21 ∧ w.1 22 = u.1 22 ∧ ((zTs sv (.leaf x)).1 ≠ 0 → w.1 23 = nI (zTs sv (.leaf x)).1) ∧ ((zTs sv (.leaf x)).1 = 0 → w.1 23 = nI 0 ∧ zVl (w.1 16) (w.1 18) (w.1 20) (w.2.2 9) oo (zTs sv (.leaf x)).2 (zTx sv xv (.leaf x)) (zCv (.leaf x)) false)
section LD
variable {g : Nat → Int32} {a : Nat → Nat → Int32} {d : Nat → Nat → UInt64} {sv : Nat → Nat} {xv : Nat → Nat → UInt64} {oo : Bool}
theorem zLd_1 {v : Nat} {f : Nat → UInt64} (her : g 23 = nI 0) (hok : zOk (sv v) = true) (hr : ∀ q, q < zCt (sv v) → zRg (xv v q) = true) (hf : ∀ q, q < 24 → f q = xv v q) : zLd sv xv oo (1, [v]) (g, a, d) (va_up (va_up (va_up g 18 (nI 0)) 20 (nI 0)) 16 (nI (sv v)), a, va_up d 9 f) := by
  have h24 := (zOk_num hok).2.2.1
  refine ⟨fun e => zFm_g (fun k hk => by rw [va_up_ne _ _ (by omega), va_up_ne _ _ (by omega), va_up_ne _ _ (by omega)]) (va_up_ne _ _ (by decide)) (va_up_ne _ _ (by decide)), rfl, (by show va_up d 9 f 10 = d 10; rw [va_up_ne _ _ (by decide)]), rfl, rfl, fun h => absurd rfl h, fun _ => ⟨her, rfl, hok, fun _ q hq => ?_, rfl, (fun w h => by cases h), rfl⟩⟩
  have hq : q < zCt (sv v) := hq
  have e8 : va_up d 9 f 9 q = f q := congrFun (va_up_self d 9 f) q
  show va_up d 9 f 9 q = xv v q ∧ zRg (xv v q) = true
  rw [e8, hf q (by omega)]
  exact ⟨rfl, hr q hq⟩
theorem zLd_2 {v : List Nat} {f : Nat → UInt64} (her : g 23 = nI 0) (h1 : 1 ≤ v.length) (h2 : v.length ≤ 24) (hv : ∀ i, i < v.length → v.getD i 0 < 10000) (hf : ∀ q, q < v.length → f q = FP.i2d (nI (v.getD q 0))) : zLd sv xv oo (2, v) (g, a, d) (va_up (va_up (va_up g 18 (nI 1)) 20 (nI 0)) 16 (nI (if v.length = 1 then 0 else v.length)), a, va_up d 9 f) := by
  have hct : zCt (if v.length = 1 then 0 else v.length) = v.length := by
    by_cases h9 : v.length = 1
    · rw [if_pos h9, h9]; rfl
    · rw [if_neg h9]; exact zCt_lo (by omega) (by omega)
  refine ⟨fun e => zFm_g (fun k hk => by rw [va_up_ne _ _ (by omega), va_up_ne _ _ (by omega), va_up_ne _ _ (by omega)]) (va_up_ne _ _ (by decide)) (va_up_ne _ _ (by decide)), rfl, (by show va_up d 9 f 10 = d 10; rw [va_up_ne _ _ (by decide)]), rfl, rfl, fun h => absurd rfl h, fun _ => ⟨her, rfl, zOk_cst h1 h2, fun _ q hq => ?_, rfl, fun w hw => ?_, rfl⟩⟩
  · have hq : q < zCt (if v.length = 1 then 0 else v.length) := hq
    rw [hct] at hq
    have e8 : va_up d 9 f 9 q = f q := congrFun (va_up_self d 9 f) q
    show va_up d 9 f 9 q = FP.i2d (nI (v.getD q 0)) ∧ zRg (FP.i2d (nI (v.getD q 0))) = true
    rw [e8, hf q hq]
    exact ⟨rfl, zRg_i2d _⟩
  · cases hw
    refine ⟨rfl, h1, h2, fun q hq => ⟨?_, hv q hq⟩⟩
    have e8 : va_up d 9 f 9 q = f q := congrFun (va_up_self d 9 f) q
    exact e8.trans (hf q hq)
theorem zLd_3 {v : Nat} {f : Nat → UInt64} {e : Nat} (he : e = (zCou v).1) (hf : ∀ q, q < 24 → f q = FP.i2d (nI q)) : zLd sv xv oo (3, [v]) (g, a, d) (va_up (va_up (va_up (va_up g 18 (nI 0)) 20 (nI 0)) 16 (nI v)) 23 (nI e), a, va_up d 9 f) := by
  refine ⟨fun e => zFm_g (fun k hk => by rw [va_up_ne _ _ (by omega), va_up_ne _ _ (by omega), va_up_ne _ _ (by omega), va_up_ne _ _ (by omega)]) (va_up_ne _ _ (by decide)) (va_up_ne _ _ (by decide)), rfl, (by show va_up d 9 f 10 = d 10; rw [va_up_ne _ _ (by decide)]), rfl, rfl, fun _ => by rw [he]; rfl, fun hz => ?_⟩
  have hz : (zCou v).1 = 0 := hz
  have hv : (zCou v).2 = v := by
    unfold zCou at hz ⊢
    split
    · rfl
    · rename_i q
      rw [if_neg q] at hz
      cases hz
  have hok := zCou_ok hz
  have h24 := (zOk_num hok).2.2.1
  refine ⟨by rw [he, hz]; rfl, by show nI v = nI (zCou v).2; rw [hv], hok, fun _ q hq => ?_, rfl, (fun w h => by cases h), rfl⟩
  have hq : q < zCt (zCou v).2 := hq
  have e8 : va_up d 9 f 9 q = f q := congrFun (va_up_self d 9 f) q
  show va_up d 9 f 9 q = FP.i2d (nI q) ∧ zRg (FP.i2d (nI q)) = true
  rw [e8, hf q (by omega)]
  exact ⟨rfl, zRg_i2d _⟩
end LD
theorem hd_X9_load : yX9_load.cls ≠ "java/lang/invoke/MethodHandle" ∧ yX9_load.cls ≠ "java/lang/invoke/VarHandle" ∧ (parseMethodDescriptor yX9_load.desc).map (fun d => d.parameters.length) = some 1 := by decide +kernel
set_option maxHeartbeats 4000000 in
set_option maxRecDepth 100000 in
theorem c_X9_load {l : Launch} (hl9 : l.stackTraces = false) {D : va_G} {ct : Nat → ClassId} {ad : Nat → Nat} (g : Nat → Int32) (a : Nat → Nat → Int32) (d : Nat → Nat → UInt64) (t : Nat) (ht : t < 40) (nu : Nat) (x : Nat × List Nat) (hnu : x.1 ≠ 1 → nu + x.2.length ≤ 40) (hwf : zWf (.leaf x)) (hk4 : a 4 t = nI x.1) (hkn : x.1 = 1 → a 5 t = nI (x.2.getD 0 0)) (hko : x.1 ≠ 1 → a 5 t = nI nu ∧ ∀ i, i < x.2.length → a 7 (nu + i) = nI (x.2.getD i 0)) (hkc : x.1 = 2 → a 6 t = nI x.2.length) (sv : Nat → Nat) (hsv : ∀ j, j < 8 → a 2 j = nI (sv j) ∧ zOk (sv j) = true) (hvr : ∀ j, j < 8 → ∀ q, q < zCt (sv j) → zRg (d 3 (24 * j + q)) = true) (oo : Bool) (her : g 23 = nI 0) : ar_M l yX9_load cX9_load 4 none 1 22 D ct (mL ad ct) [.ref (ad 0), .int (nI t)] (g, a, d) (fun v9 u9 => v9 = none ∧ zLd sv (fun j q => d 3 (24 * j + q)) oo x (g, a, d) u9) (fun _ _ => False) := by
  refine ar_ofW hl9 (by decide) (Nat.le_of_ble_eq_true rfl) ?_
  intro p e s m below meth c A ls C hr hnm hW hl
  have hx := C.1
  have hb := C.2.1
  have hown := C.2.2.2.1
  have hts := C.2.2.2.2.1
  have hl : lv_has ls 4 [(0, .ref (ad 0)), (1, .int (nI t))] := hl
  have hnu := hnu
  rcases hwf with ⟨hx1, v, hx2, hv8⟩ | ⟨hx1, v, hx2, hv4⟩ | ⟨hx1, hl1, hl2, hv4⟩
  · skip
    rw [hx1] at hk4
    have hk5 : a 5 t = nI v := by rw [hkn hx1, hx2]; rfl
    have hsx : x = (1, [v]) := Prod.ext hx1 hx2
    subst hsx
    refine lv_aload_n hx hb dX9_load_0 rfl (lv_at hl 0 rfl) ?_
    refine mg_about C hW q592 dX9_load_1 ?_
    refine lv_iload_n hx hb dX9_load_4 rfl (lv_at hl 1 rfl) ?_
    refine ml_about (j := t) C hW (by omega) dX9_load_5 ?_
    refine ln_top (hk5) ?_
    refine lv_istore_n (lv' := [(2, .int (nI v)), (0, .ref (ad 0)), (1, .int (nI t))]) hx hb dX9_load_6 rfl hl (by decide) rfl (fun ls hl => ?_)
    refine lv_aload_n hx hb dX9_load_7 rfl (lv_at hl 1 rfl) ?_
    refine lv_aload_n hx hb dX9_load_8 rfl (lv_at hl 1 rfl) ?_
    refine mg_symbol C hW q591 dX9_load_9 ?_
    refine lv_iload_n hx hb dX9_load_12 rfl (lv_at hl 2 rfl) ?_
    refine ml_symbol (j := t) C hW (by omega) dX9_load_13 ?_
    refine ln_top (hk4) ?_
    refine lv_iconst (v := nI 2) hx hb dX9_load_14 (by decide) ?_
    refine ln_icmp_ne (tgt := 22) hx hb dX9_load_15 (by decide) (by decide) (by decide) (fun _ => ?_) (fun h1 => absurd h1 (by decide))
    refine lv_iconst (v := nI 0) hx hb dX9_load_22 (by decide) ?_
    refine mp_partConstant (nI_z0) C hW q605 dX9_load_23 (fun H locs hW => ?_)
    refine lv_aload_n hx hb dX9_load_26 rfl (lv_at hl 1 rfl) ?_
    refine lv_iconst (v := nI 0) hx hb dX9_load_27 (by decide) ?_
    refine mp_partCounts (nI_z0) C hW q607 dX9_load_28 (fun H locs hW => ?_)
    refine lv_aload_n hx hb dX9_load_31 rfl (lv_at hl 1 rfl) ?_
    refine mg_symbol C hW q591 dX9_load_32 ?_
    refine lv_iload_n hx hb dX9_load_35 rfl (lv_at hl 2 rfl) ?_
    refine ml_symbol (j := t) C hW (by omega) dX9_load_36 ?_
    refine ln_top (hk4) ?_
    refine lv_iconst (v := nI 1) hx hb dX9_load_37 (by decide) ?_
    refine ln_icmp_ne (tgt := 85) hx hb dX9_load_38 (by decide) (by decide) (by decide) (fun h2 => absurd h2 (by decide)) (fun _ => ?_)
    refine lv_aload_n hx hb dX9_load_41 rfl (lv_at hl 1 rfl) ?_
    refine lv_aload_n hx hb dX9_load_42 rfl (lv_at hl 1 rfl) ?_
    refine mg_shapes C hW q589 dX9_load_43 ?_
    refine lv_iload_n hx hb dX9_load_46 rfl (lv_at hl 0 rfl) ?_
    refine ml_shapes (j := v) C hW (by omega) dX9_load_47 ?_
    refine ln_top ((hsv v hv8).1) ?_
    refine mp_partShape C hW q603 dX9_load_48 (fun H locs hW => ?_)
    refine lv_iconst (v := nI 0) hx hb dX9_load_51 (by decide) ?_
    refine lv_istore_n (lv' := [(3, .int (nI 0)), (2, .int (nI v)), (0, .ref (ad 0)), (1, .int (nI t))]) hx hb dX9_load_52 rfl hl (by decide) rfl (fun ls hl => ?_)
    have lp : ∀ (N9 : Nat) (k : Nat) (f : Nat → UInt64) (H : Heap) (locs : List Loc) (ls : Array Slot), 24 - k < N9 → (k ≤ 24) → (∀ q, q < k → f q = d 3 (24 * v + q)) → ar_W D A s.heap H locs (mL ad ct (va_up (va_up (va_up g 18 (nI 0)) 20 (nI 0)) 16 (nI (sv v)), a, va_up d 9 f)) → lv_has ls 4 [(0, .ref (ad 0)), (1, .int (nI t)), (2, .int (nI v)), (3, .int (nI k))] → W p l e (ar_rm 1 22) s m [.ref (ad 0), .int (nI t)].toArray below meth c H locs 0 0 (ar_E below (ar_Q D ct (mL ad ct) A (fun v9 u9 => v9 = none ∧ zLd sv (fun j q => d 3 (24 * j + q)) oo ((1, [v])) (g, a, d) u9) (fun _ _ => False)) [.ref (ad 0), .int (nI t)].toArray s) (F0 m 53 ls []) := by
      intro N9
      induction N9 with
      | zero =>
        intro k f H locs ls hN9
        exact absurd hN9 (Nat.not_lt_zero _)
      | succ N9 ihlp =>
        intro k f H locs ls hN9 hk hf hW hl
        refine lv_iload_n hx hb dX9_load_53 rfl (lv_at hl 3 rfl) ?_
        refine lv_bipush (v := nI 24) hx hb dX9_load_54 (by decide) ?_
        refine ln_icmp_ge (tgt := 82) hx hb dX9_load_56 (by decide) (by omega) (by first | decide | omega) (fun h3 => ?_) (fun h3 => ?_)
        · skip
          refine lv_goto (tgt := 205) hx hb dX9_load_82 (by decide) ?_
          exact ar_vret C hr hW dX9_load_205 (⟨rfl, zLd_1 her (hsv v hv8).2 (hvr v hv8) (fun q hq => hf q (by omega))⟩)
        · skip
          refine lv_aload_n hx hb dX9_load_59 rfl (lv_at hl 0 rfl) ?_
          refine mg_part C hW q598 dX9_load_60 ?_
          refine lv_iload_n hx hb dX9_load_63 rfl (lv_at hl 3 rfl) ?_
          refine lv_aload_n hx hb dX9_load_64 rfl (lv_at hl 0 rfl) ?_
          refine mg_cells C hW q590 dX9_load_65 ?_
          refine lv_bipush (v := nI 24) hx hb dX9_load_68 (by decide) ?_
          refine lv_iload_n hx hb dX9_load_70 rfl (lv_at hl 2 rfl) ?_
          refine ln_imul hx hb dX9_load_71 ?_
          refine lv_iload_n hx hb dX9_load_72 rfl (lv_at hl 3 rfl) ?_
          refine ln_iadd hx hb dX9_load_73 ?_
          refine ml_cells (j := (24 * v) + k) C hW (by omega) dX9_load_74 ?_
          rw [va_up_ne _ _ (by omega)]
          refine ms_part (j := k) C hW (by omega) dX9_load_75 (fun H locs hW => ?_)
          simp only [bx_uu, va_up_self] at hW
          refine ln_iinc (k := 3) (n := 1) (lv' := [(3, .int (nI (k + 1))), (0, .ref (ad 0)), (1, .int (nI t)), (2, .int (nI v))]) hx hb dX9_load_76 hl rfl (by decide) rfl (fun ls hl => ?_)
          refine lv_goto (tgt := 53) hx hb dX9_load_79 (by decide) ?_
          exact ihlp (k + 1) (va_up f k (d 3 (24 * v + k))) _ _ _ (by omega) (by omega) (fill_p (F := fun q => d 3 (24 * v + q)) hf) (hW) (lv_sub hl [1, 2, 3, 0] rfl)
    exact lp _ 0 (d 9) _ _ _ (Nat.lt_succ_self _) (Nat.zero_le _) (fun q hq => absurd hq (Nat.not_lt_zero _)) (by rw [va_up_id]; exact hW) (lv_sub hl [2, 3, 1, 0] rfl)
  · skip
    rw [hx1] at hk4
    obtain ⟨hk5, hk7⟩ := hko (by omega)
    have hk70 : a 7 nu = nI v := by have h66 := hk7 0 (by rw [hx2]; exact Nat.one_pos); rw [hx2] at h66; exact h66
    have hn40 : nu + 1 ≤ 40 := by have h67 := hnu (by omega); rw [hx2] at h67; exact h67
    have hsx : x = (3, [v]) := Prod.ext hx1 hx2
    subst hsx
    refine lv_aload_n hx hb dX9_load_0 rfl (lv_at hl 0 rfl) ?_
    refine mg_about C hW q592 dX9_load_1 ?_
    refine lv_iload_n hx hb dX9_load_4 rfl (lv_at hl 1 rfl) ?_
    refine ml_about (j := t) C hW (by omega) dX9_load_5 ?_
    refine ln_top (hk5) ?_
    refine lv_istore_n (lv' := [(2, .int (nI nu)), (0, .ref (ad 0)), (1, .int (nI t))]) hx hb dX9_load_6 rfl hl (by decide) rfl (fun ls hl => ?_)
    refine lv_aload_n hx hb dX9_load_7 rfl (lv_at hl 1 rfl) ?_
    refine lv_aload_n hx hb dX9_load_8 rfl (lv_at hl 1 rfl) ?_
    refine mg_symbol C hW q591 dX9_load_9 ?_
    refine lv_iload_n hx hb dX9_load_12 rfl (lv_at hl 2 rfl) ?_
    refine ml_symbol (j := t) C hW (by omega) dX9_load_13 ?_
    refine ln_top (hk4) ?_
    refine lv_iconst (v := nI 2) hx hb dX9_load_14 (by decide) ?_
    refine ln_icmp_ne (tgt := 22) hx hb dX9_load_15 (by decide) (by decide) (by decide) (fun _ => ?_) (fun h4 => absurd h4 (by decide))
    refine lv_iconst (v := nI 0) hx hb dX9_load_22 (by decide) ?_
    refine mp_partConstant (nI_z0) C hW q605 dX9_load_23 (fun H locs hW => ?_)
    refine lv_aload_n hx hb dX9_load_26 rfl (lv_at hl 1 rfl) ?_
    refine lv_iconst (v := nI 0) hx hb dX9_load_27 (by decide) ?_
    refine mp_partCounts (nI_z0) C hW q607 dX9_load_28 (fun H locs hW => ?_)
    refine lv_aload_n hx hb dX9_load_31 rfl (lv_at hl 1 rfl) ?_
    refine mg_symbol C hW q591 dX9_load_32 ?_
    refine lv_iload_n hx hb dX9_load_35 rfl (lv_at hl 2 rfl) ?_
    refine ml_symbol (j := t) C hW (by omega) dX9_load_36 ?_
    refine ln_top (hk4) ?_
    refine lv_iconst (v := nI 1) hx hb dX9_load_37 (by decide) ?_
    refine ln_icmp_ne (tgt := 85) hx hb dX9_load_38 (by decide) (by decide) (by decide) (fun _ => ?_) (fun h5 => absurd h5 (by decide))
    refine lv_aload_n hx hb dX9_load_85 rfl (lv_at hl 1 rfl) ?_
    refine mg_symbol C hW q591 dX9_load_86 ?_
    refine lv_iload_n hx hb dX9_load_89 rfl (lv_at hl 2 rfl) ?_
    refine ml_symbol (j := t) C hW (by omega) dX9_load_90 ?_
    refine ln_top (hk4) ?_
    refine lv_iconst (v := nI 2) hx hb dX9_load_91 (by decide) ?_
    refine ln_icmp_ne (tgt := 155) hx hb dX9_load_92 (by decide) (by decide) (by decide) (fun _ => ?_) (fun h6 => absurd h6 (by decide))
    refine lv_aload_n hx hb dX9_load_155 rfl (lv_at hl 1 rfl) ?_
    refine lv_aload_n hx hb dX9_load_156 rfl (lv_at hl 1 rfl) ?_
    refine mg_numbers C hW q594 dX9_load_157 ?_
    refine lv_iload_n hx hb dX9_load_160 rfl (lv_at hl 0 rfl) ?_
    refine ml_numbers (j := nu) C hW (by omega) dX9_load_161 ?_
    refine ln_top (hk70) ?_
    refine mp_partShape C hW q603 dX9_load_162 (fun H locs hW => ?_)
    refine lv_aload_n hx hb dX9_load_165 rfl (lv_at hl 1 rfl) ?_
    refine mg_partShape C hW q603 dX9_load_166 ?_
    rw [va_up_self]
    refine lv_iconst (v := nI 1) hx hb dX9_load_169 (by decide) ?_
    refine lv_bipush (v := nI 24) hx hb dX9_load_170 (by decide) ?_
    refine ar_callS (As := [.int (nI v), .int (nI 1), .int (nI 24)]) (rest := []) C hW (c_X9_within hl9 _ (nI v) (nI 1) (nI 24)) q686 q687 q6 q688 hd_X9_within ⟨Nat.le_of_ble_eq_true rfl, Nat.le_of_ble_eq_true rfl⟩ hl.1 (Nat.le_of_ble_eq_true rfl) rfl dX9_load_172 (fun _ _ _ _ _ _ hp => hp.elim) (fun v9 u9 H locs hp hW => ?_)
    obtain ⟨rfl, hu9⟩ := hp
    rw [hu9] at hW
    refine W.eq (g2 := F0 m 175 ls [.int (bI (zIn (nI v) (nI 1) (nI 24)))]) rfl ?_
    refine lb_if_ne (tgt := 183) hx hb dX9_load_175 (by decide) (fun h7 => ?_) (fun h7 => ?_)
    · skip
      rw [zIn_nat (by omega) (by decide) (by decide)] at h7
      have hwi := of_decide_eq_true h7
      rw [show va_up (va_up (va_up g 18 (nI 0)) 20 (nI 0)) 16 (nI v) = va_up (va_up (va_up (va_up g 18 (nI 0)) 20 (nI 0)) 16 (nI v)) 23 (nI 0) from (va_up_s (f := va_up (va_up (va_up g 18 (nI 0)) 20 (nI 0)) 16 (nI v)) (k := 23) her).symm] at hW
      refine lv_iconst (v := nI 0) hx hb dX9_load_183 (by decide) ?_
      refine lv_istore_n (lv' := [(3, .int (nI 0)), (2, .int (nI nu)), (0, .ref (ad 0)), (1, .int (nI t))]) hx hb dX9_load_184 rfl hl (by decide) rfl (fun ls hl => ?_)
      have lp : ∀ (N9 : Nat) (k : Nat) (f : Nat → UInt64) (H : Heap) (locs : List Loc) (ls : Array Slot), 24 - k < N9 → (k ≤ 24) → (∀ q, q < k → f q = FP.i2d (nI q)) → ar_W D A s.heap H locs (mL ad ct (va_up (va_up (va_up (va_up g 18 (nI 0)) 20 (nI 0)) 16 (nI v)) 23 (nI 0), a, va_up d 9 f)) → lv_has ls 4 [(0, .ref (ad 0)), (1, .int (nI t)), (2, .int (nI nu)), (3, .int (nI k))] → W p l e (ar_rm 1 22) s m [.ref (ad 0), .int (nI t)].toArray below meth c H locs 0 0 (ar_E below (ar_Q D ct (mL ad ct) A (fun v9 u9 => v9 = none ∧ zLd sv (fun j q => d 3 (24 * j + q)) oo ((3, [v])) (g, a, d) u9) (fun _ _ => False)) [.ref (ad 0), .int (nI t)].toArray s) (F0 m 185 ls []) := by
        intro N9
        induction N9 with
        | zero =>
          intro k f H locs ls hN9
          exact absurd hN9 (Nat.not_lt_zero _)
        | succ N9 ihlp =>
          intro k f H locs ls hN9 hk hf hW hl
          refine lv_iload_n hx hb dX9_load_185 rfl (lv_at hl 3 rfl) ?_
          refine lv_bipush (v := nI 24) hx hb dX9_load_186 (by decide) ?_
          refine ln_icmp_ge (tgt := 205) hx hb dX9_load_188 (by decide) (by omega) (by first | decide | omega) (fun h8 => ?_) (fun h8 => ?_)
          · skip
            exact ar_vret C hr hW dX9_load_205 (⟨rfl, zLd_3 (e := 0) (by unfold zCou; rw [if_pos (zFit_iff.mpr ⟨by omega, by omega, by omega, by omega, by omega⟩)]) (fun q hq => hf q (by omega))⟩)
          · skip
            refine lv_aload_n hx hb dX9_load_191 rfl (lv_at hl 0 rfl) ?_
            refine mg_part C hW q598 dX9_load_192 ?_
            refine lv_iload_n hx hb dX9_load_195 rfl (lv_at hl 3 rfl) ?_
            refine lv_iload_n hx hb dX9_load_196 rfl (lv_at hl 3 rfl) ?_
            refine lv_i2d hx hb dX9_load_197 ?_
            refine ms_part (j := k) C hW (by omega) dX9_load_198 (fun H locs hW => ?_)
            simp only [bx_uu, va_up_self] at hW
            refine ln_iinc (k := 3) (n := 1) (lv' := [(3, .int (nI (k + 1))), (0, .ref (ad 0)), (1, .int (nI t)), (2, .int (nI nu))]) hx hb dX9_load_199 hl rfl (by decide) rfl (fun ls hl => ?_)
            refine lv_goto (tgt := 185) hx hb dX9_load_202 (by decide) ?_
            exact ihlp (k + 1) (va_up f k (FP.i2d (nI k))) _ _ _ (by omega) (by omega) (fill_p (F := fun q => FP.i2d (nI q)) hf) (hW) (lv_sub hl [1, 2, 3, 0] rfl)
      exact lp _ 0 (d 9) _ _ _ (Nat.lt_succ_self _) (Nat.zero_le _) (fun q hq => absurd hq (Nat.not_lt_zero _)) (by rw [va_up_id]; exact hW) (lv_sub hl [2, 3, 1, 0] rfl)
    · skip
      rw [zIn_nat (by omega) (by decide) (by decide)] at h7
      have hwi := of_decide_eq_false h7
      refine lv_aload_n hx hb dX9_load_178 rfl (lv_at hl 1 rfl) ?_
      refine lv_iconst (v := nI 2) hx hb dX9_load_179 (by decide) ?_
      refine mp_error C hW q610 dX9_load_180 (fun H locs hW => ?_)
      refine lv_iconst (v := nI 0) hx hb dX9_load_183 (by decide) ?_
      refine lv_istore_n (lv' := [(3, .int (nI 0)), (2, .int (nI nu)), (0, .ref (ad 0)), (1, .int (nI t))]) hx hb dX9_load_184 rfl hl (by decide) rfl (fun ls hl => ?_)
      have lp : ∀ (N9 : Nat) (k : Nat) (f : Nat → UInt64) (H : Heap) (locs : List Loc) (ls : Array Slot), 24 - k < N9 → (k ≤ 24) → (∀ q, q < k → f q = FP.i2d (nI q)) → ar_W D A s.heap H locs (mL ad ct (va_up (va_up (va_up (va_up g 18 (nI 0)) 20 (nI 0)) 16 (nI v)) 23 (nI 2), a, va_up d 9 f)) → lv_has ls 4 [(0, .ref (ad 0)), (1, .int (nI t)), (2, .int (nI nu)), (3, .int (nI k))] → W p l e (ar_rm 1 22) s m [.ref (ad 0), .int (nI t)].toArray below meth c H locs 0 0 (ar_E below (ar_Q D ct (mL ad ct) A (fun v9 u9 => v9 = none ∧ zLd sv (fun j q => d 3 (24 * j + q)) oo ((3, [v])) (g, a, d) u9) (fun _ _ => False)) [.ref (ad 0), .int (nI t)].toArray s) (F0 m 185 ls []) := by
        intro N9
        induction N9 with
        | zero =>
          intro k f H locs ls hN9
          exact absurd hN9 (Nat.not_lt_zero _)
        | succ N9 ihlp =>
          intro k f H locs ls hN9 hk hf hW hl
          refine lv_iload_n hx hb dX9_load_185 rfl (lv_at hl 3 rfl) ?_
          refine lv_bipush (v := nI 24) hx hb dX9_load_186 (by decide) ?_
          refine ln_icmp_ge (tgt := 205) hx hb dX9_load_188 (by decide) (by omega) (by first | decide | omega) (fun h9 => ?_) (fun h9 => ?_)
          · skip
            exact ar_vret C hr hW dX9_load_205 (⟨rfl, zLd_3 (e := 2) (by unfold zCou; rw [if_neg (fun q => by have := zFit_iff.mp q; omega)]) (fun q hq => hf q (by omega))⟩)
          · skip
            refine lv_aload_n hx hb dX9_load_191 rfl (lv_at hl 0 rfl) ?_
            refine mg_part C hW q598 dX9_load_192 ?_
            refine lv_iload_n hx hb dX9_load_195 rfl (lv_at hl 3 rfl) ?_
            refine lv_iload_n hx hb dX9_load_196 rfl (lv_at hl 3 rfl) ?_
            refine lv_i2d hx hb dX9_load_197 ?_
            refine ms_part (j := k) C hW (by omega) dX9_load_198 (fun H locs hW => ?_)
            simp only [bx_uu, va_up_self] at hW
            refine ln_iinc (k := 3) (n := 1) (lv' := [(3, .int (nI (k + 1))), (0, .ref (ad 0)), (1, .int (nI t)), (2, .int (nI nu))]) hx hb dX9_load_199 hl rfl (by decide) rfl (fun ls hl => ?_)
            refine lv_goto (tgt := 185) hx hb dX9_load_202 (by decide) ?_
            exact ihlp (k + 1) (va_up f k (FP.i2d (nI k))) _ _ _ (by omega) (by omega) (fill_p (F := fun q => FP.i2d (nI q)) hf) (hW) (lv_sub hl [1, 2, 3, 0] rfl)
      exact lp _ 0 (d 9) _ _ _ (Nat.lt_succ_self _) (Nat.zero_le _) (fun q hq => absurd hq (Nat.not_lt_zero _)) (by rw [va_up_id]; exact hW) (lv_sub hl [2, 3, 1, 0] rfl)
  · skip
    rw [hx1] at hk4
    obtain ⟨hk5, hk7⟩ := hko (by omega)
    have hk6 := hkc hx1
    have hn40 := hnu (by omega)
    refine lv_aload_n hx hb dX9_load_0 rfl (lv_at hl 0 rfl) ?_
    refine mg_about C hW q592 dX9_load_1 ?_
    refine lv_iload_n hx hb dX9_load_4 rfl (lv_at hl 1 rfl) ?_
    refine ml_about (j := t) C hW (by omega) dX9_load_5 ?_
    refine ln_top (hk5) ?_
    refine lv_istore_n (lv' := [(2, .int (nI nu)), (0, .ref (ad 0)), (1, .int (nI t))]) hx hb dX9_load_6 rfl hl (by decide) rfl (fun ls hl => ?_)
    refine lv_aload_n hx hb dX9_load_7 rfl (lv_at hl 1 rfl) ?_
    refine lv_aload_n hx hb dX9_load_8 rfl (lv_at hl 1 rfl) ?_
    refine mg_symbol C hW q591 dX9_load_9 ?_
    refine lv_iload_n hx hb dX9_load_12 rfl (lv_at hl 2 rfl) ?_
    refine ml_symbol (j := t) C hW (by omega) dX9_load_13 ?_
    refine ln_top (hk4) ?_
    refine lv_iconst (v := nI 2) hx hb dX9_load_14 (by decide) ?_
    refine ln_icmp_ne (tgt := 22) hx hb dX9_load_15 (by decide) (by decide) (by decide) (fun h10 => absurd h10 (by decide)) (fun _ => ?_)
    refine lv_iconst (v := nI 1) hx hb dX9_load_18 (by decide) ?_
    refine lv_goto (tgt := 23) hx hb dX9_load_19 (by decide) ?_
    refine mp_partConstant (nI_z1) C hW q605 dX9_load_23 (fun H locs hW => ?_)
    refine lv_aload_n hx hb dX9_load_26 rfl (lv_at hl 1 rfl) ?_
    refine lv_iconst (v := nI 0) hx hb dX9_load_27 (by decide) ?_
    refine mp_partCounts (nI_z0) C hW q607 dX9_load_28 (fun H locs hW => ?_)
    refine lv_aload_n hx hb dX9_load_31 rfl (lv_at hl 1 rfl) ?_
    refine mg_symbol C hW q591 dX9_load_32 ?_
    refine lv_iload_n hx hb dX9_load_35 rfl (lv_at hl 2 rfl) ?_
    refine ml_symbol (j := t) C hW (by omega) dX9_load_36 ?_
    refine ln_top (hk4) ?_
    refine lv_iconst (v := nI 1) hx hb dX9_load_37 (by decide) ?_
    refine ln_icmp_ne (tgt := 85) hx hb dX9_load_38 (by decide) (by decide) (by decide) (fun _ => ?_) (fun h11 => absurd h11 (by decide))
    refine lv_aload_n hx hb dX9_load_85 rfl (lv_at hl 1 rfl) ?_
    refine mg_symbol C hW q591 dX9_load_86 ?_
    refine lv_iload_n hx hb dX9_load_89 rfl (lv_at hl 2 rfl) ?_
    refine ml_symbol (j := t) C hW (by omega) dX9_load_90 ?_
    refine ln_top (hk4) ?_
    refine lv_iconst (v := nI 2) hx hb dX9_load_91 (by decide) ?_
    refine ln_icmp_ne (tgt := 155) hx hb dX9_load_92 (by decide) (by decide) (by decide) (fun h12 => absurd h12 (by decide)) (fun _ => ?_)
    refine lv_aload_n hx hb dX9_load_95 rfl (lv_at hl 1 rfl) ?_
    refine lv_aload_n hx hb dX9_load_96 rfl (lv_at hl 1 rfl) ?_
    refine mg_many C hW q593 dX9_load_97 ?_
    refine lv_iload_n hx hb dX9_load_100 rfl (lv_at hl 2 rfl) ?_
    refine ml_many (j := t) C hW (by omega) dX9_load_101 ?_
    refine ln_top (hk6) ?_
    refine lv_iconst (v := nI 1) hx hb dX9_load_102 (by decide) ?_
    refine ln_icmp_ne (tgt := 110) hx hb dX9_load_103 (by decide) (by omega) (by first | decide | omega) (fun h13 => ?_) (fun h13 => ?_)
    · skip
      refine lv_aload_n hx hb dX9_load_110 rfl (lv_at hl 1 rfl) ?_
      refine mg_many C hW q593 dX9_load_111 ?_
      refine lv_iload_n hx hb dX9_load_114 rfl (lv_at hl 2 rfl) ?_
      refine ml_many (j := t) C hW (by omega) dX9_load_115 ?_
      refine ln_top (hk6) ?_
      refine ln_top (a := if x.2.length = 1 then 0 else x.2.length) (congrArg nI (by first | rw [if_pos (by omega)] | rw [if_neg (by omega)])) ?_
      refine mp_partShape C hW q603 dX9_load_116 (fun H locs hW => ?_)
      refine lv_iconst (v := nI 0) hx hb dX9_load_119 (by decide) ?_
      refine lv_istore_n (lv' := [(3, .int (nI 0)), (2, .int (nI nu)), (0, .ref (ad 0)), (1, .int (nI t))]) hx hb dX9_load_120 rfl hl (by decide) rfl (fun ls hl => ?_)
      have lp : ∀ (N9 : Nat) (k : Nat) (f : Nat → UInt64) (H : Heap) (locs : List Loc) (ls : Array Slot), x.2.length - k < N9 → (k ≤ x.2.length) → (∀ q, q < k → f q = FP.i2d (nI (x.2.getD q 0))) → ar_W D A s.heap H locs (mL ad ct (va_up (va_up (va_up g 18 (nI 1)) 20 (nI 0)) 16 (nI (if x.2.length = 1 then 0 else x.2.length)), a, va_up d 9 f)) → lv_has ls 4 [(0, .ref (ad 0)), (1, .int (nI t)), (2, .int (nI nu)), (3, .int (nI k))] → W p l e (ar_rm 1 22) s m [.ref (ad 0), .int (nI t)].toArray below meth c H locs 0 0 (ar_E below (ar_Q D ct (mL ad ct) A (fun v9 u9 => v9 = none ∧ zLd sv (fun j q => d 3 (24 * j + q)) oo x (g, a, d) u9) (fun _ _ => False)) [.ref (ad 0), .int (nI t)].toArray s) (F0 m 121 ls []) := by
        intro N9
        induction N9 with
        | zero =>
          intro k f H locs ls hN9
          exact absurd hN9 (Nat.not_lt_zero _)
        | succ N9 ihlp =>
          intro k f H locs ls hN9 hk hf hW hl
          refine lv_iload_n hx hb dX9_load_121 rfl (lv_at hl 3 rfl) ?_
          refine lv_aload_n hx hb dX9_load_122 rfl (lv_at hl 0 rfl) ?_
          refine mg_many C hW q593 dX9_load_123 ?_
          refine lv_iload_n hx hb dX9_load_126 rfl (lv_at hl 1 rfl) ?_
          refine ml_many (j := t) C hW (by omega) dX9_load_127 ?_
          refine ln_top (hk6) ?_
          refine ln_icmp_ge (tgt := 152) hx hb dX9_load_128 (by decide) (by omega) (by first | decide | omega) (fun h14 => ?_) (fun h14 => ?_)
          · skip
            refine lv_goto (tgt := 205) hx hb dX9_load_152 (by decide) ?_
            exact ar_vret C hr hW dX9_load_205 (⟨rfl, by have hsx : x = (2, x.2) := Prod.ext hx1 rfl; rw [hsx]; exact zLd_2 her hl1 hl2 hv4 (fun q hq => hf q (by omega))⟩)
          · skip
            refine lv_aload_n hx hb dX9_load_131 rfl (lv_at hl 0 rfl) ?_
            refine mg_part C hW q598 dX9_load_132 ?_
            refine lv_iload_n hx hb dX9_load_135 rfl (lv_at hl 3 rfl) ?_
            refine lv_aload_n hx hb dX9_load_136 rfl (lv_at hl 0 rfl) ?_
            refine mg_numbers C hW q594 dX9_load_137 ?_
            refine lv_iload_n hx hb dX9_load_140 rfl (lv_at hl 2 rfl) ?_
            refine lv_iload_n hx hb dX9_load_141 rfl (lv_at hl 3 rfl) ?_
            refine ln_iadd hx hb dX9_load_142 ?_
            refine ml_numbers (j := nu + k) C hW (by omega) dX9_load_143 ?_
            refine ln_top (hk7 k (by omega)) ?_
            refine lv_i2d hx hb dX9_load_144 ?_
            refine ms_part (j := k) C hW (by omega) dX9_load_145 (fun H locs hW => ?_)
            simp only [bx_uu, va_up_self] at hW
            refine ln_iinc (k := 3) (n := 1) (lv' := [(3, .int (nI (k + 1))), (0, .ref (ad 0)), (1, .int (nI t)), (2, .int (nI nu))]) hx hb dX9_load_146 hl rfl (by decide) rfl (fun ls hl => ?_)
            refine lv_goto (tgt := 121) hx hb dX9_load_149 (by decide) ?_
            exact ihlp (k + 1) (va_up f k (FP.i2d (nI (x.2.getD k 0)))) _ _ _ (by omega) (by omega) (fill_p (F := fun q => FP.i2d (nI (x.2.getD q 0))) hf) (hW) (lv_sub hl [1, 2, 3, 0] rfl)
      exact lp _ 0 (d 9) _ _ _ (Nat.lt_succ_self _) (Nat.zero_le _) (fun q hq => absurd hq (Nat.not_lt_zero _)) (by rw [va_up_id]; exact hW) (lv_sub hl [2, 3, 1, 0] rfl)
    · skip
      refine lv_iconst (v := nI 0) hx hb dX9_load_106 (by decide) ?_
      refine lv_goto (tgt := 116) hx hb dX9_load_107 (by decide) ?_
      refine ln_top (a := if x.2.length = 1 then 0 else x.2.length) (congrArg nI (by first | rw [if_pos (by omega)] | rw [if_neg (by omega)])) ?_
      refine mp_partShape C hW q603 dX9_load_116 (fun H locs hW => ?_)
      refine lv_iconst (v := nI 0) hx hb dX9_load_119 (by decide) ?_
      refine lv_istore_n (lv' := [(3, .int (nI 0)), (2, .int (nI nu)), (0, .ref (ad 0)), (1, .int (nI t))]) hx hb dX9_load_120 rfl hl (by decide) rfl (fun ls hl => ?_)
      have lp : ∀ (N9 : Nat) (k : Nat) (f : Nat → UInt64) (H : Heap) (locs : List Loc) (ls : Array Slot), x.2.length - k < N9 → (k ≤ x.2.length) → (∀ q, q < k → f q = FP.i2d (nI (x.2.getD q 0))) → ar_W D A s.heap H locs (mL ad ct (va_up (va_up (va_up g 18 (nI 1)) 20 (nI 0)) 16 (nI (if x.2.length = 1 then 0 else x.2.length)), a, va_up d 9 f)) → lv_has ls 4 [(0, .ref (ad 0)), (1, .int (nI t)), (2, .int (nI nu)), (3, .int (nI k))] → W p l e (ar_rm 1 22) s m [.ref (ad 0), .int (nI t)].toArray below meth c H locs 0 0 (ar_E below (ar_Q D ct (mL ad ct) A (fun v9 u9 => v9 = none ∧ zLd sv (fun j q => d 3 (24 * j + q)) oo x (g, a, d) u9) (fun _ _ => False)) [.ref (ad 0), .int (nI t)].toArray s) (F0 m 121 ls []) := by
        intro N9
        induction N9 with
        | zero =>
          intro k f H locs ls hN9
          exact absurd hN9 (Nat.not_lt_zero _)
        | succ N9 ihlp =>
          intro k f H locs ls hN9 hk hf hW hl
          refine lv_iload_n hx hb dX9_load_121 rfl (lv_at hl 3 rfl) ?_
          refine lv_aload_n hx hb dX9_load_122 rfl (lv_at hl 0 rfl) ?_
          refine mg_many C hW q593 dX9_load_123 ?_
          refine lv_iload_n hx hb dX9_load_126 rfl (lv_at hl 1 rfl) ?_
          refine ml_many (j := t) C hW (by omega) dX9_load_127 ?_
          refine ln_top (hk6) ?_
          refine ln_icmp_ge (tgt := 152) hx hb dX9_load_128 (by decide) (by omega) (by first | decide | omega) (fun h15 => ?_) (fun h15 => ?_)
          · skip
            refine lv_goto (tgt := 205) hx hb dX9_load_152 (by decide) ?_
            exact ar_vret C hr hW dX9_load_205 (⟨rfl, by have hsx : x = (2, x.2) := Prod.ext hx1 rfl; rw [hsx]; exact zLd_2 her hl1 hl2 hv4 (fun q hq => hf q (by omega))⟩)
          · skip
            refine lv_aload_n hx hb dX9_load_131 rfl (lv_at hl 0 rfl) ?_
            refine mg_part C hW q598 dX9_load_132 ?_
            refine lv_iload_n hx hb dX9_load_135 rfl (lv_at hl 3 rfl) ?_
            refine lv_aload_n hx hb dX9_load_136 rfl (lv_at hl 0 rfl) ?_
            refine mg_numbers C hW q594 dX9_load_137 ?_
            refine lv_iload_n hx hb dX9_load_140 rfl (lv_at hl 2 rfl) ?_
            refine lv_iload_n hx hb dX9_load_141 rfl (lv_at hl 3 rfl) ?_
            refine ln_iadd hx hb dX9_load_142 ?_
            refine ml_numbers (j := nu + k) C hW (by omega) dX9_load_143 ?_
            refine ln_top (hk7 k (by omega)) ?_
            refine lv_i2d hx hb dX9_load_144 ?_
            refine ms_part (j := k) C hW (by omega) dX9_load_145 (fun H locs hW => ?_)
            simp only [bx_uu, va_up_self] at hW
            refine ln_iinc (k := 3) (n := 1) (lv' := [(3, .int (nI (k + 1))), (0, .ref (ad 0)), (1, .int (nI t)), (2, .int (nI nu))]) hx hb dX9_load_146 hl rfl (by decide) rfl (fun ls hl => ?_)
            refine lv_goto (tgt := 121) hx hb dX9_load_149 (by decide) ?_
            exact ihlp (k + 1) (va_up f k (FP.i2d (nI (x.2.getD k 0)))) _ _ _ (by omega) (by omega) (fill_p (F := fun q => FP.i2d (nI (x.2.getD q 0))) hf) (hW) (lv_sub hl [1, 2, 3, 0] rfl)
      exact lp _ 0 (d 9) _ _ _ (Nat.lt_succ_self _) (Nat.zero_le _) (fun q hq => absurd hq (Nat.not_lt_zero _)) (by rw [va_up_id]; exact hW) (lv_sub hl [2, 3, 1, 0] rfl)
