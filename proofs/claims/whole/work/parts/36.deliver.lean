section AT
variable {p : Program} {l : Launch} {e : Env} {s : State} {m : MethodId} {args : Array Value} {below : List Frame} {meth : Method} {c : Code} {H : Heap} {locs : List Loc} {cc : ByteArray} {R : Room} {cells slots : Nat}
variable {pc : Nat} {ls : Array Slot} {rest : List Value} {Q : State → Prop}
theorem ln_topb {x : Int32} {b : Bool} (h : x = bI b) (k : W p l e R s m args below meth c H locs cells slots Q (F0 m pc ls (.int (bI b) :: rest))) : W p l e R s m args below meth c H locs cells slots Q (F0 m pc ls (.int x :: rest)) := by rw [h]; exact k
theorem ln_topd {x y : UInt64} (h : x = y) (k : W p l e R s m args below meth c H locs cells slots Q (F0 m pc ls (.double y :: rest))) : W p l e R s m args below meth c H locs cells slots Q (F0 m pc ls (.double x :: rest)) := by rw [h]; exact k
end AT
/-- a fill of f by F up to k that stops at a number out of range -/
def zLi (oo b : Bool) (k n : Nat) (f F : Nat → UInt64) : Prop := (oo = true → b = true) ∧ (b = false → ∀ q, q < k → f q = F q ∧ zRg (F q) = true) ∧ (b = true → oo = true ∨ ∃ q, q < n ∧ zRg (F q) = false)
theorem zLi_0 {oo : Bool} {n : Nat} {f F : Nat → UInt64} : zLi oo oo 0 n f F := ⟨fun h => h, fun _ q hq => absurd hq (Nat.not_lt_zero _), fun h => Or.inl h⟩
theorem zLi_s {oo b : Bool} {k n : Nat} {f F : Nat → UInt64} (hk : k < n) (h : zLi oo b k n f F) (hb : b = false) : zLi oo (b || !(zRg (F k))) (k + 1) n (va_up f k (F k)) F := by
  subst hb
  have ho : oo = false := by
    cases oo
    · rfl
    · exact absurd (h.1 rfl) (by decide)
  refine ⟨(fun q => by rw [ho] at q; cases q), fun hz q hq => ?_, fun hz => ?_⟩
  · have hr : zRg (F k) = true := by
      cases hc : zRg (F k)
      · rw [hc] at hz; cases hz
      · rfl
    unfold va_up
    by_cases h1 : q = k
    · rw [if_pos h1, h1]; exact ⟨rfl, hr⟩
    · rw [if_neg h1]; exact h.2.1 rfl q (by omega)
  · have hr : zRg (F k) = false := by
      cases hc : zRg (F k)
      · rfl
      · rw [hc] at hz; cases hz
    exact Or.inr ⟨k, hk, hr⟩
theorem zLi_e {oo b : Bool} {k n : Nat} {f F : Nat → UInt64} (h : zLi oo b k n f F) (hk : b = true ∨ n ≤ k) : zLi oo b n n f F := by
  refine ⟨h.1, fun hb q hq => h.2.1 hb q ?_, h.2.2⟩
  rcases hk with hk | hk
  · rw [hb] at hk; cases hk
  · omega
theorem zLi_oo {oo b : Bool} {k n : Nat} {f F : Nat → UInt64} (h : zLi oo b k n f F) (hb : b = false) : oo = false := by
  cases oo
  · rfl
  · exact absurd ((h.1 rfl).symm.trans hb) (by decide)
theorem hd_X9_check : yX9_check.cls ≠ "java/lang/invoke/MethodHandle" ∧ yX9_check.cls ≠ "java/lang/invoke/VarHandle" ∧ (parseMethodDescriptor yX9_check.desc).map (fun d => d.parameters.length) = some 1 := by decide +kernel
set_option maxHeartbeats 4000000 in
set_option maxRecDepth 100000 in
theorem c_X9_check {l : Launch} (hl9 : l.stackTraces = false) {D : va_G} {ct : Nat → ClassId} {ad : Nat → Nat} (g : Nat → Int32) (a : Nat → Nat → Int32) (d : Nat → Nat → UInt64) (x : UInt64) (oo : Bool) (hoo : g 21 = bI oo) : ar_M l yX9_check cX9_check 3 none 1 21 D ct (mL ad ct) [.ref (ad 0), .double x] (g, a, d) (fun v9 u9 => v9 = none ∧ u9 = (va_up g 21 (bI (oo || !(zRg x))), a, d)) (fun _ _ => False) := by
  refine ar_ofW hl9 (by decide) (Nat.le_of_ble_eq_true rfl) ?_
  intro p e s m below meth c A ls C hr hnm hW hl
  have hx := C.1
  have hb := C.2.1
  have hown := C.2.2.2.1
  have hts := C.2.2.2.2.1
  have hl : lv_has ls 3 [(0, .ref (ad 0)), (1, .double x)] := hl
  refine lv_dload_n hx hb dX9_check_0 rfl (lv_at hl 1 rfl) ?_
  refine ar_callS (As := [.double x]) (rest := []) C hW (c_X9_fits hl9 _ x) q689 q690 q6 q691 hd_X9_fits ⟨Nat.le_of_ble_eq_true rfl, Nat.le_of_ble_eq_true rfl⟩ hl.1 (Nat.le_of_ble_eq_true rfl) rfl dX9_check_1 (fun _ _ _ _ _ _ hp => hp.elim) (fun v9 u9 H locs hp hW => ?_)
  obtain ⟨rfl, hu9⟩ := hp
  rw [hu9] at hW
  refine W.eq (g2 := F0 m 4 ls [.int (bI (zRg x))]) rfl ?_
  refine lb_if_ne (tgt := 12) hx hb dX9_check_4 (by decide) (fun h1 => ?_) (fun h1 => ?_)
  · skip
    exact ar_vret C hr hW dX9_check_12 (⟨rfl, by rw [h1]; first | (rw [show (oo || !false) = true by cases oo <;> rfl]; rfl) | (rw [show (oo || !true) = oo by cases oo <;> rfl, va_up_s hoo])⟩)
  · skip
    refine lv_aload_n hx hb dX9_check_7 rfl (lv_at hl 0 rfl) ?_
    refine lv_iconst (v := nI 1) hx hb dX9_check_8 (by decide) ?_
    refine mp_outOfRange (nI_z1) C hW q608 dX9_check_9 (fun H locs hW => ?_)
    exact ar_vret C hr hW dX9_check_12 (⟨rfl, by rw [h1]; first | (rw [show (oo || !false) = true by cases oo <;> rfl]; rfl) | (rw [show (oo || !true) = oo by cases oo <;> rfl, va_up_s hoo])⟩)
theorem hd_X9_pairs : yX9_pairs.cls ≠ "java/lang/invoke/MethodHandle" ∧ yX9_pairs.cls ≠ "java/lang/invoke/VarHandle" ∧ (parseMethodDescriptor yX9_pairs.desc).map (fun d => d.parameters.length) = some 2 := by decide +kernel
set_option maxHeartbeats 4000000 in
set_option maxRecDepth 100000 in
theorem c_X9_pairs {l : Launch} (hl9 : l.stackTraces = false) {D : va_G} {ct : Nat → ClassId} {ad : Nat → Nat} (g : Nat → Int32) (a : Nat → Nat → Int32) (d : Nat → Nat → UInt64) (dp : Nat) (hdp : dp < 22) (ch : Nat) (hcs : zSg ch) (oo : Bool) (hoo : g 21 = bI oo) (x : Nat) (hox : zOk x = true) (hps : g 16 = nI x) (y : Nat) (hoy : zOk y = true) (hrs : a 11 dp = nI y) (hrx : oo = false → ∀ q, q < zCt x → zRg (d 9 q) = true) (hry : oo = false → ∀ q, q < zCt y → zRg (d 10 (24 * dp + q)) = true) : ar_M l yX9_pairs cX9_pairs 5 none 2 43 D ct (mL ad ct) [.ref (ad 0), .int (nI ch), .int (nI dp)] (g, a, d) (fun v9 u9 => v9 = none ∧ (((zEach x y).1 ≠ 0 ∧ u9 = (va_up g 23 (nI (zEach x y).1), a, d)) ∨ ((zEach x y).1 = 0 ∧ ∃ (b : Bool) (f : Nat → UInt64), zLi oo b (zCt (zEach x y).2) (zCt (zEach x y).2) f (fun q => zOp ch (d 9 (if x = 0 then 0 else q)) (d 10 (24 * dp + (if y = 0 then 0 else q)))) ∧ u9 = (va_up (va_up g 15 (nI (zEach x y).2)) 21 (bI b), a, va_up d 8 f)))) (fun _ _ => False) := by
  refine ar_ofW hl9 (by decide) (Nat.le_of_ble_eq_true rfl) ?_
  intro p e s m below meth c A ls C hr hnm hW hl
  have hx := C.1
  have hb := C.2.1
  have hown := C.2.2.2.1
  have hts := C.2.2.2.2.1
  have hl : lv_has ls 5 [(0, .ref (ad 0)), (1, .int (nI ch)), (2, .int (nI dp))] := hl
  have hdx := zOk_num hox
  have hdy := zOk_num hoy
  refine lv_aload_n hx hb dX9_pairs_0 rfl (lv_at hl 0 rfl) ?_
  refine mg_rightShape C hW q600 dX9_pairs_1 ?_
  refine lv_iload_n hx hb dX9_pairs_4 rfl (lv_at hl 2 rfl) ?_
  refine ml_rightShape (j := dp) C hW (by omega) dX9_pairs_5 ?_
  refine ln_top (hrs) ?_
  refine lv_istore_n (lv' := [(3, .int (nI y)), (0, .ref (ad 0)), (1, .int (nI ch)), (2, .int (nI dp))]) hx hb dX9_pairs_6 rfl hl (by decide) rfl (fun ls hl => ?_)
  refine lv_aload_n hx hb dX9_pairs_7 rfl (lv_at hl 1 rfl) ?_
  refine mg_partShape C hW q603 dX9_pairs_8 ?_
  refine ln_top (hps) ?_
  refine lv_iload_n hx hb dX9_pairs_11 rfl (lv_at hl 0 rfl) ?_
  refine ln_icmp_eq (tgt := 32) hx hb dX9_pairs_12 (by decide) (by omega) (by omega) (fun h1 => ?_) (fun h1 => ?_)
  · skip
    have hE : (zEach x y).1 = 0 := by unfold zEach; rw [if_neg (by omega)]
    have hE2 : zEach x y = (0, (zEach x y).2) := Prod.ext hE rfl
    have hzo := zEach_ok hox hoy hE
    have hz9 := zOk_num hzo
    have he0 := zEach_0 hE2
    refine lv_aload_n hx hb dX9_pairs_32 rfl (lv_at hl 1 rfl) ?_
    refine lv_aload_n hx hb dX9_pairs_33 rfl (lv_at hl 1 rfl) ?_
    refine mg_partShape C hW q603 dX9_pairs_34 ?_
    refine ln_top (hps) ?_
    refine ln_if_ne (tgt := 44) hx hb dX9_pairs_37 (by decide) (by omega) (fun h2 => ?_) (fun h2 => ?_)
    · skip
      refine lv_aload_n hx hb dX9_pairs_44 rfl (lv_at hl 1 rfl) ?_
      refine mg_partShape C hW q603 dX9_pairs_45 ?_
      refine ln_top (hps) ?_
      refine ln_top (a := (zEach x y).2) (congrArg nI (by unfold zEach; rw [if_neg (by omega)]; show _ = if x = 0 then y else x; first | (exfalso; omega) | rw [if_pos (by omega)] | rw [if_neg (by omega)])) ?_
      refine mp_nowShape C hW q602 dX9_pairs_48 (fun H locs hW => ?_)
      refine lv_iconst (v := nI 0) hx hb dX9_pairs_51 (by decide) ?_
      refine lv_istore (lv' := [(4, .int (nI 0)), (3, .int (nI y)), (0, .ref (ad 0)), (1, .int (nI ch)), (2, .int (nI dp))]) hx hb dX9_pairs_52 hl (by decide) rfl (fun ls hl => ?_)
      have lp : ∀ (N9 : Nat) (k : Nat) (b : Bool) (f : Nat → UInt64) (H : Heap) (locs : List Loc) (ls : Array Slot), zCt (zEach x y).2 - k < N9 → (k ≤ zCt (zEach x y).2) → (zLi oo b k (zCt (zEach x y).2) f (fun q => zOp ch (d 9 (if x = 0 then 0 else q)) (d 10 (24 * dp + (if y = 0 then 0 else q))))) → ar_W D A s.heap H locs (mL ad ct (va_up (va_up g 15 (nI (zEach x y).2)) 21 (bI b), a, va_up d 8 f)) → lv_has ls 5 [(0, .ref (ad 0)), (1, .int (nI ch)), (2, .int (nI dp)), (3, .int (nI y)), (4, .int (nI k))] → W p l e (ar_rm 2 43) s m [.ref (ad 0), .int (nI ch), .int (nI dp)].toArray below meth c H locs 0 0 (ar_E below (ar_Q D ct (mL ad ct) A (fun v9 u9 => v9 = none ∧ (((zEach x y).1 ≠ 0 ∧ u9 = (va_up g 23 (nI (zEach x y).1), a, d)) ∨ ((zEach x y).1 = 0 ∧ ∃ (b : Bool) (f : Nat → UInt64), zLi oo b (zCt (zEach x y).2) (zCt (zEach x y).2) f (fun q => zOp ch (d 9 (if x = 0 then 0 else q)) (d 10 (24 * dp + (if y = 0 then 0 else q)))) ∧ u9 = (va_up (va_up g 15 (nI (zEach x y).2)) 21 (bI b), a, va_up d 8 f)))) (fun _ _ => False)) [.ref (ad 0), .int (nI ch), .int (nI dp)].toArray s) (F0 m 54 ls []) := by
        intro N9
        induction N9 with
        | zero =>
          intro k b f H locs ls hN9
          exact absurd hN9 (Nat.not_lt_zero _)
        | succ N9 ihlp =>
          intro k b f H locs ls hN9 hk hli hW hl
          refine lv_iload hx hb dX9_pairs_54 (lv_at hl 4 rfl) ?_
          refine lv_aload_n hx hb dX9_pairs_56 rfl (lv_at hl 0 rfl) ?_
          refine mg_nowShape C hW q602 dX9_pairs_57 ?_
          rw [va_up_ne _ _ (by decide)]
          rw [va_up_self]
          refine ar_callS (As := [.int (nI ((zEach x y).2))]) (rest := [.int (nI k)]) C hW (c_X9_count hl9 _ ((zEach x y).2) (by omega)) q709 q710 q6 q711 hd_X9_count ⟨Nat.le_of_ble_eq_true rfl, Nat.le_of_ble_eq_true rfl⟩ hl.1 (Nat.le_of_ble_eq_true rfl) rfl dX9_pairs_60 (fun _ _ _ _ _ _ hp => hp.elim) (fun v9 u9 H locs hp hW => ?_)
          obtain ⟨rfl, hu9⟩ := hp
          rw [hu9] at hW
          refine W.eq (g2 := F0 m 63 ls [.int (nI (zCt ((zEach x y).2))), .int (nI k)]) rfl ?_
          refine ln_icmp_ge (tgt := 139) hx hb dX9_pairs_63 (by decide) (by omega) (by omega) (fun h3 => ?_) (fun h3 => ?_)
          · skip
            exact ar_vret C hr hW dX9_pairs_139 (⟨rfl, Or.inr ⟨hE, b, f, zLi_e hli (by first | exact Or.inl h3 | exact Or.inr (by omega)), rfl⟩⟩)
          · skip
            refine lv_aload_n hx hb dX9_pairs_66 rfl (lv_at hl 0 rfl) ?_
            refine mg_outOfRange C hW q608 dX9_pairs_67 ?_
            rw [va_up_self]
            refine lb_if_ne (tgt := 139) hx hb dX9_pairs_70 (by decide) (fun h4 => ?_) (fun h4 => ?_)
            · skip
              exact ar_vret C hr hW dX9_pairs_139 (⟨rfl, Or.inr ⟨hE, b, f, zLi_e hli (by first | exact Or.inl h4 | exact Or.inr (by omega)), rfl⟩⟩)
            · skip
              have hb0 := zLi_oo hli h4
              refine lv_aload_n hx hb dX9_pairs_73 rfl (lv_at hl 0 rfl) ?_
              refine mg_now C hW q597 dX9_pairs_74 ?_
              refine lv_iload hx hb dX9_pairs_77 (lv_at hl 4 rfl) ?_
              refine lv_iload_n hx hb dX9_pairs_79 rfl (lv_at hl 1 rfl) ?_
              refine lv_aload_n hx hb dX9_pairs_80 rfl (lv_at hl 0 rfl) ?_
              refine mg_part C hW q598 dX9_pairs_81 ?_
              refine lv_aload_n hx hb dX9_pairs_84 rfl (lv_at hl 0 rfl) ?_
              refine mg_partShape C hW q603 dX9_pairs_85 ?_
              rw [va_up_ne _ _ (by decide)]
              rw [va_up_ne _ _ (by decide)]
              refine ln_top (hps) ?_
              refine ln_if_ne (tgt := 95) hx hb dX9_pairs_88 (by decide) (by omega) (fun h5 => ?_) (fun h5 => ?_)
              · skip
                refine lv_iload hx hb dX9_pairs_95 (lv_at hl 4 rfl) ?_
                refine ml_part (j := k) C hW (by omega) dX9_pairs_97 ?_
                rw [va_up_ne _ _ (by omega)]
                rw [show d 9 k = d 9 (if x = 0 then 0 else k) by first | (exfalso; omega) | rw [if_pos (by omega)] | rw [if_neg (by omega)]]
                refine lv_aload_n hx hb dX9_pairs_98 rfl (lv_at hl 0 rfl) ?_
                refine mg_right C hW q599 dX9_pairs_99 ?_
                refine lv_bipush (v := nI 24) hx hb dX9_pairs_102 (by decide) ?_
                refine lv_iload_n hx hb dX9_pairs_104 rfl (lv_at hl 2 rfl) ?_
                refine ln_imul hx hb dX9_pairs_105 ?_
                refine lv_iload_n hx hb dX9_pairs_106 rfl (lv_at hl 3 rfl) ?_
                refine ln_if_ne (tgt := 114) hx hb dX9_pairs_107 (by decide) (by omega) (fun h6 => ?_) (fun h6 => ?_)
                · skip
                  refine lv_iload hx hb dX9_pairs_114 (lv_at hl 4 rfl) ?_
                  refine ln_iadd hx hb dX9_pairs_116 ?_
                  refine ml_right (j := (24 * dp) + k) C hW (by omega) dX9_pairs_117 ?_
                  rw [va_up_ne _ _ (by omega)]
                  rw [show d 10 ((24 * dp) + k) = d 10 (24 * dp + (if y = 0 then 0 else k)) by first | (exfalso; omega) | rw [if_pos (by omega)] | rw [if_neg (by omega)]]
                  refine ar_callS (As := [.int (nI ch), .double (d 9 (if x = 0 then 0 else k)), .double (d 10 (24 * dp + (if y = 0 then 0 else k)))]) (rest := [.int (nI k), .ref (ad 8)]) C hW (c_X9_join hl9 _ ch (d 9 (if x = 0 then 0 else k)) (d 10 (24 * dp + (if y = 0 then 0 else k))) (hcs) (zRg_nn _ (hrx hb0 _ (by by_cases h77 : x = 0; rw [if_pos h77]; omega; rw [if_neg h77, he0.1 h77]; omega)) (hry hb0 _ (by by_cases h77 : y = 0; rw [if_pos h77]; omega; rw [if_neg h77, he0.2 h77]; omega)))) q773 q774 q6 q775 hd_X9_join ⟨Nat.le_of_ble_eq_true rfl, Nat.le_of_ble_eq_true rfl⟩ hl.1 (Nat.le_of_ble_eq_true rfl) rfl dX9_pairs_118 (fun _ _ _ _ _ _ hp => hp.elim) (fun v9 u9 H locs hp hW => ?_)
                  obtain ⟨rfl, hu9⟩ := hp
                  rw [hu9] at hW
                  refine W.eq (g2 := F0 m 121 ls [.double (zOp ch (d 9 (if x = 0 then 0 else k)) (d 10 (24 * dp + (if y = 0 then 0 else k)))), .int (nI k), .ref (ad 8)]) rfl ?_
                  refine ms_now (j := k) C hW (by omega) dX9_pairs_121 (fun H locs hW => ?_)
                  simp only [bx_uu, va_up_self] at hW
                  refine lv_aload_n hx hb dX9_pairs_122 rfl (lv_at hl 0 rfl) ?_
                  refine lv_aload_n hx hb dX9_pairs_123 rfl (lv_at hl 0 rfl) ?_
                  refine mg_now C hW q597 dX9_pairs_124 ?_
                  refine lv_iload hx hb dX9_pairs_127 (lv_at hl 4 rfl) ?_
                  refine ml_now (j := k) C hW (by omega) dX9_pairs_129 ?_
                  rw [va_up_self]
                  rw [va_up_self]
                  refine ar_callV (q0 := 0) (ci := 7) (T9 := TX9) (N9 := 27) (As := [.double (zOp ch (d 9 (if x = 0 then 0 else k)) (d 10 (24 * dp + (if y = 0 then 0 else k))))]) (rest := []) C hW (c_X9_check hl9 (va_up (va_up g 15 (nI (zEach x y).2)) 21 (bI b)) a (va_up d 8 (va_up f k (zOp ch (d 9 (if x = 0 then 0 else k)) (d 10 (24 * dp + (if y = 0 then 0 else k)))))) (zOp ch (d 9 (if x = 0 then 0 else k)) (d 10 (24 * dp + (if y = 0 then 0 else k)))) b (va_up_self _ _ _)) (rfl) rfl q776 q778 qs11 q6 q779 hd_X9_check ⟨Nat.le_of_ble_eq_true rfl, Nat.le_of_ble_eq_true rfl⟩ hl.1 (Nat.le_of_ble_eq_true rfl) rfl dX9_pairs_130 (fun _ _ _ _ _ _ hp => hp.elim) (fun v9 u9 H locs hp hW => ?_)
                  obtain ⟨rfl, hu9⟩ := hp
                  rw [hu9] at hW
                  rw [bx_uu] at hW
                  refine W.eq (g2 := F0 m 133 ls []) rfl ?_
                  refine ln_iinc (k := 4) (n := 1) (lv' := [(4, .int (nI (k + 1))), (0, .ref (ad 0)), (1, .int (nI ch)), (2, .int (nI dp)), (3, .int (nI y))]) hx hb dX9_pairs_133 hl rfl (by decide) rfl (fun ls hl => ?_)
                  refine lv_goto (tgt := 54) hx hb dX9_pairs_136 (by decide) ?_
                  exact ihlp (k + 1) (b || !(zRg (zOp ch (d 9 (if x = 0 then 0 else k)) (d 10 (24 * dp + (if y = 0 then 0 else k)))))) (va_up f k (zOp ch (d 9 (if x = 0 then 0 else k)) (d 10 (24 * dp + (if y = 0 then 0 else k))))) _ _ _ (by omega) (by omega) (zLi_s (F := (fun q => zOp ch (d 9 (if x = 0 then 0 else q)) (d 10 (24 * dp + (if y = 0 then 0 else q))))) (by omega) hli h4) (hW) (lv_sub hl [1, 2, 3, 4, 0] rfl)
                · skip
                  refine lv_iconst (v := nI 0) hx hb dX9_pairs_110 (by decide) ?_
                  refine lv_goto (tgt := 116) hx hb dX9_pairs_111 (by decide) ?_
                  refine ln_iadd hx hb dX9_pairs_116 ?_
                  refine ml_right (j := (24 * dp) + 0) C hW (by omega) dX9_pairs_117 ?_
                  rw [va_up_ne _ _ (by omega)]
                  rw [show d 10 ((24 * dp) + 0) = d 10 (24 * dp + (if y = 0 then 0 else k)) by first | (exfalso; omega) | rw [if_pos (by omega)] | rw [if_neg (by omega)]]
                  refine ar_callS (As := [.int (nI ch), .double (d 9 (if x = 0 then 0 else k)), .double (d 10 (24 * dp + (if y = 0 then 0 else k)))]) (rest := [.int (nI k), .ref (ad 8)]) C hW (c_X9_join hl9 _ ch (d 9 (if x = 0 then 0 else k)) (d 10 (24 * dp + (if y = 0 then 0 else k))) (hcs) (zRg_nn _ (hrx hb0 _ (by by_cases h77 : x = 0; rw [if_pos h77]; omega; rw [if_neg h77, he0.1 h77]; omega)) (hry hb0 _ (by by_cases h77 : y = 0; rw [if_pos h77]; omega; rw [if_neg h77, he0.2 h77]; omega)))) q773 q774 q6 q775 hd_X9_join ⟨Nat.le_of_ble_eq_true rfl, Nat.le_of_ble_eq_true rfl⟩ hl.1 (Nat.le_of_ble_eq_true rfl) rfl dX9_pairs_118 (fun _ _ _ _ _ _ hp => hp.elim) (fun v9 u9 H locs hp hW => ?_)
                  obtain ⟨rfl, hu9⟩ := hp
                  rw [hu9] at hW
                  refine W.eq (g2 := F0 m 121 ls [.double (zOp ch (d 9 (if x = 0 then 0 else k)) (d 10 (24 * dp + (if y = 0 then 0 else k)))), .int (nI k), .ref (ad 8)]) rfl ?_
                  refine ms_now (j := k) C hW (by omega) dX9_pairs_121 (fun H locs hW => ?_)
                  simp only [bx_uu, va_up_self] at hW
                  refine lv_aload_n hx hb dX9_pairs_122 rfl (lv_at hl 0 rfl) ?_
                  refine lv_aload_n hx hb dX9_pairs_123 rfl (lv_at hl 0 rfl) ?_
                  refine mg_now C hW q597 dX9_pairs_124 ?_
                  refine lv_iload hx hb dX9_pairs_127 (lv_at hl 4 rfl) ?_
                  refine ml_now (j := k) C hW (by omega) dX9_pairs_129 ?_
                  rw [va_up_self]
                  rw [va_up_self]
                  refine ar_callV (q0 := 0) (ci := 7) (T9 := TX9) (N9 := 27) (As := [.double (zOp ch (d 9 (if x = 0 then 0 else k)) (d 10 (24 * dp + (if y = 0 then 0 else k))))]) (rest := []) C hW (c_X9_check hl9 (va_up (va_up g 15 (nI (zEach x y).2)) 21 (bI b)) a (va_up d 8 (va_up f k (zOp ch (d 9 (if x = 0 then 0 else k)) (d 10 (24 * dp + (if y = 0 then 0 else k)))))) (zOp ch (d 9 (if x = 0 then 0 else k)) (d 10 (24 * dp + (if y = 0 then 0 else k)))) b (va_up_self _ _ _)) (rfl) rfl q776 q778 qs11 q6 q779 hd_X9_check ⟨Nat.le_of_ble_eq_true rfl, Nat.le_of_ble_eq_true rfl⟩ hl.1 (Nat.le_of_ble_eq_true rfl) rfl dX9_pairs_130 (fun _ _ _ _ _ _ hp => hp.elim) (fun v9 u9 H locs hp hW => ?_)
                  obtain ⟨rfl, hu9⟩ := hp
                  rw [hu9] at hW
                  rw [bx_uu] at hW
                  refine W.eq (g2 := F0 m 133 ls []) rfl ?_
                  refine ln_iinc (k := 4) (n := 1) (lv' := [(4, .int (nI (k + 1))), (0, .ref (ad 0)), (1, .int (nI ch)), (2, .int (nI dp)), (3, .int (nI y))]) hx hb dX9_pairs_133 hl rfl (by decide) rfl (fun ls hl => ?_)
                  refine lv_goto (tgt := 54) hx hb dX9_pairs_136 (by decide) ?_
                  exact ihlp (k + 1) (b || !(zRg (zOp ch (d 9 (if x = 0 then 0 else k)) (d 10 (24 * dp + (if y = 0 then 0 else k)))))) (va_up f k (zOp ch (d 9 (if x = 0 then 0 else k)) (d 10 (24 * dp + (if y = 0 then 0 else k))))) _ _ _ (by omega) (by omega) (zLi_s (F := (fun q => zOp ch (d 9 (if x = 0 then 0 else q)) (d 10 (24 * dp + (if y = 0 then 0 else q))))) (by omega) hli h4) (hW) (lv_sub hl [1, 2, 3, 4, 0] rfl)
              · skip
                refine lv_iconst (v := nI 0) hx hb dX9_pairs_91 (by decide) ?_
                refine lv_goto (tgt := 97) hx hb dX9_pairs_92 (by decide) ?_
                refine ml_part (j := 0) C hW (by omega) dX9_pairs_97 ?_
                rw [va_up_ne _ _ (by omega)]
                rw [show d 9 0 = d 9 (if x = 0 then 0 else k) by first | (exfalso; omega) | rw [if_pos (by omega)] | rw [if_neg (by omega)]]
                refine lv_aload_n hx hb dX9_pairs_98 rfl (lv_at hl 0 rfl) ?_
                refine mg_right C hW q599 dX9_pairs_99 ?_
                refine lv_bipush (v := nI 24) hx hb dX9_pairs_102 (by decide) ?_
                refine lv_iload_n hx hb dX9_pairs_104 rfl (lv_at hl 2 rfl) ?_
                refine ln_imul hx hb dX9_pairs_105 ?_
                refine lv_iload_n hx hb dX9_pairs_106 rfl (lv_at hl 3 rfl) ?_
                refine ln_if_ne (tgt := 114) hx hb dX9_pairs_107 (by decide) (by omega) (fun h7 => ?_) (fun h7 => ?_)
                · skip
                  refine lv_iload hx hb dX9_pairs_114 (lv_at hl 4 rfl) ?_
                  refine ln_iadd hx hb dX9_pairs_116 ?_
                  refine ml_right (j := (24 * dp) + k) C hW (by omega) dX9_pairs_117 ?_
                  rw [va_up_ne _ _ (by omega)]
                  rw [show d 10 ((24 * dp) + k) = d 10 (24 * dp + (if y = 0 then 0 else k)) by first | (exfalso; omega) | rw [if_pos (by omega)] | rw [if_neg (by omega)]]
                  refine ar_callS (As := [.int (nI ch), .double (d 9 (if x = 0 then 0 else k)), .double (d 10 (24 * dp + (if y = 0 then 0 else k)))]) (rest := [.int (nI k), .ref (ad 8)]) C hW (c_X9_join hl9 _ ch (d 9 (if x = 0 then 0 else k)) (d 10 (24 * dp + (if y = 0 then 0 else k))) (hcs) (zRg_nn _ (hrx hb0 _ (by by_cases h77 : x = 0; rw [if_pos h77]; omega; rw [if_neg h77, he0.1 h77]; omega)) (hry hb0 _ (by by_cases h77 : y = 0; rw [if_pos h77]; omega; rw [if_neg h77, he0.2 h77]; omega)))) q773 q774 q6 q775 hd_X9_join ⟨Nat.le_of_ble_eq_true rfl, Nat.le_of_ble_eq_true rfl⟩ hl.1 (Nat.le_of_ble_eq_true rfl) rfl dX9_pairs_118 (fun _ _ _ _ _ _ hp => hp.elim) (fun v9 u9 H locs hp hW => ?_)
                  obtain ⟨rfl, hu9⟩ := hp
                  rw [hu9] at hW
                  refine W.eq (g2 := F0 m 121 ls [.double (zOp ch (d 9 (if x = 0 then 0 else k)) (d 10 (24 * dp + (if y = 0 then 0 else k)))), .int (nI k), .ref (ad 8)]) rfl ?_
                  refine ms_now (j := k) C hW (by omega) dX9_pairs_121 (fun H locs hW => ?_)
                  simp only [bx_uu, va_up_self] at hW
                  refine lv_aload_n hx hb dX9_pairs_122 rfl (lv_at hl 0 rfl) ?_
                  refine lv_aload_n hx hb dX9_pairs_123 rfl (lv_at hl 0 rfl) ?_
                  refine mg_now C hW q597 dX9_pairs_124 ?_
                  refine lv_iload hx hb dX9_pairs_127 (lv_at hl 4 rfl) ?_
                  refine ml_now (j := k) C hW (by omega) dX9_pairs_129 ?_
                  rw [va_up_self]
                  rw [va_up_self]
                  refine ar_callV (q0 := 0) (ci := 7) (T9 := TX9) (N9 := 27) (As := [.double (zOp ch (d 9 (if x = 0 then 0 else k)) (d 10 (24 * dp + (if y = 0 then 0 else k))))]) (rest := []) C hW (c_X9_check hl9 (va_up (va_up g 15 (nI (zEach x y).2)) 21 (bI b)) a (va_up d 8 (va_up f k (zOp ch (d 9 (if x = 0 then 0 else k)) (d 10 (24 * dp + (if y = 0 then 0 else k)))))) (zOp ch (d 9 (if x = 0 then 0 else k)) (d 10 (24 * dp + (if y = 0 then 0 else k)))) b (va_up_self _ _ _)) (rfl) rfl q776 q778 qs11 q6 q779 hd_X9_check ⟨Nat.le_of_ble_eq_true rfl, Nat.le_of_ble_eq_true rfl⟩ hl.1 (Nat.le_of_ble_eq_true rfl) rfl dX9_pairs_130 (fun _ _ _ _ _ _ hp => hp.elim) (fun v9 u9 H locs hp hW => ?_)
                  obtain ⟨rfl, hu9⟩ := hp
                  rw [hu9] at hW
                  rw [bx_uu] at hW
                  refine W.eq (g2 := F0 m 133 ls []) rfl ?_
                  refine ln_iinc (k := 4) (n := 1) (lv' := [(4, .int (nI (k + 1))), (0, .ref (ad 0)), (1, .int (nI ch)), (2, .int (nI dp)), (3, .int (nI y))]) hx hb dX9_pairs_133 hl rfl (by decide) rfl (fun ls hl => ?_)
                  refine lv_goto (tgt := 54) hx hb dX9_pairs_136 (by decide) ?_
                  exact ihlp (k + 1) (b || !(zRg (zOp ch (d 9 (if x = 0 then 0 else k)) (d 10 (24 * dp + (if y = 0 then 0 else k)))))) (va_up f k (zOp ch (d 9 (if x = 0 then 0 else k)) (d 10 (24 * dp + (if y = 0 then 0 else k))))) _ _ _ (by omega) (by omega) (zLi_s (F := (fun q => zOp ch (d 9 (if x = 0 then 0 else q)) (d 10 (24 * dp + (if y = 0 then 0 else q))))) (by omega) hli h4) (hW) (lv_sub hl [1, 2, 3, 4, 0] rfl)
                · skip
                  refine lv_iconst (v := nI 0) hx hb dX9_pairs_110 (by decide) ?_
                  refine lv_goto (tgt := 116) hx hb dX9_pairs_111 (by decide) ?_
                  refine ln_iadd hx hb dX9_pairs_116 ?_
                  refine ml_right (j := (24 * dp) + 0) C hW (by omega) dX9_pairs_117 ?_
                  rw [va_up_ne _ _ (by omega)]
                  rw [show d 10 ((24 * dp) + 0) = d 10 (24 * dp + (if y = 0 then 0 else k)) by first | (exfalso; omega) | rw [if_pos (by omega)] | rw [if_neg (by omega)]]
                  refine ar_callS (As := [.int (nI ch), .double (d 9 (if x = 0 then 0 else k)), .double (d 10 (24 * dp + (if y = 0 then 0 else k)))]) (rest := [.int (nI k), .ref (ad 8)]) C hW (c_X9_join hl9 _ ch (d 9 (if x = 0 then 0 else k)) (d 10 (24 * dp + (if y = 0 then 0 else k))) (hcs) (zRg_nn _ (hrx hb0 _ (by by_cases h77 : x = 0; rw [if_pos h77]; omega; rw [if_neg h77, he0.1 h77]; omega)) (hry hb0 _ (by by_cases h77 : y = 0; rw [if_pos h77]; omega; rw [if_neg h77, he0.2 h77]; omega)))) q773 q774 q6 q775 hd_X9_join ⟨Nat.le_of_ble_eq_true rfl, Nat.le_of_ble_eq_true rfl⟩ hl.1 (Nat.le_of_ble_eq_true rfl) rfl dX9_pairs_118 (fun _ _ _ _ _ _ hp => hp.elim) (fun v9 u9 H locs hp hW => ?_)
                  obtain ⟨rfl, hu9⟩ := hp
                  rw [hu9] at hW
                  refine W.eq (g2 := F0 m 121 ls [.double (zOp ch (d 9 (if x = 0 then 0 else k)) (d 10 (24 * dp + (if y = 0 then 0 else k)))), .int (nI k), .ref (ad 8)]) rfl ?_
                  refine ms_now (j := k) C hW (by omega) dX9_pairs_121 (fun H locs hW => ?_)
                  simp only [bx_uu, va_up_self] at hW
                  refine lv_aload_n hx hb dX9_pairs_122 rfl (lv_at hl 0 rfl) ?_
                  refine lv_aload_n hx hb dX9_pairs_123 rfl (lv_at hl 0 rfl) ?_
                  refine mg_now C hW q597 dX9_pairs_124 ?_
                  refine lv_iload hx hb dX9_pairs_127 (lv_at hl 4 rfl) ?_
                  refine ml_now (j := k) C hW (by omega) dX9_pairs_129 ?_
                  rw [va_up_self]
                  rw [va_up_self]
                  refine ar_callV (q0 := 0) (ci := 7) (T9 := TX9) (N9 := 27) (As := [.double (zOp ch (d 9 (if x = 0 then 0 else k)) (d 10 (24 * dp + (if y = 0 then 0 else k))))]) (rest := []) C hW (c_X9_check hl9 (va_up (va_up g 15 (nI (zEach x y).2)) 21 (bI b)) a (va_up d 8 (va_up f k (zOp ch (d 9 (if x = 0 then 0 else k)) (d 10 (24 * dp + (if y = 0 then 0 else k)))))) (zOp ch (d 9 (if x = 0 then 0 else k)) (d 10 (24 * dp + (if y = 0 then 0 else k)))) b (va_up_self _ _ _)) (rfl) rfl q776 q778 qs11 q6 q779 hd_X9_check ⟨Nat.le_of_ble_eq_true rfl, Nat.le_of_ble_eq_true rfl⟩ hl.1 (Nat.le_of_ble_eq_true rfl) rfl dX9_pairs_130 (fun _ _ _ _ _ _ hp => hp.elim) (fun v9 u9 H locs hp hW => ?_)
                  obtain ⟨rfl, hu9⟩ := hp
                  rw [hu9] at hW
                  rw [bx_uu] at hW
                  refine W.eq (g2 := F0 m 133 ls []) rfl ?_
                  refine ln_iinc (k := 4) (n := 1) (lv' := [(4, .int (nI (k + 1))), (0, .ref (ad 0)), (1, .int (nI ch)), (2, .int (nI dp)), (3, .int (nI y))]) hx hb dX9_pairs_133 hl rfl (by decide) rfl (fun ls hl => ?_)
                  refine lv_goto (tgt := 54) hx hb dX9_pairs_136 (by decide) ?_
                  exact ihlp (k + 1) (b || !(zRg (zOp ch (d 9 (if x = 0 then 0 else k)) (d 10 (24 * dp + (if y = 0 then 0 else k)))))) (va_up f k (zOp ch (d 9 (if x = 0 then 0 else k)) (d 10 (24 * dp + (if y = 0 then 0 else k))))) _ _ _ (by omega) (by omega) (zLi_s (F := (fun q => zOp ch (d 9 (if x = 0 then 0 else q)) (d 10 (24 * dp + (if y = 0 then 0 else q))))) (by omega) hli h4) (hW) (lv_sub hl [1, 2, 3, 4, 0] rfl)
      exact lp _ 0 oo (d 8) _ _ _ (Nat.lt_succ_self _) (Nat.zero_le _) (zLi_0) (by rw [va_up_s (f := va_up g 15 (nI (zEach x y).2)) (k := 21) hoo, va_up_id]; exact hW) (lv_sub hl [2, 3, 4, 1, 0] rfl)
    · skip
      refine lv_iload_n hx hb dX9_pairs_40 rfl (lv_at hl 0 rfl) ?_
      refine lv_goto (tgt := 48) hx hb dX9_pairs_41 (by decide) ?_
      refine ln_top (a := (zEach x y).2) (congrArg nI (by unfold zEach; rw [if_neg (by omega)]; show _ = if x = 0 then y else x; first | (exfalso; omega) | rw [if_pos (by omega)] | rw [if_neg (by omega)])) ?_
      refine mp_nowShape C hW q602 dX9_pairs_48 (fun H locs hW => ?_)
      refine lv_iconst (v := nI 0) hx hb dX9_pairs_51 (by decide) ?_
      refine lv_istore (lv' := [(4, .int (nI 0)), (3, .int (nI y)), (0, .ref (ad 0)), (1, .int (nI ch)), (2, .int (nI dp))]) hx hb dX9_pairs_52 hl (by decide) rfl (fun ls hl => ?_)
      have lp : ∀ (N9 : Nat) (k : Nat) (b : Bool) (f : Nat → UInt64) (H : Heap) (locs : List Loc) (ls : Array Slot), zCt (zEach x y).2 - k < N9 → (k ≤ zCt (zEach x y).2) → (zLi oo b k (zCt (zEach x y).2) f (fun q => zOp ch (d 9 (if x = 0 then 0 else q)) (d 10 (24 * dp + (if y = 0 then 0 else q))))) → ar_W D A s.heap H locs (mL ad ct (va_up (va_up g 15 (nI (zEach x y).2)) 21 (bI b), a, va_up d 8 f)) → lv_has ls 5 [(0, .ref (ad 0)), (1, .int (nI ch)), (2, .int (nI dp)), (3, .int (nI y)), (4, .int (nI k))] → W p l e (ar_rm 2 43) s m [.ref (ad 0), .int (nI ch), .int (nI dp)].toArray below meth c H locs 0 0 (ar_E below (ar_Q D ct (mL ad ct) A (fun v9 u9 => v9 = none ∧ (((zEach x y).1 ≠ 0 ∧ u9 = (va_up g 23 (nI (zEach x y).1), a, d)) ∨ ((zEach x y).1 = 0 ∧ ∃ (b : Bool) (f : Nat → UInt64), zLi oo b (zCt (zEach x y).2) (zCt (zEach x y).2) f (fun q => zOp ch (d 9 (if x = 0 then 0 else q)) (d 10 (24 * dp + (if y = 0 then 0 else q)))) ∧ u9 = (va_up (va_up g 15 (nI (zEach x y).2)) 21 (bI b), a, va_up d 8 f)))) (fun _ _ => False)) [.ref (ad 0), .int (nI ch), .int (nI dp)].toArray s) (F0 m 54 ls []) := by
        intro N9
        induction N9 with
        | zero =>
          intro k b f H locs ls hN9
          exact absurd hN9 (Nat.not_lt_zero _)
        | succ N9 ihlp =>
          intro k b f H locs ls hN9 hk hli hW hl
          refine lv_iload hx hb dX9_pairs_54 (lv_at hl 4 rfl) ?_
          refine lv_aload_n hx hb dX9_pairs_56 rfl (lv_at hl 0 rfl) ?_
          refine mg_nowShape C hW q602 dX9_pairs_57 ?_
          rw [va_up_ne _ _ (by decide)]
          rw [va_up_self]
          refine ar_callS (As := [.int (nI ((zEach x y).2))]) (rest := [.int (nI k)]) C hW (c_X9_count hl9 _ ((zEach x y).2) (by omega)) q709 q710 q6 q711 hd_X9_count ⟨Nat.le_of_ble_eq_true rfl, Nat.le_of_ble_eq_true rfl⟩ hl.1 (Nat.le_of_ble_eq_true rfl) rfl dX9_pairs_60 (fun _ _ _ _ _ _ hp => hp.elim) (fun v9 u9 H locs hp hW => ?_)
          obtain ⟨rfl, hu9⟩ := hp
          rw [hu9] at hW
          refine W.eq (g2 := F0 m 63 ls [.int (nI (zCt ((zEach x y).2))), .int (nI k)]) rfl ?_
          refine ln_icmp_ge (tgt := 139) hx hb dX9_pairs_63 (by decide) (by omega) (by omega) (fun h8 => ?_) (fun h8 => ?_)
          · skip
            exact ar_vret C hr hW dX9_pairs_139 (⟨rfl, Or.inr ⟨hE, b, f, zLi_e hli (by first | exact Or.inl h8 | exact Or.inr (by omega)), rfl⟩⟩)
          · skip
            refine lv_aload_n hx hb dX9_pairs_66 rfl (lv_at hl 0 rfl) ?_
            refine mg_outOfRange C hW q608 dX9_pairs_67 ?_
            rw [va_up_self]
            refine lb_if_ne (tgt := 139) hx hb dX9_pairs_70 (by decide) (fun h9 => ?_) (fun h9 => ?_)
            · skip
              exact ar_vret C hr hW dX9_pairs_139 (⟨rfl, Or.inr ⟨hE, b, f, zLi_e hli (by first | exact Or.inl h9 | exact Or.inr (by omega)), rfl⟩⟩)
            · skip
              have hb0 := zLi_oo hli h9
              refine lv_aload_n hx hb dX9_pairs_73 rfl (lv_at hl 0 rfl) ?_
              refine mg_now C hW q597 dX9_pairs_74 ?_
              refine lv_iload hx hb dX9_pairs_77 (lv_at hl 4 rfl) ?_
              refine lv_iload_n hx hb dX9_pairs_79 rfl (lv_at hl 1 rfl) ?_
              refine lv_aload_n hx hb dX9_pairs_80 rfl (lv_at hl 0 rfl) ?_
              refine mg_part C hW q598 dX9_pairs_81 ?_
              refine lv_aload_n hx hb dX9_pairs_84 rfl (lv_at hl 0 rfl) ?_
              refine mg_partShape C hW q603 dX9_pairs_85 ?_
              rw [va_up_ne _ _ (by decide)]
              rw [va_up_ne _ _ (by decide)]
              refine ln_top (hps) ?_
              refine ln_if_ne (tgt := 95) hx hb dX9_pairs_88 (by decide) (by omega) (fun h10 => ?_) (fun h10 => ?_)
              · skip
                refine lv_iload hx hb dX9_pairs_95 (lv_at hl 4 rfl) ?_
                refine ml_part (j := k) C hW (by omega) dX9_pairs_97 ?_
                rw [va_up_ne _ _ (by omega)]
                rw [show d 9 k = d 9 (if x = 0 then 0 else k) by first | (exfalso; omega) | rw [if_pos (by omega)] | rw [if_neg (by omega)]]
                refine lv_aload_n hx hb dX9_pairs_98 rfl (lv_at hl 0 rfl) ?_
                refine mg_right C hW q599 dX9_pairs_99 ?_
                refine lv_bipush (v := nI 24) hx hb dX9_pairs_102 (by decide) ?_
                refine lv_iload_n hx hb dX9_pairs_104 rfl (lv_at hl 2 rfl) ?_
                refine ln_imul hx hb dX9_pairs_105 ?_
                refine lv_iload_n hx hb dX9_pairs_106 rfl (lv_at hl 3 rfl) ?_
                refine ln_if_ne (tgt := 114) hx hb dX9_pairs_107 (by decide) (by omega) (fun h11 => ?_) (fun h11 => ?_)
                · skip
                  refine lv_iload hx hb dX9_pairs_114 (lv_at hl 4 rfl) ?_
                  refine ln_iadd hx hb dX9_pairs_116 ?_
                  refine ml_right (j := (24 * dp) + k) C hW (by omega) dX9_pairs_117 ?_
                  rw [va_up_ne _ _ (by omega)]
                  rw [show d 10 ((24 * dp) + k) = d 10 (24 * dp + (if y = 0 then 0 else k)) by first | (exfalso; omega) | rw [if_pos (by omega)] | rw [if_neg (by omega)]]
                  refine ar_callS (As := [.int (nI ch), .double (d 9 (if x = 0 then 0 else k)), .double (d 10 (24 * dp + (if y = 0 then 0 else k)))]) (rest := [.int (nI k), .ref (ad 8)]) C hW (c_X9_join hl9 _ ch (d 9 (if x = 0 then 0 else k)) (d 10 (24 * dp + (if y = 0 then 0 else k))) (hcs) (zRg_nn _ (hrx hb0 _ (by by_cases h77 : x = 0; rw [if_pos h77]; omega; rw [if_neg h77, he0.1 h77]; omega)) (hry hb0 _ (by by_cases h77 : y = 0; rw [if_pos h77]; omega; rw [if_neg h77, he0.2 h77]; omega)))) q773 q774 q6 q775 hd_X9_join ⟨Nat.le_of_ble_eq_true rfl, Nat.le_of_ble_eq_true rfl⟩ hl.1 (Nat.le_of_ble_eq_true rfl) rfl dX9_pairs_118 (fun _ _ _ _ _ _ hp => hp.elim) (fun v9 u9 H locs hp hW => ?_)
                  obtain ⟨rfl, hu9⟩ := hp
                  rw [hu9] at hW
                  refine W.eq (g2 := F0 m 121 ls [.double (zOp ch (d 9 (if x = 0 then 0 else k)) (d 10 (24 * dp + (if y = 0 then 0 else k)))), .int (nI k), .ref (ad 8)]) rfl ?_
                  refine ms_now (j := k) C hW (by omega) dX9_pairs_121 (fun H locs hW => ?_)
                  simp only [bx_uu, va_up_self] at hW
                  refine lv_aload_n hx hb dX9_pairs_122 rfl (lv_at hl 0 rfl) ?_
                  refine lv_aload_n hx hb dX9_pairs_123 rfl (lv_at hl 0 rfl) ?_
                  refine mg_now C hW q597 dX9_pairs_124 ?_
                  refine lv_iload hx hb dX9_pairs_127 (lv_at hl 4 rfl) ?_
                  refine ml_now (j := k) C hW (by omega) dX9_pairs_129 ?_
                  rw [va_up_self]
                  rw [va_up_self]
                  refine ar_callV (q0 := 0) (ci := 7) (T9 := TX9) (N9 := 27) (As := [.double (zOp ch (d 9 (if x = 0 then 0 else k)) (d 10 (24 * dp + (if y = 0 then 0 else k))))]) (rest := []) C hW (c_X9_check hl9 (va_up (va_up g 15 (nI (zEach x y).2)) 21 (bI b)) a (va_up d 8 (va_up f k (zOp ch (d 9 (if x = 0 then 0 else k)) (d 10 (24 * dp + (if y = 0 then 0 else k)))))) (zOp ch (d 9 (if x = 0 then 0 else k)) (d 10 (24 * dp + (if y = 0 then 0 else k)))) b (va_up_self _ _ _)) (rfl) rfl q776 q778 qs11 q6 q779 hd_X9_check ⟨Nat.le_of_ble_eq_true rfl, Nat.le_of_ble_eq_true rfl⟩ hl.1 (Nat.le_of_ble_eq_true rfl) rfl dX9_pairs_130 (fun _ _ _ _ _ _ hp => hp.elim) (fun v9 u9 H locs hp hW => ?_)
                  obtain ⟨rfl, hu9⟩ := hp
                  rw [hu9] at hW
                  rw [bx_uu] at hW
                  refine W.eq (g2 := F0 m 133 ls []) rfl ?_
                  refine ln_iinc (k := 4) (n := 1) (lv' := [(4, .int (nI (k + 1))), (0, .ref (ad 0)), (1, .int (nI ch)), (2, .int (nI dp)), (3, .int (nI y))]) hx hb dX9_pairs_133 hl rfl (by decide) rfl (fun ls hl => ?_)
                  refine lv_goto (tgt := 54) hx hb dX9_pairs_136 (by decide) ?_
                  exact ihlp (k + 1) (b || !(zRg (zOp ch (d 9 (if x = 0 then 0 else k)) (d 10 (24 * dp + (if y = 0 then 0 else k)))))) (va_up f k (zOp ch (d 9 (if x = 0 then 0 else k)) (d 10 (24 * dp + (if y = 0 then 0 else k))))) _ _ _ (by omega) (by omega) (zLi_s (F := (fun q => zOp ch (d 9 (if x = 0 then 0 else q)) (d 10 (24 * dp + (if y = 0 then 0 else q))))) (by omega) hli h9) (hW) (lv_sub hl [1, 2, 3, 4, 0] rfl)
                · skip
                  refine lv_iconst (v := nI 0) hx hb dX9_pairs_110 (by decide) ?_
                  refine lv_goto (tgt := 116) hx hb dX9_pairs_111 (by decide) ?_
                  refine ln_iadd hx hb dX9_pairs_116 ?_
                  refine ml_right (j := (24 * dp) + 0) C hW (by omega) dX9_pairs_117 ?_
                  rw [va_up_ne _ _ (by omega)]
                  rw [show d 10 ((24 * dp) + 0) = d 10 (24 * dp + (if y = 0 then 0 else k)) by first | (exfalso; omega) | rw [if_pos (by omega)] | rw [if_neg (by omega)]]
                  refine ar_callS (As := [.int (nI ch), .double (d 9 (if x = 0 then 0 else k)), .double (d 10 (24 * dp + (if y = 0 then 0 else k)))]) (rest := [.int (nI k), .ref (ad 8)]) C hW (c_X9_join hl9 _ ch (d 9 (if x = 0 then 0 else k)) (d 10 (24 * dp + (if y = 0 then 0 else k))) (hcs) (zRg_nn _ (hrx hb0 _ (by by_cases h77 : x = 0; rw [if_pos h77]; omega; rw [if_neg h77, he0.1 h77]; omega)) (hry hb0 _ (by by_cases h77 : y = 0; rw [if_pos h77]; omega; rw [if_neg h77, he0.2 h77]; omega)))) q773 q774 q6 q775 hd_X9_join ⟨Nat.le_of_ble_eq_true rfl, Nat.le_of_ble_eq_true rfl⟩ hl.1 (Nat.le_of_ble_eq_true rfl) rfl dX9_pairs_118 (fun _ _ _ _ _ _ hp => hp.elim) (fun v9 u9 H locs hp hW => ?_)
                  obtain ⟨rfl, hu9⟩ := hp
                  rw [hu9] at hW
                  refine W.eq (g2 := F0 m 121 ls [.double (zOp ch (d 9 (if x = 0 then 0 else k)) (d 10 (24 * dp + (if y = 0 then 0 else k)))), .int (nI k), .ref (ad 8)]) rfl ?_
                  refine ms_now (j := k) C hW (by omega) dX9_pairs_121 (fun H locs hW => ?_)
                  simp only [bx_uu, va_up_self] at hW
                  refine lv_aload_n hx hb dX9_pairs_122 rfl (lv_at hl 0 rfl) ?_
                  refine lv_aload_n hx hb dX9_pairs_123 rfl (lv_at hl 0 rfl) ?_
                  refine mg_now C hW q597 dX9_pairs_124 ?_
                  refine lv_iload hx hb dX9_pairs_127 (lv_at hl 4 rfl) ?_
                  refine ml_now (j := k) C hW (by omega) dX9_pairs_129 ?_
                  rw [va_up_self]
                  rw [va_up_self]
                  refine ar_callV (q0 := 0) (ci := 7) (T9 := TX9) (N9 := 27) (As := [.double (zOp ch (d 9 (if x = 0 then 0 else k)) (d 10 (24 * dp + (if y = 0 then 0 else k))))]) (rest := []) C hW (c_X9_check hl9 (va_up (va_up g 15 (nI (zEach x y).2)) 21 (bI b)) a (va_up d 8 (va_up f k (zOp ch (d 9 (if x = 0 then 0 else k)) (d 10 (24 * dp + (if y = 0 then 0 else k)))))) (zOp ch (d 9 (if x = 0 then 0 else k)) (d 10 (24 * dp + (if y = 0 then 0 else k)))) b (va_up_self _ _ _)) (rfl) rfl q776 q778 qs11 q6 q779 hd_X9_check ⟨Nat.le_of_ble_eq_true rfl, Nat.le_of_ble_eq_true rfl⟩ hl.1 (Nat.le_of_ble_eq_true rfl) rfl dX9_pairs_130 (fun _ _ _ _ _ _ hp => hp.elim) (fun v9 u9 H locs hp hW => ?_)
                  obtain ⟨rfl, hu9⟩ := hp
                  rw [hu9] at hW
                  rw [bx_uu] at hW
                  refine W.eq (g2 := F0 m 133 ls []) rfl ?_
                  refine ln_iinc (k := 4) (n := 1) (lv' := [(4, .int (nI (k + 1))), (0, .ref (ad 0)), (1, .int (nI ch)), (2, .int (nI dp)), (3, .int (nI y))]) hx hb dX9_pairs_133 hl rfl (by decide) rfl (fun ls hl => ?_)
                  refine lv_goto (tgt := 54) hx hb dX9_pairs_136 (by decide) ?_
                  exact ihlp (k + 1) (b || !(zRg (zOp ch (d 9 (if x = 0 then 0 else k)) (d 10 (24 * dp + (if y = 0 then 0 else k)))))) (va_up f k (zOp ch (d 9 (if x = 0 then 0 else k)) (d 10 (24 * dp + (if y = 0 then 0 else k))))) _ _ _ (by omega) (by omega) (zLi_s (F := (fun q => zOp ch (d 9 (if x = 0 then 0 else q)) (d 10 (24 * dp + (if y = 0 then 0 else q))))) (by omega) hli h9) (hW) (lv_sub hl [1, 2, 3, 4, 0] rfl)
              · skip
                refine lv_iconst (v := nI 0) hx hb dX9_pairs_91 (by decide) ?_
                refine lv_goto (tgt := 97) hx hb dX9_pairs_92 (by decide) ?_
                refine ml_part (j := 0) C hW (by omega) dX9_pairs_97 ?_
                rw [va_up_ne _ _ (by omega)]
                rw [show d 9 0 = d 9 (if x = 0 then 0 else k) by first | (exfalso; omega) | rw [if_pos (by omega)] | rw [if_neg (by omega)]]
                refine lv_aload_n hx hb dX9_pairs_98 rfl (lv_at hl 0 rfl) ?_
                refine mg_right C hW q599 dX9_pairs_99 ?_
                refine lv_bipush (v := nI 24) hx hb dX9_pairs_102 (by decide) ?_
                refine lv_iload_n hx hb dX9_pairs_104 rfl (lv_at hl 2 rfl) ?_
                refine ln_imul hx hb dX9_pairs_105 ?_
                refine lv_iload_n hx hb dX9_pairs_106 rfl (lv_at hl 3 rfl) ?_
                refine ln_if_ne (tgt := 114) hx hb dX9_pairs_107 (by decide) (by omega) (fun h12 => ?_) (fun h12 => ?_)
                · skip
                  refine lv_iload hx hb dX9_pairs_114 (lv_at hl 4 rfl) ?_
                  refine ln_iadd hx hb dX9_pairs_116 ?_
                  refine ml_right (j := (24 * dp) + k) C hW (by omega) dX9_pairs_117 ?_
                  rw [va_up_ne _ _ (by omega)]
                  rw [show d 10 ((24 * dp) + k) = d 10 (24 * dp + (if y = 0 then 0 else k)) by first | (exfalso; omega) | rw [if_pos (by omega)] | rw [if_neg (by omega)]]
                  refine ar_callS (As := [.int (nI ch), .double (d 9 (if x = 0 then 0 else k)), .double (d 10 (24 * dp + (if y = 0 then 0 else k)))]) (rest := [.int (nI k), .ref (ad 8)]) C hW (c_X9_join hl9 _ ch (d 9 (if x = 0 then 0 else k)) (d 10 (24 * dp + (if y = 0 then 0 else k))) (hcs) (zRg_nn _ (hrx hb0 _ (by by_cases h77 : x = 0; rw [if_pos h77]; omega; rw [if_neg h77, he0.1 h77]; omega)) (hry hb0 _ (by by_cases h77 : y = 0; rw [if_pos h77]; omega; rw [if_neg h77, he0.2 h77]; omega)))) q773 q774 q6 q775 hd_X9_join ⟨Nat.le_of_ble_eq_true rfl, Nat.le_of_ble_eq_true rfl⟩ hl.1 (Nat.le_of_ble_eq_true rfl) rfl dX9_pairs_118 (fun _ _ _ _ _ _ hp => hp.elim) (fun v9 u9 H locs hp hW => ?_)
                  obtain ⟨rfl, hu9⟩ := hp
                  rw [hu9] at hW
                  refine W.eq (g2 := F0 m 121 ls [.double (zOp ch (d 9 (if x = 0 then 0 else k)) (d 10 (24 * dp + (if y = 0 then 0 else k)))), .int (nI k), .ref (ad 8)]) rfl ?_
                  refine ms_now (j := k) C hW (by omega) dX9_pairs_121 (fun H locs hW => ?_)
                  simp only [bx_uu, va_up_self] at hW
                  refine lv_aload_n hx hb dX9_pairs_122 rfl (lv_at hl 0 rfl) ?_
                  refine lv_aload_n hx hb dX9_pairs_123 rfl (lv_at hl 0 rfl) ?_
                  refine mg_now C hW q597 dX9_pairs_124 ?_
                  refine lv_iload hx hb dX9_pairs_127 (lv_at hl 4 rfl) ?_
                  refine ml_now (j := k) C hW (by omega) dX9_pairs_129 ?_
                  rw [va_up_self]
                  rw [va_up_self]
                  refine ar_callV (q0 := 0) (ci := 7) (T9 := TX9) (N9 := 27) (As := [.double (zOp ch (d 9 (if x = 0 then 0 else k)) (d 10 (24 * dp + (if y = 0 then 0 else k))))]) (rest := []) C hW (c_X9_check hl9 (va_up (va_up g 15 (nI (zEach x y).2)) 21 (bI b)) a (va_up d 8 (va_up f k (zOp ch (d 9 (if x = 0 then 0 else k)) (d 10 (24 * dp + (if y = 0 then 0 else k)))))) (zOp ch (d 9 (if x = 0 then 0 else k)) (d 10 (24 * dp + (if y = 0 then 0 else k)))) b (va_up_self _ _ _)) (rfl) rfl q776 q778 qs11 q6 q779 hd_X9_check ⟨Nat.le_of_ble_eq_true rfl, Nat.le_of_ble_eq_true rfl⟩ hl.1 (Nat.le_of_ble_eq_true rfl) rfl dX9_pairs_130 (fun _ _ _ _ _ _ hp => hp.elim) (fun v9 u9 H locs hp hW => ?_)
                  obtain ⟨rfl, hu9⟩ := hp
                  rw [hu9] at hW
                  rw [bx_uu] at hW
                  refine W.eq (g2 := F0 m 133 ls []) rfl ?_
                  refine ln_iinc (k := 4) (n := 1) (lv' := [(4, .int (nI (k + 1))), (0, .ref (ad 0)), (1, .int (nI ch)), (2, .int (nI dp)), (3, .int (nI y))]) hx hb dX9_pairs_133 hl rfl (by decide) rfl (fun ls hl => ?_)
                  refine lv_goto (tgt := 54) hx hb dX9_pairs_136 (by decide) ?_
                  exact ihlp (k + 1) (b || !(zRg (zOp ch (d 9 (if x = 0 then 0 else k)) (d 10 (24 * dp + (if y = 0 then 0 else k)))))) (va_up f k (zOp ch (d 9 (if x = 0 then 0 else k)) (d 10 (24 * dp + (if y = 0 then 0 else k))))) _ _ _ (by omega) (by omega) (zLi_s (F := (fun q => zOp ch (d 9 (if x = 0 then 0 else q)) (d 10 (24 * dp + (if y = 0 then 0 else q))))) (by omega) hli h9) (hW) (lv_sub hl [1, 2, 3, 4, 0] rfl)
                · skip
                  refine lv_iconst (v := nI 0) hx hb dX9_pairs_110 (by decide) ?_
                  refine lv_goto (tgt := 116) hx hb dX9_pairs_111 (by decide) ?_
                  refine ln_iadd hx hb dX9_pairs_116 ?_
                  refine ml_right (j := (24 * dp) + 0) C hW (by omega) dX9_pairs_117 ?_
                  rw [va_up_ne _ _ (by omega)]
                  rw [show d 10 ((24 * dp) + 0) = d 10 (24 * dp + (if y = 0 then 0 else k)) by first | (exfalso; omega) | rw [if_pos (by omega)] | rw [if_neg (by omega)]]
                  refine ar_callS (As := [.int (nI ch), .double (d 9 (if x = 0 then 0 else k)), .double (d 10 (24 * dp + (if y = 0 then 0 else k)))]) (rest := [.int (nI k), .ref (ad 8)]) C hW (c_X9_join hl9 _ ch (d 9 (if x = 0 then 0 else k)) (d 10 (24 * dp + (if y = 0 then 0 else k))) (hcs) (zRg_nn _ (hrx hb0 _ (by by_cases h77 : x = 0; rw [if_pos h77]; omega; rw [if_neg h77, he0.1 h77]; omega)) (hry hb0 _ (by by_cases h77 : y = 0; rw [if_pos h77]; omega; rw [if_neg h77, he0.2 h77]; omega)))) q773 q774 q6 q775 hd_X9_join ⟨Nat.le_of_ble_eq_true rfl, Nat.le_of_ble_eq_true rfl⟩ hl.1 (Nat.le_of_ble_eq_true rfl) rfl dX9_pairs_118 (fun _ _ _ _ _ _ hp => hp.elim) (fun v9 u9 H locs hp hW => ?_)
                  obtain ⟨rfl, hu9⟩ := hp
                  rw [hu9] at hW
                  refine W.eq (g2 := F0 m 121 ls [.double (zOp ch (d 9 (if x = 0 then 0 else k)) (d 10 (24 * dp + (if y = 0 then 0 else k)))), .int (nI k), .ref (ad 8)]) rfl ?_
                  refine ms_now (j := k) C hW (by omega) dX9_pairs_121 (fun H locs hW => ?_)
                  simp only [bx_uu, va_up_self] at hW
                  refine lv_aload_n hx hb dX9_pairs_122 rfl (lv_at hl 0 rfl) ?_
                  refine lv_aload_n hx hb dX9_pairs_123 rfl (lv_at hl 0 rfl) ?_
                  refine mg_now C hW q597 dX9_pairs_124 ?_
                  refine lv_iload hx hb dX9_pairs_127 (lv_at hl 4 rfl) ?_
                  refine ml_now (j := k) C hW (by omega) dX9_pairs_129 ?_
                  rw [va_up_self]
                  rw [va_up_self]
                  refine ar_callV (q0 := 0) (ci := 7) (T9 := TX9) (N9 := 27) (As := [.double (zOp ch (d 9 (if x = 0 then 0 else k)) (d 10 (24 * dp + (if y = 0 then 0 else k))))]) (rest := []) C hW (c_X9_check hl9 (va_up (va_up g 15 (nI (zEach x y).2)) 21 (bI b)) a (va_up d 8 (va_up f k (zOp ch (d 9 (if x = 0 then 0 else k)) (d 10 (24 * dp + (if y = 0 then 0 else k)))))) (zOp ch (d 9 (if x = 0 then 0 else k)) (d 10 (24 * dp + (if y = 0 then 0 else k)))) b (va_up_self _ _ _)) (rfl) rfl q776 q778 qs11 q6 q779 hd_X9_check ⟨Nat.le_of_ble_eq_true rfl, Nat.le_of_ble_eq_true rfl⟩ hl.1 (Nat.le_of_ble_eq_true rfl) rfl dX9_pairs_130 (fun _ _ _ _ _ _ hp => hp.elim) (fun v9 u9 H locs hp hW => ?_)
                  obtain ⟨rfl, hu9⟩ := hp
                  rw [hu9] at hW
                  rw [bx_uu] at hW
                  refine W.eq (g2 := F0 m 133 ls []) rfl ?_
                  refine ln_iinc (k := 4) (n := 1) (lv' := [(4, .int (nI (k + 1))), (0, .ref (ad 0)), (1, .int (nI ch)), (2, .int (nI dp)), (3, .int (nI y))]) hx hb dX9_pairs_133 hl rfl (by decide) rfl (fun ls hl => ?_)
                  refine lv_goto (tgt := 54) hx hb dX9_pairs_136 (by decide) ?_
                  exact ihlp (k + 1) (b || !(zRg (zOp ch (d 9 (if x = 0 then 0 else k)) (d 10 (24 * dp + (if y = 0 then 0 else k)))))) (va_up f k (zOp ch (d 9 (if x = 0 then 0 else k)) (d 10 (24 * dp + (if y = 0 then 0 else k))))) _ _ _ (by omega) (by omega) (zLi_s (F := (fun q => zOp ch (d 9 (if x = 0 then 0 else q)) (d 10 (24 * dp + (if y = 0 then 0 else q))))) (by omega) hli h9) (hW) (lv_sub hl [1, 2, 3, 4, 0] rfl)
      exact lp _ 0 oo (d 8) _ _ _ (Nat.lt_succ_self _) (Nat.zero_le _) (zLi_0) (by rw [va_up_s (f := va_up g 15 (nI (zEach x y).2)) (k := 21) hoo, va_up_id]; exact hW) (lv_sub hl [2, 3, 4, 1, 0] rfl)
  · skip
    refine lv_aload_n hx hb dX9_pairs_15 rfl (lv_at hl 1 rfl) ?_
    refine mg_partShape C hW q603 dX9_pairs_16 ?_
    refine ln_top (hps) ?_
    refine ln_if_eq (tgt := 32) hx hb dX9_pairs_19 (by decide) (by omega) (fun h13 => ?_) (fun h13 => ?_)
    · skip
      have hE : (zEach x y).1 = 0 := by unfold zEach; rw [if_neg (by omega)]
      have hE2 : zEach x y = (0, (zEach x y).2) := Prod.ext hE rfl
      have hzo := zEach_ok hox hoy hE
      have hz9 := zOk_num hzo
      have he0 := zEach_0 hE2
      refine lv_aload_n hx hb dX9_pairs_32 rfl (lv_at hl 1 rfl) ?_
      refine lv_aload_n hx hb dX9_pairs_33 rfl (lv_at hl 1 rfl) ?_
      refine mg_partShape C hW q603 dX9_pairs_34 ?_
      refine ln_top (hps) ?_
      refine ln_if_ne (tgt := 44) hx hb dX9_pairs_37 (by decide) (by omega) (fun h14 => ?_) (fun h14 => ?_)
      · skip
        refine lv_aload_n hx hb dX9_pairs_44 rfl (lv_at hl 1 rfl) ?_
        refine mg_partShape C hW q603 dX9_pairs_45 ?_
        refine ln_top (hps) ?_
        refine ln_top (a := (zEach x y).2) (congrArg nI (by unfold zEach; rw [if_neg (by omega)]; show _ = if x = 0 then y else x; first | (exfalso; omega) | rw [if_pos (by omega)] | rw [if_neg (by omega)])) ?_
        refine mp_nowShape C hW q602 dX9_pairs_48 (fun H locs hW => ?_)
        refine lv_iconst (v := nI 0) hx hb dX9_pairs_51 (by decide) ?_
        refine lv_istore (lv' := [(4, .int (nI 0)), (3, .int (nI y)), (0, .ref (ad 0)), (1, .int (nI ch)), (2, .int (nI dp))]) hx hb dX9_pairs_52 hl (by decide) rfl (fun ls hl => ?_)
        have lp : ∀ (N9 : Nat) (k : Nat) (b : Bool) (f : Nat → UInt64) (H : Heap) (locs : List Loc) (ls : Array Slot), zCt (zEach x y).2 - k < N9 → (k ≤ zCt (zEach x y).2) → (zLi oo b k (zCt (zEach x y).2) f (fun q => zOp ch (d 9 (if x = 0 then 0 else q)) (d 10 (24 * dp + (if y = 0 then 0 else q))))) → ar_W D A s.heap H locs (mL ad ct (va_up (va_up g 15 (nI (zEach x y).2)) 21 (bI b), a, va_up d 8 f)) → lv_has ls 5 [(0, .ref (ad 0)), (1, .int (nI ch)), (2, .int (nI dp)), (3, .int (nI y)), (4, .int (nI k))] → W p l e (ar_rm 2 43) s m [.ref (ad 0), .int (nI ch), .int (nI dp)].toArray below meth c H locs 0 0 (ar_E below (ar_Q D ct (mL ad ct) A (fun v9 u9 => v9 = none ∧ (((zEach x y).1 ≠ 0 ∧ u9 = (va_up g 23 (nI (zEach x y).1), a, d)) ∨ ((zEach x y).1 = 0 ∧ ∃ (b : Bool) (f : Nat → UInt64), zLi oo b (zCt (zEach x y).2) (zCt (zEach x y).2) f (fun q => zOp ch (d 9 (if x = 0 then 0 else q)) (d 10 (24 * dp + (if y = 0 then 0 else q)))) ∧ u9 = (va_up (va_up g 15 (nI (zEach x y).2)) 21 (bI b), a, va_up d 8 f)))) (fun _ _ => False)) [.ref (ad 0), .int (nI ch), .int (nI dp)].toArray s) (F0 m 54 ls []) := by
          intro N9
          induction N9 with
          | zero =>
            intro k b f H locs ls hN9
            exact absurd hN9 (Nat.not_lt_zero _)
          | succ N9 ihlp =>
            intro k b f H locs ls hN9 hk hli hW hl
            refine lv_iload hx hb dX9_pairs_54 (lv_at hl 4 rfl) ?_
            refine lv_aload_n hx hb dX9_pairs_56 rfl (lv_at hl 0 rfl) ?_
            refine mg_nowShape C hW q602 dX9_pairs_57 ?_
            rw [va_up_ne _ _ (by decide)]
            rw [va_up_self]
            refine ar_callS (As := [.int (nI ((zEach x y).2))]) (rest := [.int (nI k)]) C hW (c_X9_count hl9 _ ((zEach x y).2) (by omega)) q709 q710 q6 q711 hd_X9_count ⟨Nat.le_of_ble_eq_true rfl, Nat.le_of_ble_eq_true rfl⟩ hl.1 (Nat.le_of_ble_eq_true rfl) rfl dX9_pairs_60 (fun _ _ _ _ _ _ hp => hp.elim) (fun v9 u9 H locs hp hW => ?_)
            obtain ⟨rfl, hu9⟩ := hp
            rw [hu9] at hW
            refine W.eq (g2 := F0 m 63 ls [.int (nI (zCt ((zEach x y).2))), .int (nI k)]) rfl ?_
            refine ln_icmp_ge (tgt := 139) hx hb dX9_pairs_63 (by decide) (by omega) (by omega) (fun h15 => ?_) (fun h15 => ?_)
            · skip
              exact ar_vret C hr hW dX9_pairs_139 (⟨rfl, Or.inr ⟨hE, b, f, zLi_e hli (by first | exact Or.inl h15 | exact Or.inr (by omega)), rfl⟩⟩)
            · skip
              refine lv_aload_n hx hb dX9_pairs_66 rfl (lv_at hl 0 rfl) ?_
              refine mg_outOfRange C hW q608 dX9_pairs_67 ?_
              rw [va_up_self]
              refine lb_if_ne (tgt := 139) hx hb dX9_pairs_70 (by decide) (fun h16 => ?_) (fun h16 => ?_)
              · skip
                exact ar_vret C hr hW dX9_pairs_139 (⟨rfl, Or.inr ⟨hE, b, f, zLi_e hli (by first | exact Or.inl h16 | exact Or.inr (by omega)), rfl⟩⟩)
              · skip
                have hb0 := zLi_oo hli h16
                refine lv_aload_n hx hb dX9_pairs_73 rfl (lv_at hl 0 rfl) ?_
                refine mg_now C hW q597 dX9_pairs_74 ?_
                refine lv_iload hx hb dX9_pairs_77 (lv_at hl 4 rfl) ?_
                refine lv_iload_n hx hb dX9_pairs_79 rfl (lv_at hl 1 rfl) ?_
                refine lv_aload_n hx hb dX9_pairs_80 rfl (lv_at hl 0 rfl) ?_
                refine mg_part C hW q598 dX9_pairs_81 ?_
                refine lv_aload_n hx hb dX9_pairs_84 rfl (lv_at hl 0 rfl) ?_
                refine mg_partShape C hW q603 dX9_pairs_85 ?_
                rw [va_up_ne _ _ (by decide)]
                rw [va_up_ne _ _ (by decide)]
                refine ln_top (hps) ?_
                refine ln_if_ne (tgt := 95) hx hb dX9_pairs_88 (by decide) (by omega) (fun h17 => ?_) (fun h17 => ?_)
                · skip
                  refine lv_iload hx hb dX9_pairs_95 (lv_at hl 4 rfl) ?_
                  refine ml_part (j := k) C hW (by omega) dX9_pairs_97 ?_
                  rw [va_up_ne _ _ (by omega)]
                  rw [show d 9 k = d 9 (if x = 0 then 0 else k) by first | (exfalso; omega) | rw [if_pos (by omega)] | rw [if_neg (by omega)]]
                  refine lv_aload_n hx hb dX9_pairs_98 rfl (lv_at hl 0 rfl) ?_
                  refine mg_right C hW q599 dX9_pairs_99 ?_
                  refine lv_bipush (v := nI 24) hx hb dX9_pairs_102 (by decide) ?_
                  refine lv_iload_n hx hb dX9_pairs_104 rfl (lv_at hl 2 rfl) ?_
                  refine ln_imul hx hb dX9_pairs_105 ?_
                  refine lv_iload_n hx hb dX9_pairs_106 rfl (lv_at hl 3 rfl) ?_
                  refine ln_if_ne (tgt := 114) hx hb dX9_pairs_107 (by decide) (by omega) (fun h18 => ?_) (fun h18 => ?_)
                  · skip
                    refine lv_iload hx hb dX9_pairs_114 (lv_at hl 4 rfl) ?_
                    refine ln_iadd hx hb dX9_pairs_116 ?_
                    refine ml_right (j := (24 * dp) + k) C hW (by omega) dX9_pairs_117 ?_
                    rw [va_up_ne _ _ (by omega)]
                    rw [show d 10 ((24 * dp) + k) = d 10 (24 * dp + (if y = 0 then 0 else k)) by first | (exfalso; omega) | rw [if_pos (by omega)] | rw [if_neg (by omega)]]
                    refine ar_callS (As := [.int (nI ch), .double (d 9 (if x = 0 then 0 else k)), .double (d 10 (24 * dp + (if y = 0 then 0 else k)))]) (rest := [.int (nI k), .ref (ad 8)]) C hW (c_X9_join hl9 _ ch (d 9 (if x = 0 then 0 else k)) (d 10 (24 * dp + (if y = 0 then 0 else k))) (hcs) (zRg_nn _ (hrx hb0 _ (by by_cases h77 : x = 0; rw [if_pos h77]; omega; rw [if_neg h77, he0.1 h77]; omega)) (hry hb0 _ (by by_cases h77 : y = 0; rw [if_pos h77]; omega; rw [if_neg h77, he0.2 h77]; omega)))) q773 q774 q6 q775 hd_X9_join ⟨Nat.le_of_ble_eq_true rfl, Nat.le_of_ble_eq_true rfl⟩ hl.1 (Nat.le_of_ble_eq_true rfl) rfl dX9_pairs_118 (fun _ _ _ _ _ _ hp => hp.elim) (fun v9 u9 H locs hp hW => ?_)
                    obtain ⟨rfl, hu9⟩ := hp
                    rw [hu9] at hW
                    refine W.eq (g2 := F0 m 121 ls [.double (zOp ch (d 9 (if x = 0 then 0 else k)) (d 10 (24 * dp + (if y = 0 then 0 else k)))), .int (nI k), .ref (ad 8)]) rfl ?_
                    refine ms_now (j := k) C hW (by omega) dX9_pairs_121 (fun H locs hW => ?_)
                    simp only [bx_uu, va_up_self] at hW
                    refine lv_aload_n hx hb dX9_pairs_122 rfl (lv_at hl 0 rfl) ?_
                    refine lv_aload_n hx hb dX9_pairs_123 rfl (lv_at hl 0 rfl) ?_
                    refine mg_now C hW q597 dX9_pairs_124 ?_
                    refine lv_iload hx hb dX9_pairs_127 (lv_at hl 4 rfl) ?_
                    refine ml_now (j := k) C hW (by omega) dX9_pairs_129 ?_
                    rw [va_up_self]
                    rw [va_up_self]
                    refine ar_callV (q0 := 0) (ci := 7) (T9 := TX9) (N9 := 27) (As := [.double (zOp ch (d 9 (if x = 0 then 0 else k)) (d 10 (24 * dp + (if y = 0 then 0 else k))))]) (rest := []) C hW (c_X9_check hl9 (va_up (va_up g 15 (nI (zEach x y).2)) 21 (bI b)) a (va_up d 8 (va_up f k (zOp ch (d 9 (if x = 0 then 0 else k)) (d 10 (24 * dp + (if y = 0 then 0 else k)))))) (zOp ch (d 9 (if x = 0 then 0 else k)) (d 10 (24 * dp + (if y = 0 then 0 else k)))) b (va_up_self _ _ _)) (rfl) rfl q776 q778 qs11 q6 q779 hd_X9_check ⟨Nat.le_of_ble_eq_true rfl, Nat.le_of_ble_eq_true rfl⟩ hl.1 (Nat.le_of_ble_eq_true rfl) rfl dX9_pairs_130 (fun _ _ _ _ _ _ hp => hp.elim) (fun v9 u9 H locs hp hW => ?_)
                    obtain ⟨rfl, hu9⟩ := hp
                    rw [hu9] at hW
                    rw [bx_uu] at hW
                    refine W.eq (g2 := F0 m 133 ls []) rfl ?_
                    refine ln_iinc (k := 4) (n := 1) (lv' := [(4, .int (nI (k + 1))), (0, .ref (ad 0)), (1, .int (nI ch)), (2, .int (nI dp)), (3, .int (nI y))]) hx hb dX9_pairs_133 hl rfl (by decide) rfl (fun ls hl => ?_)
                    refine lv_goto (tgt := 54) hx hb dX9_pairs_136 (by decide) ?_
                    exact ihlp (k + 1) (b || !(zRg (zOp ch (d 9 (if x = 0 then 0 else k)) (d 10 (24 * dp + (if y = 0 then 0 else k)))))) (va_up f k (zOp ch (d 9 (if x = 0 then 0 else k)) (d 10 (24 * dp + (if y = 0 then 0 else k))))) _ _ _ (by omega) (by omega) (zLi_s (F := (fun q => zOp ch (d 9 (if x = 0 then 0 else q)) (d 10 (24 * dp + (if y = 0 then 0 else q))))) (by omega) hli h16) (hW) (lv_sub hl [1, 2, 3, 4, 0] rfl)
                  · skip
                    refine lv_iconst (v := nI 0) hx hb dX9_pairs_110 (by decide) ?_
                    refine lv_goto (tgt := 116) hx hb dX9_pairs_111 (by decide) ?_
                    refine ln_iadd hx hb dX9_pairs_116 ?_
                    refine ml_right (j := (24 * dp) + 0) C hW (by omega) dX9_pairs_117 ?_
                    rw [va_up_ne _ _ (by omega)]
                    rw [show d 10 ((24 * dp) + 0) = d 10 (24 * dp + (if y = 0 then 0 else k)) by first | (exfalso; omega) | rw [if_pos (by omega)] | rw [if_neg (by omega)]]
                    refine ar_callS (As := [.int (nI ch), .double (d 9 (if x = 0 then 0 else k)), .double (d 10 (24 * dp + (if y = 0 then 0 else k)))]) (rest := [.int (nI k), .ref (ad 8)]) C hW (c_X9_join hl9 _ ch (d 9 (if x = 0 then 0 else k)) (d 10 (24 * dp + (if y = 0 then 0 else k))) (hcs) (zRg_nn _ (hrx hb0 _ (by by_cases h77 : x = 0; rw [if_pos h77]; omega; rw [if_neg h77, he0.1 h77]; omega)) (hry hb0 _ (by by_cases h77 : y = 0; rw [if_pos h77]; omega; rw [if_neg h77, he0.2 h77]; omega)))) q773 q774 q6 q775 hd_X9_join ⟨Nat.le_of_ble_eq_true rfl, Nat.le_of_ble_eq_true rfl⟩ hl.1 (Nat.le_of_ble_eq_true rfl) rfl dX9_pairs_118 (fun _ _ _ _ _ _ hp => hp.elim) (fun v9 u9 H locs hp hW => ?_)
                    obtain ⟨rfl, hu9⟩ := hp
                    rw [hu9] at hW
                    refine W.eq (g2 := F0 m 121 ls [.double (zOp ch (d 9 (if x = 0 then 0 else k)) (d 10 (24 * dp + (if y = 0 then 0 else k)))), .int (nI k), .ref (ad 8)]) rfl ?_
                    refine ms_now (j := k) C hW (by omega) dX9_pairs_121 (fun H locs hW => ?_)
                    simp only [bx_uu, va_up_self] at hW
                    refine lv_aload_n hx hb dX9_pairs_122 rfl (lv_at hl 0 rfl) ?_
                    refine lv_aload_n hx hb dX9_pairs_123 rfl (lv_at hl 0 rfl) ?_
                    refine mg_now C hW q597 dX9_pairs_124 ?_
                    refine lv_iload hx hb dX9_pairs_127 (lv_at hl 4 rfl) ?_
                    refine ml_now (j := k) C hW (by omega) dX9_pairs_129 ?_
                    rw [va_up_self]
                    rw [va_up_self]
                    refine ar_callV (q0 := 0) (ci := 7) (T9 := TX9) (N9 := 27) (As := [.double (zOp ch (d 9 (if x = 0 then 0 else k)) (d 10 (24 * dp + (if y = 0 then 0 else k))))]) (rest := []) C hW (c_X9_check hl9 (va_up (va_up g 15 (nI (zEach x y).2)) 21 (bI b)) a (va_up d 8 (va_up f k (zOp ch (d 9 (if x = 0 then 0 else k)) (d 10 (24 * dp + (if y = 0 then 0 else k)))))) (zOp ch (d 9 (if x = 0 then 0 else k)) (d 10 (24 * dp + (if y = 0 then 0 else k)))) b (va_up_self _ _ _)) (rfl) rfl q776 q778 qs11 q6 q779 hd_X9_check ⟨Nat.le_of_ble_eq_true rfl, Nat.le_of_ble_eq_true rfl⟩ hl.1 (Nat.le_of_ble_eq_true rfl) rfl dX9_pairs_130 (fun _ _ _ _ _ _ hp => hp.elim) (fun v9 u9 H locs hp hW => ?_)
                    obtain ⟨rfl, hu9⟩ := hp
                    rw [hu9] at hW
                    rw [bx_uu] at hW
                    refine W.eq (g2 := F0 m 133 ls []) rfl ?_
                    refine ln_iinc (k := 4) (n := 1) (lv' := [(4, .int (nI (k + 1))), (0, .ref (ad 0)), (1, .int (nI ch)), (2, .int (nI dp)), (3, .int (nI y))]) hx hb dX9_pairs_133 hl rfl (by decide) rfl (fun ls hl => ?_)
                    refine lv_goto (tgt := 54) hx hb dX9_pairs_136 (by decide) ?_
                    exact ihlp (k + 1) (b || !(zRg (zOp ch (d 9 (if x = 0 then 0 else k)) (d 10 (24 * dp + (if y = 0 then 0 else k)))))) (va_up f k (zOp ch (d 9 (if x = 0 then 0 else k)) (d 10 (24 * dp + (if y = 0 then 0 else k))))) _ _ _ (by omega) (by omega) (zLi_s (F := (fun q => zOp ch (d 9 (if x = 0 then 0 else q)) (d 10 (24 * dp + (if y = 0 then 0 else q))))) (by omega) hli h16) (hW) (lv_sub hl [1, 2, 3, 4, 0] rfl)
                · skip
                  refine lv_iconst (v := nI 0) hx hb dX9_pairs_91 (by decide) ?_
                  refine lv_goto (tgt := 97) hx hb dX9_pairs_92 (by decide) ?_
                  refine ml_part (j := 0) C hW (by omega) dX9_pairs_97 ?_
                  rw [va_up_ne _ _ (by omega)]
                  rw [show d 9 0 = d 9 (if x = 0 then 0 else k) by first | (exfalso; omega) | rw [if_pos (by omega)] | rw [if_neg (by omega)]]
                  refine lv_aload_n hx hb dX9_pairs_98 rfl (lv_at hl 0 rfl) ?_
                  refine mg_right C hW q599 dX9_pairs_99 ?_
                  refine lv_bipush (v := nI 24) hx hb dX9_pairs_102 (by decide) ?_
                  refine lv_iload_n hx hb dX9_pairs_104 rfl (lv_at hl 2 rfl) ?_
                  refine ln_imul hx hb dX9_pairs_105 ?_
                  refine lv_iload_n hx hb dX9_pairs_106 rfl (lv_at hl 3 rfl) ?_
                  refine ln_if_ne (tgt := 114) hx hb dX9_pairs_107 (by decide) (by omega) (fun h19 => ?_) (fun h19 => ?_)
                  · skip
                    refine lv_iload hx hb dX9_pairs_114 (lv_at hl 4 rfl) ?_
                    refine ln_iadd hx hb dX9_pairs_116 ?_
                    refine ml_right (j := (24 * dp) + k) C hW (by omega) dX9_pairs_117 ?_
                    rw [va_up_ne _ _ (by omega)]
                    rw [show d 10 ((24 * dp) + k) = d 10 (24 * dp + (if y = 0 then 0 else k)) by first | (exfalso; omega) | rw [if_pos (by omega)] | rw [if_neg (by omega)]]
                    refine ar_callS (As := [.int (nI ch), .double (d 9 (if x = 0 then 0 else k)), .double (d 10 (24 * dp + (if y = 0 then 0 else k)))]) (rest := [.int (nI k), .ref (ad 8)]) C hW (c_X9_join hl9 _ ch (d 9 (if x = 0 then 0 else k)) (d 10 (24 * dp + (if y = 0 then 0 else k))) (hcs) (zRg_nn _ (hrx hb0 _ (by by_cases h77 : x = 0; rw [if_pos h77]; omega; rw [if_neg h77, he0.1 h77]; omega)) (hry hb0 _ (by by_cases h77 : y = 0; rw [if_pos h77]; omega; rw [if_neg h77, he0.2 h77]; omega)))) q773 q774 q6 q775 hd_X9_join ⟨Nat.le_of_ble_eq_true rfl, Nat.le_of_ble_eq_true rfl⟩ hl.1 (Nat.le_of_ble_eq_true rfl) rfl dX9_pairs_118 (fun _ _ _ _ _ _ hp => hp.elim) (fun v9 u9 H locs hp hW => ?_)
                    obtain ⟨rfl, hu9⟩ := hp
                    rw [hu9] at hW
                    refine W.eq (g2 := F0 m 121 ls [.double (zOp ch (d 9 (if x = 0 then 0 else k)) (d 10 (24 * dp + (if y = 0 then 0 else k)))), .int (nI k), .ref (ad 8)]) rfl ?_
                    refine ms_now (j := k) C hW (by omega) dX9_pairs_121 (fun H locs hW => ?_)
                    simp only [bx_uu, va_up_self] at hW
                    refine lv_aload_n hx hb dX9_pairs_122 rfl (lv_at hl 0 rfl) ?_
                    refine lv_aload_n hx hb dX9_pairs_123 rfl (lv_at hl 0 rfl) ?_
                    refine mg_now C hW q597 dX9_pairs_124 ?_
                    refine lv_iload hx hb dX9_pairs_127 (lv_at hl 4 rfl) ?_
                    refine ml_now (j := k) C hW (by omega) dX9_pairs_129 ?_
                    rw [va_up_self]
                    rw [va_up_self]
                    refine ar_callV (q0 := 0) (ci := 7) (T9 := TX9) (N9 := 27) (As := [.double (zOp ch (d 9 (if x = 0 then 0 else k)) (d 10 (24 * dp + (if y = 0 then 0 else k))))]) (rest := []) C hW (c_X9_check hl9 (va_up (va_up g 15 (nI (zEach x y).2)) 21 (bI b)) a (va_up d 8 (va_up f k (zOp ch (d 9 (if x = 0 then 0 else k)) (d 10 (24 * dp + (if y = 0 then 0 else k)))))) (zOp ch (d 9 (if x = 0 then 0 else k)) (d 10 (24 * dp + (if y = 0 then 0 else k)))) b (va_up_self _ _ _)) (rfl) rfl q776 q778 qs11 q6 q779 hd_X9_check ⟨Nat.le_of_ble_eq_true rfl, Nat.le_of_ble_eq_true rfl⟩ hl.1 (Nat.le_of_ble_eq_true rfl) rfl dX9_pairs_130 (fun _ _ _ _ _ _ hp => hp.elim) (fun v9 u9 H locs hp hW => ?_)
                    obtain ⟨rfl, hu9⟩ := hp
                    rw [hu9] at hW
                    rw [bx_uu] at hW
                    refine W.eq (g2 := F0 m 133 ls []) rfl ?_
                    refine ln_iinc (k := 4) (n := 1) (lv' := [(4, .int (nI (k + 1))), (0, .ref (ad 0)), (1, .int (nI ch)), (2, .int (nI dp)), (3, .int (nI y))]) hx hb dX9_pairs_133 hl rfl (by decide) rfl (fun ls hl => ?_)
                    refine lv_goto (tgt := 54) hx hb dX9_pairs_136 (by decide) ?_
                    exact ihlp (k + 1) (b || !(zRg (zOp ch (d 9 (if x = 0 then 0 else k)) (d 10 (24 * dp + (if y = 0 then 0 else k)))))) (va_up f k (zOp ch (d 9 (if x = 0 then 0 else k)) (d 10 (24 * dp + (if y = 0 then 0 else k))))) _ _ _ (by omega) (by omega) (zLi_s (F := (fun q => zOp ch (d 9 (if x = 0 then 0 else q)) (d 10 (24 * dp + (if y = 0 then 0 else q))))) (by omega) hli h16) (hW) (lv_sub hl [1, 2, 3, 4, 0] rfl)
                  · skip
                    refine lv_iconst (v := nI 0) hx hb dX9_pairs_110 (by decide) ?_
                    refine lv_goto (tgt := 116) hx hb dX9_pairs_111 (by decide) ?_
                    refine ln_iadd hx hb dX9_pairs_116 ?_
                    refine ml_right (j := (24 * dp) + 0) C hW (by omega) dX9_pairs_117 ?_
                    rw [va_up_ne _ _ (by omega)]
                    rw [show d 10 ((24 * dp) + 0) = d 10 (24 * dp + (if y = 0 then 0 else k)) by first | (exfalso; omega) | rw [if_pos (by omega)] | rw [if_neg (by omega)]]
                    refine ar_callS (As := [.int (nI ch), .double (d 9 (if x = 0 then 0 else k)), .double (d 10 (24 * dp + (if y = 0 then 0 else k)))]) (rest := [.int (nI k), .ref (ad 8)]) C hW (c_X9_join hl9 _ ch (d 9 (if x = 0 then 0 else k)) (d 10 (24 * dp + (if y = 0 then 0 else k))) (hcs) (zRg_nn _ (hrx hb0 _ (by by_cases h77 : x = 0; rw [if_pos h77]; omega; rw [if_neg h77, he0.1 h77]; omega)) (hry hb0 _ (by by_cases h77 : y = 0; rw [if_pos h77]; omega; rw [if_neg h77, he0.2 h77]; omega)))) q773 q774 q6 q775 hd_X9_join ⟨Nat.le_of_ble_eq_true rfl, Nat.le_of_ble_eq_true rfl⟩ hl.1 (Nat.le_of_ble_eq_true rfl) rfl dX9_pairs_118 (fun _ _ _ _ _ _ hp => hp.elim) (fun v9 u9 H locs hp hW => ?_)
                    obtain ⟨rfl, hu9⟩ := hp
                    rw [hu9] at hW
                    refine W.eq (g2 := F0 m 121 ls [.double (zOp ch (d 9 (if x = 0 then 0 else k)) (d 10 (24 * dp + (if y = 0 then 0 else k)))), .int (nI k), .ref (ad 8)]) rfl ?_
                    refine ms_now (j := k) C hW (by omega) dX9_pairs_121 (fun H locs hW => ?_)
                    simp only [bx_uu, va_up_self] at hW
                    refine lv_aload_n hx hb dX9_pairs_122 rfl (lv_at hl 0 rfl) ?_
                    refine lv_aload_n hx hb dX9_pairs_123 rfl (lv_at hl 0 rfl) ?_
                    refine mg_now C hW q597 dX9_pairs_124 ?_
                    refine lv_iload hx hb dX9_pairs_127 (lv_at hl 4 rfl) ?_
                    refine ml_now (j := k) C hW (by omega) dX9_pairs_129 ?_
                    rw [va_up_self]
                    rw [va_up_self]
                    refine ar_callV (q0 := 0) (ci := 7) (T9 := TX9) (N9 := 27) (As := [.double (zOp ch (d 9 (if x = 0 then 0 else k)) (d 10 (24 * dp + (if y = 0 then 0 else k))))]) (rest := []) C hW (c_X9_check hl9 (va_up (va_up g 15 (nI (zEach x y).2)) 21 (bI b)) a (va_up d 8 (va_up f k (zOp ch (d 9 (if x = 0 then 0 else k)) (d 10 (24 * dp + (if y = 0 then 0 else k)))))) (zOp ch (d 9 (if x = 0 then 0 else k)) (d 10 (24 * dp + (if y = 0 then 0 else k)))) b (va_up_self _ _ _)) (rfl) rfl q776 q778 qs11 q6 q779 hd_X9_check ⟨Nat.le_of_ble_eq_true rfl, Nat.le_of_ble_eq_true rfl⟩ hl.1 (Nat.le_of_ble_eq_true rfl) rfl dX9_pairs_130 (fun _ _ _ _ _ _ hp => hp.elim) (fun v9 u9 H locs hp hW => ?_)
                    obtain ⟨rfl, hu9⟩ := hp
                    rw [hu9] at hW
                    rw [bx_uu] at hW
                    refine W.eq (g2 := F0 m 133 ls []) rfl ?_
                    refine ln_iinc (k := 4) (n := 1) (lv' := [(4, .int (nI (k + 1))), (0, .ref (ad 0)), (1, .int (nI ch)), (2, .int (nI dp)), (3, .int (nI y))]) hx hb dX9_pairs_133 hl rfl (by decide) rfl (fun ls hl => ?_)
                    refine lv_goto (tgt := 54) hx hb dX9_pairs_136 (by decide) ?_
                    exact ihlp (k + 1) (b || !(zRg (zOp ch (d 9 (if x = 0 then 0 else k)) (d 10 (24 * dp + (if y = 0 then 0 else k)))))) (va_up f k (zOp ch (d 9 (if x = 0 then 0 else k)) (d 10 (24 * dp + (if y = 0 then 0 else k))))) _ _ _ (by omega) (by omega) (zLi_s (F := (fun q => zOp ch (d 9 (if x = 0 then 0 else q)) (d 10 (24 * dp + (if y = 0 then 0 else q))))) (by omega) hli h16) (hW) (lv_sub hl [1, 2, 3, 4, 0] rfl)
        exact lp _ 0 oo (d 8) _ _ _ (Nat.lt_succ_self _) (Nat.zero_le _) (zLi_0) (by rw [va_up_s (f := va_up g 15 (nI (zEach x y).2)) (k := 21) hoo, va_up_id]; exact hW) (lv_sub hl [2, 3, 4, 1, 0] rfl)
      · skip
        refine lv_iload_n hx hb dX9_pairs_40 rfl (lv_at hl 0 rfl) ?_
        refine lv_goto (tgt := 48) hx hb dX9_pairs_41 (by decide) ?_
        refine ln_top (a := (zEach x y).2) (congrArg nI (by unfold zEach; rw [if_neg (by omega)]; show _ = if x = 0 then y else x; first | (exfalso; omega) | rw [if_pos (by omega)] | rw [if_neg (by omega)])) ?_
        refine mp_nowShape C hW q602 dX9_pairs_48 (fun H locs hW => ?_)
        refine lv_iconst (v := nI 0) hx hb dX9_pairs_51 (by decide) ?_
        refine lv_istore (lv' := [(4, .int (nI 0)), (3, .int (nI y)), (0, .ref (ad 0)), (1, .int (nI ch)), (2, .int (nI dp))]) hx hb dX9_pairs_52 hl (by decide) rfl (fun ls hl => ?_)
        have lp : ∀ (N9 : Nat) (k : Nat) (b : Bool) (f : Nat → UInt64) (H : Heap) (locs : List Loc) (ls : Array Slot), zCt (zEach x y).2 - k < N9 → (k ≤ zCt (zEach x y).2) → (zLi oo b k (zCt (zEach x y).2) f (fun q => zOp ch (d 9 (if x = 0 then 0 else q)) (d 10 (24 * dp + (if y = 0 then 0 else q))))) → ar_W D A s.heap H locs (mL ad ct (va_up (va_up g 15 (nI (zEach x y).2)) 21 (bI b), a, va_up d 8 f)) → lv_has ls 5 [(0, .ref (ad 0)), (1, .int (nI ch)), (2, .int (nI dp)), (3, .int (nI y)), (4, .int (nI k))] → W p l e (ar_rm 2 43) s m [.ref (ad 0), .int (nI ch), .int (nI dp)].toArray below meth c H locs 0 0 (ar_E below (ar_Q D ct (mL ad ct) A (fun v9 u9 => v9 = none ∧ (((zEach x y).1 ≠ 0 ∧ u9 = (va_up g 23 (nI (zEach x y).1), a, d)) ∨ ((zEach x y).1 = 0 ∧ ∃ (b : Bool) (f : Nat → UInt64), zLi oo b (zCt (zEach x y).2) (zCt (zEach x y).2) f (fun q => zOp ch (d 9 (if x = 0 then 0 else q)) (d 10 (24 * dp + (if y = 0 then 0 else q)))) ∧ u9 = (va_up (va_up g 15 (nI (zEach x y).2)) 21 (bI b), a, va_up d 8 f)))) (fun _ _ => False)) [.ref (ad 0), .int (nI ch), .int (nI dp)].toArray s) (F0 m 54 ls []) := by
          intro N9
          induction N9 with
          | zero =>
            intro k b f H locs ls hN9
            exact absurd hN9 (Nat.not_lt_zero _)
          | succ N9 ihlp =>
            intro k b f H locs ls hN9 hk hli hW hl
            refine lv_iload hx hb dX9_pairs_54 (lv_at hl 4 rfl) ?_
            refine lv_aload_n hx hb dX9_pairs_56 rfl (lv_at hl 0 rfl) ?_
            refine mg_nowShape C hW q602 dX9_pairs_57 ?_
            rw [va_up_ne _ _ (by decide)]
            rw [va_up_self]
            refine ar_callS (As := [.int (nI ((zEach x y).2))]) (rest := [.int (nI k)]) C hW (c_X9_count hl9 _ ((zEach x y).2) (by omega)) q709 q710 q6 q711 hd_X9_count ⟨Nat.le_of_ble_eq_true rfl, Nat.le_of_ble_eq_true rfl⟩ hl.1 (Nat.le_of_ble_eq_true rfl) rfl dX9_pairs_60 (fun _ _ _ _ _ _ hp => hp.elim) (fun v9 u9 H locs hp hW => ?_)
            obtain ⟨rfl, hu9⟩ := hp
            rw [hu9] at hW
            refine W.eq (g2 := F0 m 63 ls [.int (nI (zCt ((zEach x y).2))), .int (nI k)]) rfl ?_
            refine ln_icmp_ge (tgt := 139) hx hb dX9_pairs_63 (by decide) (by omega) (by omega) (fun h20 => ?_) (fun h20 => ?_)
            · skip
              exact ar_vret C hr hW dX9_pairs_139 (⟨rfl, Or.inr ⟨hE, b, f, zLi_e hli (by first | exact Or.inl h20 | exact Or.inr (by omega)), rfl⟩⟩)
            · skip
              refine lv_aload_n hx hb dX9_pairs_66 rfl (lv_at hl 0 rfl) ?_
              refine mg_outOfRange C hW q608 dX9_pairs_67 ?_
              rw [va_up_self]
              refine lb_if_ne (tgt := 139) hx hb dX9_pairs_70 (by decide) (fun h21 => ?_) (fun h21 => ?_)
              · skip
                exact ar_vret C hr hW dX9_pairs_139 (⟨rfl, Or.inr ⟨hE, b, f, zLi_e hli (by first | exact Or.inl h21 | exact Or.inr (by omega)), rfl⟩⟩)
              · skip
                have hb0 := zLi_oo hli h21
                refine lv_aload_n hx hb dX9_pairs_73 rfl (lv_at hl 0 rfl) ?_
                refine mg_now C hW q597 dX9_pairs_74 ?_
                refine lv_iload hx hb dX9_pairs_77 (lv_at hl 4 rfl) ?_
                refine lv_iload_n hx hb dX9_pairs_79 rfl (lv_at hl 1 rfl) ?_
                refine lv_aload_n hx hb dX9_pairs_80 rfl (lv_at hl 0 rfl) ?_
                refine mg_part C hW q598 dX9_pairs_81 ?_
                refine lv_aload_n hx hb dX9_pairs_84 rfl (lv_at hl 0 rfl) ?_
                refine mg_partShape C hW q603 dX9_pairs_85 ?_
                rw [va_up_ne _ _ (by decide)]
                rw [va_up_ne _ _ (by decide)]
                refine ln_top (hps) ?_
                refine ln_if_ne (tgt := 95) hx hb dX9_pairs_88 (by decide) (by omega) (fun h22 => ?_) (fun h22 => ?_)
                · skip
                  refine lv_iload hx hb dX9_pairs_95 (lv_at hl 4 rfl) ?_
                  refine ml_part (j := k) C hW (by omega) dX9_pairs_97 ?_
                  rw [va_up_ne _ _ (by omega)]
                  rw [show d 9 k = d 9 (if x = 0 then 0 else k) by first | (exfalso; omega) | rw [if_pos (by omega)] | rw [if_neg (by omega)]]
                  refine lv_aload_n hx hb dX9_pairs_98 rfl (lv_at hl 0 rfl) ?_
                  refine mg_right C hW q599 dX9_pairs_99 ?_
                  refine lv_bipush (v := nI 24) hx hb dX9_pairs_102 (by decide) ?_
                  refine lv_iload_n hx hb dX9_pairs_104 rfl (lv_at hl 2 rfl) ?_
                  refine ln_imul hx hb dX9_pairs_105 ?_
                  refine lv_iload_n hx hb dX9_pairs_106 rfl (lv_at hl 3 rfl) ?_
                  refine ln_if_ne (tgt := 114) hx hb dX9_pairs_107 (by decide) (by omega) (fun h23 => ?_) (fun h23 => ?_)
                  · skip
                    refine lv_iload hx hb dX9_pairs_114 (lv_at hl 4 rfl) ?_
                    refine ln_iadd hx hb dX9_pairs_116 ?_
                    refine ml_right (j := (24 * dp) + k) C hW (by omega) dX9_pairs_117 ?_
                    rw [va_up_ne _ _ (by omega)]
                    rw [show d 10 ((24 * dp) + k) = d 10 (24 * dp + (if y = 0 then 0 else k)) by first | (exfalso; omega) | rw [if_pos (by omega)] | rw [if_neg (by omega)]]
                    refine ar_callS (As := [.int (nI ch), .double (d 9 (if x = 0 then 0 else k)), .double (d 10 (24 * dp + (if y = 0 then 0 else k)))]) (rest := [.int (nI k), .ref (ad 8)]) C hW (c_X9_join hl9 _ ch (d 9 (if x = 0 then 0 else k)) (d 10 (24 * dp + (if y = 0 then 0 else k))) (hcs) (zRg_nn _ (hrx hb0 _ (by by_cases h77 : x = 0; rw [if_pos h77]; omega; rw [if_neg h77, he0.1 h77]; omega)) (hry hb0 _ (by by_cases h77 : y = 0; rw [if_pos h77]; omega; rw [if_neg h77, he0.2 h77]; omega)))) q773 q774 q6 q775 hd_X9_join ⟨Nat.le_of_ble_eq_true rfl, Nat.le_of_ble_eq_true rfl⟩ hl.1 (Nat.le_of_ble_eq_true rfl) rfl dX9_pairs_118 (fun _ _ _ _ _ _ hp => hp.elim) (fun v9 u9 H locs hp hW => ?_)
                    obtain ⟨rfl, hu9⟩ := hp
                    rw [hu9] at hW
                    refine W.eq (g2 := F0 m 121 ls [.double (zOp ch (d 9 (if x = 0 then 0 else k)) (d 10 (24 * dp + (if y = 0 then 0 else k)))), .int (nI k), .ref (ad 8)]) rfl ?_
                    refine ms_now (j := k) C hW (by omega) dX9_pairs_121 (fun H locs hW => ?_)
                    simp only [bx_uu, va_up_self] at hW
                    refine lv_aload_n hx hb dX9_pairs_122 rfl (lv_at hl 0 rfl) ?_
                    refine lv_aload_n hx hb dX9_pairs_123 rfl (lv_at hl 0 rfl) ?_
                    refine mg_now C hW q597 dX9_pairs_124 ?_
                    refine lv_iload hx hb dX9_pairs_127 (lv_at hl 4 rfl) ?_
                    refine ml_now (j := k) C hW (by omega) dX9_pairs_129 ?_
                    rw [va_up_self]
                    rw [va_up_self]
                    refine ar_callV (q0 := 0) (ci := 7) (T9 := TX9) (N9 := 27) (As := [.double (zOp ch (d 9 (if x = 0 then 0 else k)) (d 10 (24 * dp + (if y = 0 then 0 else k))))]) (rest := []) C hW (c_X9_check hl9 (va_up (va_up g 15 (nI (zEach x y).2)) 21 (bI b)) a (va_up d 8 (va_up f k (zOp ch (d 9 (if x = 0 then 0 else k)) (d 10 (24 * dp + (if y = 0 then 0 else k)))))) (zOp ch (d 9 (if x = 0 then 0 else k)) (d 10 (24 * dp + (if y = 0 then 0 else k)))) b (va_up_self _ _ _)) (rfl) rfl q776 q778 qs11 q6 q779 hd_X9_check ⟨Nat.le_of_ble_eq_true rfl, Nat.le_of_ble_eq_true rfl⟩ hl.1 (Nat.le_of_ble_eq_true rfl) rfl dX9_pairs_130 (fun _ _ _ _ _ _ hp => hp.elim) (fun v9 u9 H locs hp hW => ?_)
                    obtain ⟨rfl, hu9⟩ := hp
                    rw [hu9] at hW
                    rw [bx_uu] at hW
                    refine W.eq (g2 := F0 m 133 ls []) rfl ?_
                    refine ln_iinc (k := 4) (n := 1) (lv' := [(4, .int (nI (k + 1))), (0, .ref (ad 0)), (1, .int (nI ch)), (2, .int (nI dp)), (3, .int (nI y))]) hx hb dX9_pairs_133 hl rfl (by decide) rfl (fun ls hl => ?_)
                    refine lv_goto (tgt := 54) hx hb dX9_pairs_136 (by decide) ?_
                    exact ihlp (k + 1) (b || !(zRg (zOp ch (d 9 (if x = 0 then 0 else k)) (d 10 (24 * dp + (if y = 0 then 0 else k)))))) (va_up f k (zOp ch (d 9 (if x = 0 then 0 else k)) (d 10 (24 * dp + (if y = 0 then 0 else k))))) _ _ _ (by omega) (by omega) (zLi_s (F := (fun q => zOp ch (d 9 (if x = 0 then 0 else q)) (d 10 (24 * dp + (if y = 0 then 0 else q))))) (by omega) hli h21) (hW) (lv_sub hl [1, 2, 3, 4, 0] rfl)
                  · skip
                    refine lv_iconst (v := nI 0) hx hb dX9_pairs_110 (by decide) ?_
                    refine lv_goto (tgt := 116) hx hb dX9_pairs_111 (by decide) ?_
                    refine ln_iadd hx hb dX9_pairs_116 ?_
                    refine ml_right (j := (24 * dp) + 0) C hW (by omega) dX9_pairs_117 ?_
                    rw [va_up_ne _ _ (by omega)]
                    rw [show d 10 ((24 * dp) + 0) = d 10 (24 * dp + (if y = 0 then 0 else k)) by first | (exfalso; omega) | rw [if_pos (by omega)] | rw [if_neg (by omega)]]
                    refine ar_callS (As := [.int (nI ch), .double (d 9 (if x = 0 then 0 else k)), .double (d 10 (24 * dp + (if y = 0 then 0 else k)))]) (rest := [.int (nI k), .ref (ad 8)]) C hW (c_X9_join hl9 _ ch (d 9 (if x = 0 then 0 else k)) (d 10 (24 * dp + (if y = 0 then 0 else k))) (hcs) (zRg_nn _ (hrx hb0 _ (by by_cases h77 : x = 0; rw [if_pos h77]; omega; rw [if_neg h77, he0.1 h77]; omega)) (hry hb0 _ (by by_cases h77 : y = 0; rw [if_pos h77]; omega; rw [if_neg h77, he0.2 h77]; omega)))) q773 q774 q6 q775 hd_X9_join ⟨Nat.le_of_ble_eq_true rfl, Nat.le_of_ble_eq_true rfl⟩ hl.1 (Nat.le_of_ble_eq_true rfl) rfl dX9_pairs_118 (fun _ _ _ _ _ _ hp => hp.elim) (fun v9 u9 H locs hp hW => ?_)
                    obtain ⟨rfl, hu9⟩ := hp
                    rw [hu9] at hW
                    refine W.eq (g2 := F0 m 121 ls [.double (zOp ch (d 9 (if x = 0 then 0 else k)) (d 10 (24 * dp + (if y = 0 then 0 else k)))), .int (nI k), .ref (ad 8)]) rfl ?_
                    refine ms_now (j := k) C hW (by omega) dX9_pairs_121 (fun H locs hW => ?_)
                    simp only [bx_uu, va_up_self] at hW
                    refine lv_aload_n hx hb dX9_pairs_122 rfl (lv_at hl 0 rfl) ?_
                    refine lv_aload_n hx hb dX9_pairs_123 rfl (lv_at hl 0 rfl) ?_
                    refine mg_now C hW q597 dX9_pairs_124 ?_
                    refine lv_iload hx hb dX9_pairs_127 (lv_at hl 4 rfl) ?_
                    refine ml_now (j := k) C hW (by omega) dX9_pairs_129 ?_
                    rw [va_up_self]
                    rw [va_up_self]
                    refine ar_callV (q0 := 0) (ci := 7) (T9 := TX9) (N9 := 27) (As := [.double (zOp ch (d 9 (if x = 0 then 0 else k)) (d 10 (24 * dp + (if y = 0 then 0 else k))))]) (rest := []) C hW (c_X9_check hl9 (va_up (va_up g 15 (nI (zEach x y).2)) 21 (bI b)) a (va_up d 8 (va_up f k (zOp ch (d 9 (if x = 0 then 0 else k)) (d 10 (24 * dp + (if y = 0 then 0 else k)))))) (zOp ch (d 9 (if x = 0 then 0 else k)) (d 10 (24 * dp + (if y = 0 then 0 else k)))) b (va_up_self _ _ _)) (rfl) rfl q776 q778 qs11 q6 q779 hd_X9_check ⟨Nat.le_of_ble_eq_true rfl, Nat.le_of_ble_eq_true rfl⟩ hl.1 (Nat.le_of_ble_eq_true rfl) rfl dX9_pairs_130 (fun _ _ _ _ _ _ hp => hp.elim) (fun v9 u9 H locs hp hW => ?_)
                    obtain ⟨rfl, hu9⟩ := hp
                    rw [hu9] at hW
                    rw [bx_uu] at hW
                    refine W.eq (g2 := F0 m 133 ls []) rfl ?_
                    refine ln_iinc (k := 4) (n := 1) (lv' := [(4, .int (nI (k + 1))), (0, .ref (ad 0)), (1, .int (nI ch)), (2, .int (nI dp)), (3, .int (nI y))]) hx hb dX9_pairs_133 hl rfl (by decide) rfl (fun ls hl => ?_)
                    refine lv_goto (tgt := 54) hx hb dX9_pairs_136 (by decide) ?_
                    exact ihlp (k + 1) (b || !(zRg (zOp ch (d 9 (if x = 0 then 0 else k)) (d 10 (24 * dp + (if y = 0 then 0 else k)))))) (va_up f k (zOp ch (d 9 (if x = 0 then 0 else k)) (d 10 (24 * dp + (if y = 0 then 0 else k))))) _ _ _ (by omega) (by omega) (zLi_s (F := (fun q => zOp ch (d 9 (if x = 0 then 0 else q)) (d 10 (24 * dp + (if y = 0 then 0 else q))))) (by omega) hli h21) (hW) (lv_sub hl [1, 2, 3, 4, 0] rfl)
                · skip
                  refine lv_iconst (v := nI 0) hx hb dX9_pairs_91 (by decide) ?_
                  refine lv_goto (tgt := 97) hx hb dX9_pairs_92 (by decide) ?_
                  refine ml_part (j := 0) C hW (by omega) dX9_pairs_97 ?_
                  rw [va_up_ne _ _ (by omega)]
                  rw [show d 9 0 = d 9 (if x = 0 then 0 else k) by first | (exfalso; omega) | rw [if_pos (by omega)] | rw [if_neg (by omega)]]
                  refine lv_aload_n hx hb dX9_pairs_98 rfl (lv_at hl 0 rfl) ?_
                  refine mg_right C hW q599 dX9_pairs_99 ?_
                  refine lv_bipush (v := nI 24) hx hb dX9_pairs_102 (by decide) ?_
                  refine lv_iload_n hx hb dX9_pairs_104 rfl (lv_at hl 2 rfl) ?_
                  refine ln_imul hx hb dX9_pairs_105 ?_
                  refine lv_iload_n hx hb dX9_pairs_106 rfl (lv_at hl 3 rfl) ?_
                  refine ln_if_ne (tgt := 114) hx hb dX9_pairs_107 (by decide) (by omega) (fun h24 => ?_) (fun h24 => ?_)
                  · skip
                    refine lv_iload hx hb dX9_pairs_114 (lv_at hl 4 rfl) ?_
                    refine ln_iadd hx hb dX9_pairs_116 ?_
                    refine ml_right (j := (24 * dp) + k) C hW (by omega) dX9_pairs_117 ?_
                    rw [va_up_ne _ _ (by omega)]
                    rw [show d 10 ((24 * dp) + k) = d 10 (24 * dp + (if y = 0 then 0 else k)) by first | (exfalso; omega) | rw [if_pos (by omega)] | rw [if_neg (by omega)]]
                    refine ar_callS (As := [.int (nI ch), .double (d 9 (if x = 0 then 0 else k)), .double (d 10 (24 * dp + (if y = 0 then 0 else k)))]) (rest := [.int (nI k), .ref (ad 8)]) C hW (c_X9_join hl9 _ ch (d 9 (if x = 0 then 0 else k)) (d 10 (24 * dp + (if y = 0 then 0 else k))) (hcs) (zRg_nn _ (hrx hb0 _ (by by_cases h77 : x = 0; rw [if_pos h77]; omega; rw [if_neg h77, he0.1 h77]; omega)) (hry hb0 _ (by by_cases h77 : y = 0; rw [if_pos h77]; omega; rw [if_neg h77, he0.2 h77]; omega)))) q773 q774 q6 q775 hd_X9_join ⟨Nat.le_of_ble_eq_true rfl, Nat.le_of_ble_eq_true rfl⟩ hl.1 (Nat.le_of_ble_eq_true rfl) rfl dX9_pairs_118 (fun _ _ _ _ _ _ hp => hp.elim) (fun v9 u9 H locs hp hW => ?_)
                    obtain ⟨rfl, hu9⟩ := hp
                    rw [hu9] at hW
                    refine W.eq (g2 := F0 m 121 ls [.double (zOp ch (d 9 (if x = 0 then 0 else k)) (d 10 (24 * dp + (if y = 0 then 0 else k)))), .int (nI k), .ref (ad 8)]) rfl ?_
                    refine ms_now (j := k) C hW (by omega) dX9_pairs_121 (fun H locs hW => ?_)
                    simp only [bx_uu, va_up_self] at hW
                    refine lv_aload_n hx hb dX9_pairs_122 rfl (lv_at hl 0 rfl) ?_
                    refine lv_aload_n hx hb dX9_pairs_123 rfl (lv_at hl 0 rfl) ?_
                    refine mg_now C hW q597 dX9_pairs_124 ?_
                    refine lv_iload hx hb dX9_pairs_127 (lv_at hl 4 rfl) ?_
                    refine ml_now (j := k) C hW (by omega) dX9_pairs_129 ?_
                    rw [va_up_self]
                    rw [va_up_self]
                    refine ar_callV (q0 := 0) (ci := 7) (T9 := TX9) (N9 := 27) (As := [.double (zOp ch (d 9 (if x = 0 then 0 else k)) (d 10 (24 * dp + (if y = 0 then 0 else k))))]) (rest := []) C hW (c_X9_check hl9 (va_up (va_up g 15 (nI (zEach x y).2)) 21 (bI b)) a (va_up d 8 (va_up f k (zOp ch (d 9 (if x = 0 then 0 else k)) (d 10 (24 * dp + (if y = 0 then 0 else k)))))) (zOp ch (d 9 (if x = 0 then 0 else k)) (d 10 (24 * dp + (if y = 0 then 0 else k)))) b (va_up_self _ _ _)) (rfl) rfl q776 q778 qs11 q6 q779 hd_X9_check ⟨Nat.le_of_ble_eq_true rfl, Nat.le_of_ble_eq_true rfl⟩ hl.1 (Nat.le_of_ble_eq_true rfl) rfl dX9_pairs_130 (fun _ _ _ _ _ _ hp => hp.elim) (fun v9 u9 H locs hp hW => ?_)
                    obtain ⟨rfl, hu9⟩ := hp
                    rw [hu9] at hW
                    rw [bx_uu] at hW
                    refine W.eq (g2 := F0 m 133 ls []) rfl ?_
                    refine ln_iinc (k := 4) (n := 1) (lv' := [(4, .int (nI (k + 1))), (0, .ref (ad 0)), (1, .int (nI ch)), (2, .int (nI dp)), (3, .int (nI y))]) hx hb dX9_pairs_133 hl rfl (by decide) rfl (fun ls hl => ?_)
                    refine lv_goto (tgt := 54) hx hb dX9_pairs_136 (by decide) ?_
                    exact ihlp (k + 1) (b || !(zRg (zOp ch (d 9 (if x = 0 then 0 else k)) (d 10 (24 * dp + (if y = 0 then 0 else k)))))) (va_up f k (zOp ch (d 9 (if x = 0 then 0 else k)) (d 10 (24 * dp + (if y = 0 then 0 else k))))) _ _ _ (by omega) (by omega) (zLi_s (F := (fun q => zOp ch (d 9 (if x = 0 then 0 else q)) (d 10 (24 * dp + (if y = 0 then 0 else q))))) (by omega) hli h21) (hW) (lv_sub hl [1, 2, 3, 4, 0] rfl)
                  · skip
                    refine lv_iconst (v := nI 0) hx hb dX9_pairs_110 (by decide) ?_
                    refine lv_goto (tgt := 116) hx hb dX9_pairs_111 (by decide) ?_
                    refine ln_iadd hx hb dX9_pairs_116 ?_
                    refine ml_right (j := (24 * dp) + 0) C hW (by omega) dX9_pairs_117 ?_
                    rw [va_up_ne _ _ (by omega)]
                    rw [show d 10 ((24 * dp) + 0) = d 10 (24 * dp + (if y = 0 then 0 else k)) by first | (exfalso; omega) | rw [if_pos (by omega)] | rw [if_neg (by omega)]]
                    refine ar_callS (As := [.int (nI ch), .double (d 9 (if x = 0 then 0 else k)), .double (d 10 (24 * dp + (if y = 0 then 0 else k)))]) (rest := [.int (nI k), .ref (ad 8)]) C hW (c_X9_join hl9 _ ch (d 9 (if x = 0 then 0 else k)) (d 10 (24 * dp + (if y = 0 then 0 else k))) (hcs) (zRg_nn _ (hrx hb0 _ (by by_cases h77 : x = 0; rw [if_pos h77]; omega; rw [if_neg h77, he0.1 h77]; omega)) (hry hb0 _ (by by_cases h77 : y = 0; rw [if_pos h77]; omega; rw [if_neg h77, he0.2 h77]; omega)))) q773 q774 q6 q775 hd_X9_join ⟨Nat.le_of_ble_eq_true rfl, Nat.le_of_ble_eq_true rfl⟩ hl.1 (Nat.le_of_ble_eq_true rfl) rfl dX9_pairs_118 (fun _ _ _ _ _ _ hp => hp.elim) (fun v9 u9 H locs hp hW => ?_)
                    obtain ⟨rfl, hu9⟩ := hp
                    rw [hu9] at hW
                    refine W.eq (g2 := F0 m 121 ls [.double (zOp ch (d 9 (if x = 0 then 0 else k)) (d 10 (24 * dp + (if y = 0 then 0 else k)))), .int (nI k), .ref (ad 8)]) rfl ?_
                    refine ms_now (j := k) C hW (by omega) dX9_pairs_121 (fun H locs hW => ?_)
                    simp only [bx_uu, va_up_self] at hW
                    refine lv_aload_n hx hb dX9_pairs_122 rfl (lv_at hl 0 rfl) ?_
                    refine lv_aload_n hx hb dX9_pairs_123 rfl (lv_at hl 0 rfl) ?_
                    refine mg_now C hW q597 dX9_pairs_124 ?_
                    refine lv_iload hx hb dX9_pairs_127 (lv_at hl 4 rfl) ?_
                    refine ml_now (j := k) C hW (by omega) dX9_pairs_129 ?_
                    rw [va_up_self]
                    rw [va_up_self]
                    refine ar_callV (q0 := 0) (ci := 7) (T9 := TX9) (N9 := 27) (As := [.double (zOp ch (d 9 (if x = 0 then 0 else k)) (d 10 (24 * dp + (if y = 0 then 0 else k))))]) (rest := []) C hW (c_X9_check hl9 (va_up (va_up g 15 (nI (zEach x y).2)) 21 (bI b)) a (va_up d 8 (va_up f k (zOp ch (d 9 (if x = 0 then 0 else k)) (d 10 (24 * dp + (if y = 0 then 0 else k)))))) (zOp ch (d 9 (if x = 0 then 0 else k)) (d 10 (24 * dp + (if y = 0 then 0 else k)))) b (va_up_self _ _ _)) (rfl) rfl q776 q778 qs11 q6 q779 hd_X9_check ⟨Nat.le_of_ble_eq_true rfl, Nat.le_of_ble_eq_true rfl⟩ hl.1 (Nat.le_of_ble_eq_true rfl) rfl dX9_pairs_130 (fun _ _ _ _ _ _ hp => hp.elim) (fun v9 u9 H locs hp hW => ?_)
                    obtain ⟨rfl, hu9⟩ := hp
                    rw [hu9] at hW
                    rw [bx_uu] at hW
                    refine W.eq (g2 := F0 m 133 ls []) rfl ?_
                    refine ln_iinc (k := 4) (n := 1) (lv' := [(4, .int (nI (k + 1))), (0, .ref (ad 0)), (1, .int (nI ch)), (2, .int (nI dp)), (3, .int (nI y))]) hx hb dX9_pairs_133 hl rfl (by decide) rfl (fun ls hl => ?_)
                    refine lv_goto (tgt := 54) hx hb dX9_pairs_136 (by decide) ?_
                    exact ihlp (k + 1) (b || !(zRg (zOp ch (d 9 (if x = 0 then 0 else k)) (d 10 (24 * dp + (if y = 0 then 0 else k)))))) (va_up f k (zOp ch (d 9 (if x = 0 then 0 else k)) (d 10 (24 * dp + (if y = 0 then 0 else k))))) _ _ _ (by omega) (by omega) (zLi_s (F := (fun q => zOp ch (d 9 (if x = 0 then 0 else q)) (d 10 (24 * dp + (if y = 0 then 0 else q))))) (by omega) hli h21) (hW) (lv_sub hl [1, 2, 3, 4, 0] rfl)
        exact lp _ 0 oo (d 8) _ _ _ (Nat.lt_succ_self _) (Nat.zero_le _) (zLi_0) (by rw [va_up_s (f := va_up g 15 (nI (zEach x y).2)) (k := 21) hoo, va_up_id]; exact hW) (lv_sub hl [2, 3, 4, 1, 0] rfl)
    · skip
      refine lv_iload_n hx hb dX9_pairs_22 rfl (lv_at hl 0 rfl) ?_
      refine ln_if_eq (tgt := 32) hx hb dX9_pairs_23 (by decide) (by omega) (fun h25 => ?_) (fun h25 => ?_)
      · skip
        have hE : (zEach x y).1 = 0 := by unfold zEach; rw [if_neg (by omega)]
        have hE2 : zEach x y = (0, (zEach x y).2) := Prod.ext hE rfl
        have hzo := zEach_ok hox hoy hE
        have hz9 := zOk_num hzo
        have he0 := zEach_0 hE2
        refine lv_aload_n hx hb dX9_pairs_32 rfl (lv_at hl 1 rfl) ?_
        refine lv_aload_n hx hb dX9_pairs_33 rfl (lv_at hl 1 rfl) ?_
        refine mg_partShape C hW q603 dX9_pairs_34 ?_
        refine ln_top (hps) ?_
        refine ln_if_ne (tgt := 44) hx hb dX9_pairs_37 (by decide) (by omega) (fun h26 => ?_) (fun h26 => ?_)
        · skip
          refine lv_aload_n hx hb dX9_pairs_44 rfl (lv_at hl 1 rfl) ?_
          refine mg_partShape C hW q603 dX9_pairs_45 ?_
          refine ln_top (hps) ?_
          refine ln_top (a := (zEach x y).2) (congrArg nI (by unfold zEach; rw [if_neg (by omega)]; show _ = if x = 0 then y else x; first | (exfalso; omega) | rw [if_pos (by omega)] | rw [if_neg (by omega)])) ?_
          refine mp_nowShape C hW q602 dX9_pairs_48 (fun H locs hW => ?_)
          refine lv_iconst (v := nI 0) hx hb dX9_pairs_51 (by decide) ?_
          refine lv_istore (lv' := [(4, .int (nI 0)), (3, .int (nI y)), (0, .ref (ad 0)), (1, .int (nI ch)), (2, .int (nI dp))]) hx hb dX9_pairs_52 hl (by decide) rfl (fun ls hl => ?_)
          have lp : ∀ (N9 : Nat) (k : Nat) (b : Bool) (f : Nat → UInt64) (H : Heap) (locs : List Loc) (ls : Array Slot), zCt (zEach x y).2 - k < N9 → (k ≤ zCt (zEach x y).2) → (zLi oo b k (zCt (zEach x y).2) f (fun q => zOp ch (d 9 (if x = 0 then 0 else q)) (d 10 (24 * dp + (if y = 0 then 0 else q))))) → ar_W D A s.heap H locs (mL ad ct (va_up (va_up g 15 (nI (zEach x y).2)) 21 (bI b), a, va_up d 8 f)) → lv_has ls 5 [(0, .ref (ad 0)), (1, .int (nI ch)), (2, .int (nI dp)), (3, .int (nI y)), (4, .int (nI k))] → W p l e (ar_rm 2 43) s m [.ref (ad 0), .int (nI ch), .int (nI dp)].toArray below meth c H locs 0 0 (ar_E below (ar_Q D ct (mL ad ct) A (fun v9 u9 => v9 = none ∧ (((zEach x y).1 ≠ 0 ∧ u9 = (va_up g 23 (nI (zEach x y).1), a, d)) ∨ ((zEach x y).1 = 0 ∧ ∃ (b : Bool) (f : Nat → UInt64), zLi oo b (zCt (zEach x y).2) (zCt (zEach x y).2) f (fun q => zOp ch (d 9 (if x = 0 then 0 else q)) (d 10 (24 * dp + (if y = 0 then 0 else q)))) ∧ u9 = (va_up (va_up g 15 (nI (zEach x y).2)) 21 (bI b), a, va_up d 8 f)))) (fun _ _ => False)) [.ref (ad 0), .int (nI ch), .int (nI dp)].toArray s) (F0 m 54 ls []) := by
            intro N9
            induction N9 with
            | zero =>
              intro k b f H locs ls hN9
              exact absurd hN9 (Nat.not_lt_zero _)
            | succ N9 ihlp =>
              intro k b f H locs ls hN9 hk hli hW hl
              refine lv_iload hx hb dX9_pairs_54 (lv_at hl 4 rfl) ?_
              refine lv_aload_n hx hb dX9_pairs_56 rfl (lv_at hl 0 rfl) ?_
              refine mg_nowShape C hW q602 dX9_pairs_57 ?_
              rw [va_up_ne _ _ (by decide)]
              rw [va_up_self]
              refine ar_callS (As := [.int (nI ((zEach x y).2))]) (rest := [.int (nI k)]) C hW (c_X9_count hl9 _ ((zEach x y).2) (by omega)) q709 q710 q6 q711 hd_X9_count ⟨Nat.le_of_ble_eq_true rfl, Nat.le_of_ble_eq_true rfl⟩ hl.1 (Nat.le_of_ble_eq_true rfl) rfl dX9_pairs_60 (fun _ _ _ _ _ _ hp => hp.elim) (fun v9 u9 H locs hp hW => ?_)
              obtain ⟨rfl, hu9⟩ := hp
              rw [hu9] at hW
              refine W.eq (g2 := F0 m 63 ls [.int (nI (zCt ((zEach x y).2))), .int (nI k)]) rfl ?_
              refine ln_icmp_ge (tgt := 139) hx hb dX9_pairs_63 (by decide) (by omega) (by omega) (fun h27 => ?_) (fun h27 => ?_)
              · skip
                exact ar_vret C hr hW dX9_pairs_139 (⟨rfl, Or.inr ⟨hE, b, f, zLi_e hli (by first | exact Or.inl h27 | exact Or.inr (by omega)), rfl⟩⟩)
              · skip
                refine lv_aload_n hx hb dX9_pairs_66 rfl (lv_at hl 0 rfl) ?_
                refine mg_outOfRange C hW q608 dX9_pairs_67 ?_
                rw [va_up_self]
                refine lb_if_ne (tgt := 139) hx hb dX9_pairs_70 (by decide) (fun h28 => ?_) (fun h28 => ?_)
                · skip
                  exact ar_vret C hr hW dX9_pairs_139 (⟨rfl, Or.inr ⟨hE, b, f, zLi_e hli (by first | exact Or.inl h28 | exact Or.inr (by omega)), rfl⟩⟩)
                · skip
                  have hb0 := zLi_oo hli h28
                  refine lv_aload_n hx hb dX9_pairs_73 rfl (lv_at hl 0 rfl) ?_
                  refine mg_now C hW q597 dX9_pairs_74 ?_
                  refine lv_iload hx hb dX9_pairs_77 (lv_at hl 4 rfl) ?_
                  refine lv_iload_n hx hb dX9_pairs_79 rfl (lv_at hl 1 rfl) ?_
                  refine lv_aload_n hx hb dX9_pairs_80 rfl (lv_at hl 0 rfl) ?_
                  refine mg_part C hW q598 dX9_pairs_81 ?_
                  refine lv_aload_n hx hb dX9_pairs_84 rfl (lv_at hl 0 rfl) ?_
                  refine mg_partShape C hW q603 dX9_pairs_85 ?_
                  rw [va_up_ne _ _ (by decide)]
                  rw [va_up_ne _ _ (by decide)]
                  refine ln_top (hps) ?_
                  refine ln_if_ne (tgt := 95) hx hb dX9_pairs_88 (by decide) (by omega) (fun h29 => ?_) (fun h29 => ?_)
                  · skip
                    refine lv_iload hx hb dX9_pairs_95 (lv_at hl 4 rfl) ?_
                    refine ml_part (j := k) C hW (by omega) dX9_pairs_97 ?_
                    rw [va_up_ne _ _ (by omega)]
                    rw [show d 9 k = d 9 (if x = 0 then 0 else k) by first | (exfalso; omega) | rw [if_pos (by omega)] | rw [if_neg (by omega)]]
                    refine lv_aload_n hx hb dX9_pairs_98 rfl (lv_at hl 0 rfl) ?_
                    refine mg_right C hW q599 dX9_pairs_99 ?_
                    refine lv_bipush (v := nI 24) hx hb dX9_pairs_102 (by decide) ?_
                    refine lv_iload_n hx hb dX9_pairs_104 rfl (lv_at hl 2 rfl) ?_
                    refine ln_imul hx hb dX9_pairs_105 ?_
                    refine lv_iload_n hx hb dX9_pairs_106 rfl (lv_at hl 3 rfl) ?_
                    refine ln_if_ne (tgt := 114) hx hb dX9_pairs_107 (by decide) (by omega) (fun h30 => ?_) (fun h30 => ?_)
                    · skip
                      refine lv_iload hx hb dX9_pairs_114 (lv_at hl 4 rfl) ?_
                      refine ln_iadd hx hb dX9_pairs_116 ?_
                      refine ml_right (j := (24 * dp) + k) C hW (by omega) dX9_pairs_117 ?_
                      rw [va_up_ne _ _ (by omega)]
                      rw [show d 10 ((24 * dp) + k) = d 10 (24 * dp + (if y = 0 then 0 else k)) by first | (exfalso; omega) | rw [if_pos (by omega)] | rw [if_neg (by omega)]]
                      refine ar_callS (As := [.int (nI ch), .double (d 9 (if x = 0 then 0 else k)), .double (d 10 (24 * dp + (if y = 0 then 0 else k)))]) (rest := [.int (nI k), .ref (ad 8)]) C hW (c_X9_join hl9 _ ch (d 9 (if x = 0 then 0 else k)) (d 10 (24 * dp + (if y = 0 then 0 else k))) (hcs) (zRg_nn _ (hrx hb0 _ (by by_cases h77 : x = 0; rw [if_pos h77]; omega; rw [if_neg h77, he0.1 h77]; omega)) (hry hb0 _ (by by_cases h77 : y = 0; rw [if_pos h77]; omega; rw [if_neg h77, he0.2 h77]; omega)))) q773 q774 q6 q775 hd_X9_join ⟨Nat.le_of_ble_eq_true rfl, Nat.le_of_ble_eq_true rfl⟩ hl.1 (Nat.le_of_ble_eq_true rfl) rfl dX9_pairs_118 (fun _ _ _ _ _ _ hp => hp.elim) (fun v9 u9 H locs hp hW => ?_)
                      obtain ⟨rfl, hu9⟩ := hp
                      rw [hu9] at hW
                      refine W.eq (g2 := F0 m 121 ls [.double (zOp ch (d 9 (if x = 0 then 0 else k)) (d 10 (24 * dp + (if y = 0 then 0 else k)))), .int (nI k), .ref (ad 8)]) rfl ?_
                      refine ms_now (j := k) C hW (by omega) dX9_pairs_121 (fun H locs hW => ?_)
                      simp only [bx_uu, va_up_self] at hW
                      refine lv_aload_n hx hb dX9_pairs_122 rfl (lv_at hl 0 rfl) ?_
                      refine lv_aload_n hx hb dX9_pairs_123 rfl (lv_at hl 0 rfl) ?_
                      refine mg_now C hW q597 dX9_pairs_124 ?_
                      refine lv_iload hx hb dX9_pairs_127 (lv_at hl 4 rfl) ?_
                      refine ml_now (j := k) C hW (by omega) dX9_pairs_129 ?_
                      rw [va_up_self]
                      rw [va_up_self]
                      refine ar_callV (q0 := 0) (ci := 7) (T9 := TX9) (N9 := 27) (As := [.double (zOp ch (d 9 (if x = 0 then 0 else k)) (d 10 (24 * dp + (if y = 0 then 0 else k))))]) (rest := []) C hW (c_X9_check hl9 (va_up (va_up g 15 (nI (zEach x y).2)) 21 (bI b)) a (va_up d 8 (va_up f k (zOp ch (d 9 (if x = 0 then 0 else k)) (d 10 (24 * dp + (if y = 0 then 0 else k)))))) (zOp ch (d 9 (if x = 0 then 0 else k)) (d 10 (24 * dp + (if y = 0 then 0 else k)))) b (va_up_self _ _ _)) (rfl) rfl q776 q778 qs11 q6 q779 hd_X9_check ⟨Nat.le_of_ble_eq_true rfl, Nat.le_of_ble_eq_true rfl⟩ hl.1 (Nat.le_of_ble_eq_true rfl) rfl dX9_pairs_130 (fun _ _ _ _ _ _ hp => hp.elim) (fun v9 u9 H locs hp hW => ?_)
                      obtain ⟨rfl, hu9⟩ := hp
                      rw [hu9] at hW
                      rw [bx_uu] at hW
                      refine W.eq (g2 := F0 m 133 ls []) rfl ?_
                      refine ln_iinc (k := 4) (n := 1) (lv' := [(4, .int (nI (k + 1))), (0, .ref (ad 0)), (1, .int (nI ch)), (2, .int (nI dp)), (3, .int (nI y))]) hx hb dX9_pairs_133 hl rfl (by decide) rfl (fun ls hl => ?_)
                      refine lv_goto (tgt := 54) hx hb dX9_pairs_136 (by decide) ?_
                      exact ihlp (k + 1) (b || !(zRg (zOp ch (d 9 (if x = 0 then 0 else k)) (d 10 (24 * dp + (if y = 0 then 0 else k)))))) (va_up f k (zOp ch (d 9 (if x = 0 then 0 else k)) (d 10 (24 * dp + (if y = 0 then 0 else k))))) _ _ _ (by omega) (by omega) (zLi_s (F := (fun q => zOp ch (d 9 (if x = 0 then 0 else q)) (d 10 (24 * dp + (if y = 0 then 0 else q))))) (by omega) hli h28) (hW) (lv_sub hl [1, 2, 3, 4, 0] rfl)
                    · skip
                      refine lv_iconst (v := nI 0) hx hb dX9_pairs_110 (by decide) ?_
                      refine lv_goto (tgt := 116) hx hb dX9_pairs_111 (by decide) ?_
                      refine ln_iadd hx hb dX9_pairs_116 ?_
                      refine ml_right (j := (24 * dp) + 0) C hW (by omega) dX9_pairs_117 ?_
                      rw [va_up_ne _ _ (by omega)]
                      rw [show d 10 ((24 * dp) + 0) = d 10 (24 * dp + (if y = 0 then 0 else k)) by first | (exfalso; omega) | rw [if_pos (by omega)] | rw [if_neg (by omega)]]
                      refine ar_callS (As := [.int (nI ch), .double (d 9 (if x = 0 then 0 else k)), .double (d 10 (24 * dp + (if y = 0 then 0 else k)))]) (rest := [.int (nI k), .ref (ad 8)]) C hW (c_X9_join hl9 _ ch (d 9 (if x = 0 then 0 else k)) (d 10 (24 * dp + (if y = 0 then 0 else k))) (hcs) (zRg_nn _ (hrx hb0 _ (by by_cases h77 : x = 0; rw [if_pos h77]; omega; rw [if_neg h77, he0.1 h77]; omega)) (hry hb0 _ (by by_cases h77 : y = 0; rw [if_pos h77]; omega; rw [if_neg h77, he0.2 h77]; omega)))) q773 q774 q6 q775 hd_X9_join ⟨Nat.le_of_ble_eq_true rfl, Nat.le_of_ble_eq_true rfl⟩ hl.1 (Nat.le_of_ble_eq_true rfl) rfl dX9_pairs_118 (fun _ _ _ _ _ _ hp => hp.elim) (fun v9 u9 H locs hp hW => ?_)
                      obtain ⟨rfl, hu9⟩ := hp
                      rw [hu9] at hW
                      refine W.eq (g2 := F0 m 121 ls [.double (zOp ch (d 9 (if x = 0 then 0 else k)) (d 10 (24 * dp + (if y = 0 then 0 else k)))), .int (nI k), .ref (ad 8)]) rfl ?_
                      refine ms_now (j := k) C hW (by omega) dX9_pairs_121 (fun H locs hW => ?_)
                      simp only [bx_uu, va_up_self] at hW
                      refine lv_aload_n hx hb dX9_pairs_122 rfl (lv_at hl 0 rfl) ?_
                      refine lv_aload_n hx hb dX9_pairs_123 rfl (lv_at hl 0 rfl) ?_
                      refine mg_now C hW q597 dX9_pairs_124 ?_
                      refine lv_iload hx hb dX9_pairs_127 (lv_at hl 4 rfl) ?_
                      refine ml_now (j := k) C hW (by omega) dX9_pairs_129 ?_
                      rw [va_up_self]
                      rw [va_up_self]
                      refine ar_callV (q0 := 0) (ci := 7) (T9 := TX9) (N9 := 27) (As := [.double (zOp ch (d 9 (if x = 0 then 0 else k)) (d 10 (24 * dp + (if y = 0 then 0 else k))))]) (rest := []) C hW (c_X9_check hl9 (va_up (va_up g 15 (nI (zEach x y).2)) 21 (bI b)) a (va_up d 8 (va_up f k (zOp ch (d 9 (if x = 0 then 0 else k)) (d 10 (24 * dp + (if y = 0 then 0 else k)))))) (zOp ch (d 9 (if x = 0 then 0 else k)) (d 10 (24 * dp + (if y = 0 then 0 else k)))) b (va_up_self _ _ _)) (rfl) rfl q776 q778 qs11 q6 q779 hd_X9_check ⟨Nat.le_of_ble_eq_true rfl, Nat.le_of_ble_eq_true rfl⟩ hl.1 (Nat.le_of_ble_eq_true rfl) rfl dX9_pairs_130 (fun _ _ _ _ _ _ hp => hp.elim) (fun v9 u9 H locs hp hW => ?_)
                      obtain ⟨rfl, hu9⟩ := hp
                      rw [hu9] at hW
                      rw [bx_uu] at hW
                      refine W.eq (g2 := F0 m 133 ls []) rfl ?_
                      refine ln_iinc (k := 4) (n := 1) (lv' := [(4, .int (nI (k + 1))), (0, .ref (ad 0)), (1, .int (nI ch)), (2, .int (nI dp)), (3, .int (nI y))]) hx hb dX9_pairs_133 hl rfl (by decide) rfl (fun ls hl => ?_)
                      refine lv_goto (tgt := 54) hx hb dX9_pairs_136 (by decide) ?_
                      exact ihlp (k + 1) (b || !(zRg (zOp ch (d 9 (if x = 0 then 0 else k)) (d 10 (24 * dp + (if y = 0 then 0 else k)))))) (va_up f k (zOp ch (d 9 (if x = 0 then 0 else k)) (d 10 (24 * dp + (if y = 0 then 0 else k))))) _ _ _ (by omega) (by omega) (zLi_s (F := (fun q => zOp ch (d 9 (if x = 0 then 0 else q)) (d 10 (24 * dp + (if y = 0 then 0 else q))))) (by omega) hli h28) (hW) (lv_sub hl [1, 2, 3, 4, 0] rfl)
                  · skip
                    refine lv_iconst (v := nI 0) hx hb dX9_pairs_91 (by decide) ?_
                    refine lv_goto (tgt := 97) hx hb dX9_pairs_92 (by decide) ?_
                    refine ml_part (j := 0) C hW (by omega) dX9_pairs_97 ?_
                    rw [va_up_ne _ _ (by omega)]
                    rw [show d 9 0 = d 9 (if x = 0 then 0 else k) by first | (exfalso; omega) | rw [if_pos (by omega)] | rw [if_neg (by omega)]]
                    refine lv_aload_n hx hb dX9_pairs_98 rfl (lv_at hl 0 rfl) ?_
                    refine mg_right C hW q599 dX9_pairs_99 ?_
                    refine lv_bipush (v := nI 24) hx hb dX9_pairs_102 (by decide) ?_
                    refine lv_iload_n hx hb dX9_pairs_104 rfl (lv_at hl 2 rfl) ?_
                    refine ln_imul hx hb dX9_pairs_105 ?_
                    refine lv_iload_n hx hb dX9_pairs_106 rfl (lv_at hl 3 rfl) ?_
                    refine ln_if_ne (tgt := 114) hx hb dX9_pairs_107 (by decide) (by omega) (fun h31 => ?_) (fun h31 => ?_)
                    · skip
                      refine lv_iload hx hb dX9_pairs_114 (lv_at hl 4 rfl) ?_
                      refine ln_iadd hx hb dX9_pairs_116 ?_
                      refine ml_right (j := (24 * dp) + k) C hW (by omega) dX9_pairs_117 ?_
                      rw [va_up_ne _ _ (by omega)]
                      rw [show d 10 ((24 * dp) + k) = d 10 (24 * dp + (if y = 0 then 0 else k)) by first | (exfalso; omega) | rw [if_pos (by omega)] | rw [if_neg (by omega)]]
                      refine ar_callS (As := [.int (nI ch), .double (d 9 (if x = 0 then 0 else k)), .double (d 10 (24 * dp + (if y = 0 then 0 else k)))]) (rest := [.int (nI k), .ref (ad 8)]) C hW (c_X9_join hl9 _ ch (d 9 (if x = 0 then 0 else k)) (d 10 (24 * dp + (if y = 0 then 0 else k))) (hcs) (zRg_nn _ (hrx hb0 _ (by by_cases h77 : x = 0; rw [if_pos h77]; omega; rw [if_neg h77, he0.1 h77]; omega)) (hry hb0 _ (by by_cases h77 : y = 0; rw [if_pos h77]; omega; rw [if_neg h77, he0.2 h77]; omega)))) q773 q774 q6 q775 hd_X9_join ⟨Nat.le_of_ble_eq_true rfl, Nat.le_of_ble_eq_true rfl⟩ hl.1 (Nat.le_of_ble_eq_true rfl) rfl dX9_pairs_118 (fun _ _ _ _ _ _ hp => hp.elim) (fun v9 u9 H locs hp hW => ?_)
                      obtain ⟨rfl, hu9⟩ := hp
                      rw [hu9] at hW
                      refine W.eq (g2 := F0 m 121 ls [.double (zOp ch (d 9 (if x = 0 then 0 else k)) (d 10 (24 * dp + (if y = 0 then 0 else k)))), .int (nI k), .ref (ad 8)]) rfl ?_
                      refine ms_now (j := k) C hW (by omega) dX9_pairs_121 (fun H locs hW => ?_)
                      simp only [bx_uu, va_up_self] at hW
                      refine lv_aload_n hx hb dX9_pairs_122 rfl (lv_at hl 0 rfl) ?_
                      refine lv_aload_n hx hb dX9_pairs_123 rfl (lv_at hl 0 rfl) ?_
                      refine mg_now C hW q597 dX9_pairs_124 ?_
                      refine lv_iload hx hb dX9_pairs_127 (lv_at hl 4 rfl) ?_
                      refine ml_now (j := k) C hW (by omega) dX9_pairs_129 ?_
                      rw [va_up_self]
                      rw [va_up_self]
                      refine ar_callV (q0 := 0) (ci := 7) (T9 := TX9) (N9 := 27) (As := [.double (zOp ch (d 9 (if x = 0 then 0 else k)) (d 10 (24 * dp + (if y = 0 then 0 else k))))]) (rest := []) C hW (c_X9_check hl9 (va_up (va_up g 15 (nI (zEach x y).2)) 21 (bI b)) a (va_up d 8 (va_up f k (zOp ch (d 9 (if x = 0 then 0 else k)) (d 10 (24 * dp + (if y = 0 then 0 else k)))))) (zOp ch (d 9 (if x = 0 then 0 else k)) (d 10 (24 * dp + (if y = 0 then 0 else k)))) b (va_up_self _ _ _)) (rfl) rfl q776 q778 qs11 q6 q779 hd_X9_check ⟨Nat.le_of_ble_eq_true rfl, Nat.le_of_ble_eq_true rfl⟩ hl.1 (Nat.le_of_ble_eq_true rfl) rfl dX9_pairs_130 (fun _ _ _ _ _ _ hp => hp.elim) (fun v9 u9 H locs hp hW => ?_)
                      obtain ⟨rfl, hu9⟩ := hp
                      rw [hu9] at hW
                      rw [bx_uu] at hW
                      refine W.eq (g2 := F0 m 133 ls []) rfl ?_
                      refine ln_iinc (k := 4) (n := 1) (lv' := [(4, .int (nI (k + 1))), (0, .ref (ad 0)), (1, .int (nI ch)), (2, .int (nI dp)), (3, .int (nI y))]) hx hb dX9_pairs_133 hl rfl (by decide) rfl (fun ls hl => ?_)
                      refine lv_goto (tgt := 54) hx hb dX9_pairs_136 (by decide) ?_
                      exact ihlp (k + 1) (b || !(zRg (zOp ch (d 9 (if x = 0 then 0 else k)) (d 10 (24 * dp + (if y = 0 then 0 else k)))))) (va_up f k (zOp ch (d 9 (if x = 0 then 0 else k)) (d 10 (24 * dp + (if y = 0 then 0 else k))))) _ _ _ (by omega) (by omega) (zLi_s (F := (fun q => zOp ch (d 9 (if x = 0 then 0 else q)) (d 10 (24 * dp + (if y = 0 then 0 else q))))) (by omega) hli h28) (hW) (lv_sub hl [1, 2, 3, 4, 0] rfl)
                    · skip
                      refine lv_iconst (v := nI 0) hx hb dX9_pairs_110 (by decide) ?_
                      refine lv_goto (tgt := 116) hx hb dX9_pairs_111 (by decide) ?_
                      refine ln_iadd hx hb dX9_pairs_116 ?_
                      refine ml_right (j := (24 * dp) + 0) C hW (by omega) dX9_pairs_117 ?_
                      rw [va_up_ne _ _ (by omega)]
                      rw [show d 10 ((24 * dp) + 0) = d 10 (24 * dp + (if y = 0 then 0 else k)) by first | (exfalso; omega) | rw [if_pos (by omega)] | rw [if_neg (by omega)]]
                      refine ar_callS (As := [.int (nI ch), .double (d 9 (if x = 0 then 0 else k)), .double (d 10 (24 * dp + (if y = 0 then 0 else k)))]) (rest := [.int (nI k), .ref (ad 8)]) C hW (c_X9_join hl9 _ ch (d 9 (if x = 0 then 0 else k)) (d 10 (24 * dp + (if y = 0 then 0 else k))) (hcs) (zRg_nn _ (hrx hb0 _ (by by_cases h77 : x = 0; rw [if_pos h77]; omega; rw [if_neg h77, he0.1 h77]; omega)) (hry hb0 _ (by by_cases h77 : y = 0; rw [if_pos h77]; omega; rw [if_neg h77, he0.2 h77]; omega)))) q773 q774 q6 q775 hd_X9_join ⟨Nat.le_of_ble_eq_true rfl, Nat.le_of_ble_eq_true rfl⟩ hl.1 (Nat.le_of_ble_eq_true rfl) rfl dX9_pairs_118 (fun _ _ _ _ _ _ hp => hp.elim) (fun v9 u9 H locs hp hW => ?_)
                      obtain ⟨rfl, hu9⟩ := hp
                      rw [hu9] at hW
                      refine W.eq (g2 := F0 m 121 ls [.double (zOp ch (d 9 (if x = 0 then 0 else k)) (d 10 (24 * dp + (if y = 0 then 0 else k)))), .int (nI k), .ref (ad 8)]) rfl ?_
                      refine ms_now (j := k) C hW (by omega) dX9_pairs_121 (fun H locs hW => ?_)
                      simp only [bx_uu, va_up_self] at hW
                      refine lv_aload_n hx hb dX9_pairs_122 rfl (lv_at hl 0 rfl) ?_
                      refine lv_aload_n hx hb dX9_pairs_123 rfl (lv_at hl 0 rfl) ?_
                      refine mg_now C hW q597 dX9_pairs_124 ?_
                      refine lv_iload hx hb dX9_pairs_127 (lv_at hl 4 rfl) ?_
                      refine ml_now (j := k) C hW (by omega) dX9_pairs_129 ?_
                      rw [va_up_self]
                      rw [va_up_self]
                      refine ar_callV (q0 := 0) (ci := 7) (T9 := TX9) (N9 := 27) (As := [.double (zOp ch (d 9 (if x = 0 then 0 else k)) (d 10 (24 * dp + (if y = 0 then 0 else k))))]) (rest := []) C hW (c_X9_check hl9 (va_up (va_up g 15 (nI (zEach x y).2)) 21 (bI b)) a (va_up d 8 (va_up f k (zOp ch (d 9 (if x = 0 then 0 else k)) (d 10 (24 * dp + (if y = 0 then 0 else k)))))) (zOp ch (d 9 (if x = 0 then 0 else k)) (d 10 (24 * dp + (if y = 0 then 0 else k)))) b (va_up_self _ _ _)) (rfl) rfl q776 q778 qs11 q6 q779 hd_X9_check ⟨Nat.le_of_ble_eq_true rfl, Nat.le_of_ble_eq_true rfl⟩ hl.1 (Nat.le_of_ble_eq_true rfl) rfl dX9_pairs_130 (fun _ _ _ _ _ _ hp => hp.elim) (fun v9 u9 H locs hp hW => ?_)
                      obtain ⟨rfl, hu9⟩ := hp
                      rw [hu9] at hW
                      rw [bx_uu] at hW
                      refine W.eq (g2 := F0 m 133 ls []) rfl ?_
                      refine ln_iinc (k := 4) (n := 1) (lv' := [(4, .int (nI (k + 1))), (0, .ref (ad 0)), (1, .int (nI ch)), (2, .int (nI dp)), (3, .int (nI y))]) hx hb dX9_pairs_133 hl rfl (by decide) rfl (fun ls hl => ?_)
                      refine lv_goto (tgt := 54) hx hb dX9_pairs_136 (by decide) ?_
                      exact ihlp (k + 1) (b || !(zRg (zOp ch (d 9 (if x = 0 then 0 else k)) (d 10 (24 * dp + (if y = 0 then 0 else k)))))) (va_up f k (zOp ch (d 9 (if x = 0 then 0 else k)) (d 10 (24 * dp + (if y = 0 then 0 else k))))) _ _ _ (by omega) (by omega) (zLi_s (F := (fun q => zOp ch (d 9 (if x = 0 then 0 else q)) (d 10 (24 * dp + (if y = 0 then 0 else q))))) (by omega) hli h28) (hW) (lv_sub hl [1, 2, 3, 4, 0] rfl)
          exact lp _ 0 oo (d 8) _ _ _ (Nat.lt_succ_self _) (Nat.zero_le _) (zLi_0) (by rw [va_up_s (f := va_up g 15 (nI (zEach x y).2)) (k := 21) hoo, va_up_id]; exact hW) (lv_sub hl [2, 3, 4, 1, 0] rfl)
        · skip
          refine lv_iload_n hx hb dX9_pairs_40 rfl (lv_at hl 0 rfl) ?_
          refine lv_goto (tgt := 48) hx hb dX9_pairs_41 (by decide) ?_
          refine ln_top (a := (zEach x y).2) (congrArg nI (by unfold zEach; rw [if_neg (by omega)]; show _ = if x = 0 then y else x; first | (exfalso; omega) | rw [if_pos (by omega)] | rw [if_neg (by omega)])) ?_
          refine mp_nowShape C hW q602 dX9_pairs_48 (fun H locs hW => ?_)
          refine lv_iconst (v := nI 0) hx hb dX9_pairs_51 (by decide) ?_
          refine lv_istore (lv' := [(4, .int (nI 0)), (3, .int (nI y)), (0, .ref (ad 0)), (1, .int (nI ch)), (2, .int (nI dp))]) hx hb dX9_pairs_52 hl (by decide) rfl (fun ls hl => ?_)
          have lp : ∀ (N9 : Nat) (k : Nat) (b : Bool) (f : Nat → UInt64) (H : Heap) (locs : List Loc) (ls : Array Slot), zCt (zEach x y).2 - k < N9 → (k ≤ zCt (zEach x y).2) → (zLi oo b k (zCt (zEach x y).2) f (fun q => zOp ch (d 9 (if x = 0 then 0 else q)) (d 10 (24 * dp + (if y = 0 then 0 else q))))) → ar_W D A s.heap H locs (mL ad ct (va_up (va_up g 15 (nI (zEach x y).2)) 21 (bI b), a, va_up d 8 f)) → lv_has ls 5 [(0, .ref (ad 0)), (1, .int (nI ch)), (2, .int (nI dp)), (3, .int (nI y)), (4, .int (nI k))] → W p l e (ar_rm 2 43) s m [.ref (ad 0), .int (nI ch), .int (nI dp)].toArray below meth c H locs 0 0 (ar_E below (ar_Q D ct (mL ad ct) A (fun v9 u9 => v9 = none ∧ (((zEach x y).1 ≠ 0 ∧ u9 = (va_up g 23 (nI (zEach x y).1), a, d)) ∨ ((zEach x y).1 = 0 ∧ ∃ (b : Bool) (f : Nat → UInt64), zLi oo b (zCt (zEach x y).2) (zCt (zEach x y).2) f (fun q => zOp ch (d 9 (if x = 0 then 0 else q)) (d 10 (24 * dp + (if y = 0 then 0 else q)))) ∧ u9 = (va_up (va_up g 15 (nI (zEach x y).2)) 21 (bI b), a, va_up d 8 f)))) (fun _ _ => False)) [.ref (ad 0), .int (nI ch), .int (nI dp)].toArray s) (F0 m 54 ls []) := by
            intro N9
            induction N9 with
            | zero =>
              intro k b f H locs ls hN9
              exact absurd hN9 (Nat.not_lt_zero _)
            | succ N9 ihlp =>
              intro k b f H locs ls hN9 hk hli hW hl
              refine lv_iload hx hb dX9_pairs_54 (lv_at hl 4 rfl) ?_
              refine lv_aload_n hx hb dX9_pairs_56 rfl (lv_at hl 0 rfl) ?_
              refine mg_nowShape C hW q602 dX9_pairs_57 ?_
              rw [va_up_ne _ _ (by decide)]
              rw [va_up_self]
              refine ar_callS (As := [.int (nI ((zEach x y).2))]) (rest := [.int (nI k)]) C hW (c_X9_count hl9 _ ((zEach x y).2) (by omega)) q709 q710 q6 q711 hd_X9_count ⟨Nat.le_of_ble_eq_true rfl, Nat.le_of_ble_eq_true rfl⟩ hl.1 (Nat.le_of_ble_eq_true rfl) rfl dX9_pairs_60 (fun _ _ _ _ _ _ hp => hp.elim) (fun v9 u9 H locs hp hW => ?_)
              obtain ⟨rfl, hu9⟩ := hp
              rw [hu9] at hW
              refine W.eq (g2 := F0 m 63 ls [.int (nI (zCt ((zEach x y).2))), .int (nI k)]) rfl ?_
              refine ln_icmp_ge (tgt := 139) hx hb dX9_pairs_63 (by decide) (by omega) (by omega) (fun h32 => ?_) (fun h32 => ?_)
              · skip
                exact ar_vret C hr hW dX9_pairs_139 (⟨rfl, Or.inr ⟨hE, b, f, zLi_e hli (by first | exact Or.inl h32 | exact Or.inr (by omega)), rfl⟩⟩)
              · skip
                refine lv_aload_n hx hb dX9_pairs_66 rfl (lv_at hl 0 rfl) ?_
                refine mg_outOfRange C hW q608 dX9_pairs_67 ?_
                rw [va_up_self]
                refine lb_if_ne (tgt := 139) hx hb dX9_pairs_70 (by decide) (fun h33 => ?_) (fun h33 => ?_)
                · skip
                  exact ar_vret C hr hW dX9_pairs_139 (⟨rfl, Or.inr ⟨hE, b, f, zLi_e hli (by first | exact Or.inl h33 | exact Or.inr (by omega)), rfl⟩⟩)
                · skip
                  have hb0 := zLi_oo hli h33
                  refine lv_aload_n hx hb dX9_pairs_73 rfl (lv_at hl 0 rfl) ?_
                  refine mg_now C hW q597 dX9_pairs_74 ?_
                  refine lv_iload hx hb dX9_pairs_77 (lv_at hl 4 rfl) ?_
                  refine lv_iload_n hx hb dX9_pairs_79 rfl (lv_at hl 1 rfl) ?_
                  refine lv_aload_n hx hb dX9_pairs_80 rfl (lv_at hl 0 rfl) ?_
                  refine mg_part C hW q598 dX9_pairs_81 ?_
                  refine lv_aload_n hx hb dX9_pairs_84 rfl (lv_at hl 0 rfl) ?_
                  refine mg_partShape C hW q603 dX9_pairs_85 ?_
                  rw [va_up_ne _ _ (by decide)]
                  rw [va_up_ne _ _ (by decide)]
                  refine ln_top (hps) ?_
                  refine ln_if_ne (tgt := 95) hx hb dX9_pairs_88 (by decide) (by omega) (fun h34 => ?_) (fun h34 => ?_)
                  · skip
                    refine lv_iload hx hb dX9_pairs_95 (lv_at hl 4 rfl) ?_
                    refine ml_part (j := k) C hW (by omega) dX9_pairs_97 ?_
                    rw [va_up_ne _ _ (by omega)]
                    rw [show d 9 k = d 9 (if x = 0 then 0 else k) by first | (exfalso; omega) | rw [if_pos (by omega)] | rw [if_neg (by omega)]]
                    refine lv_aload_n hx hb dX9_pairs_98 rfl (lv_at hl 0 rfl) ?_
                    refine mg_right C hW q599 dX9_pairs_99 ?_
                    refine lv_bipush (v := nI 24) hx hb dX9_pairs_102 (by decide) ?_
                    refine lv_iload_n hx hb dX9_pairs_104 rfl (lv_at hl 2 rfl) ?_
                    refine ln_imul hx hb dX9_pairs_105 ?_
                    refine lv_iload_n hx hb dX9_pairs_106 rfl (lv_at hl 3 rfl) ?_
                    refine ln_if_ne (tgt := 114) hx hb dX9_pairs_107 (by decide) (by omega) (fun h35 => ?_) (fun h35 => ?_)
                    · skip
                      refine lv_iload hx hb dX9_pairs_114 (lv_at hl 4 rfl) ?_
                      refine ln_iadd hx hb dX9_pairs_116 ?_
                      refine ml_right (j := (24 * dp) + k) C hW (by omega) dX9_pairs_117 ?_
                      rw [va_up_ne _ _ (by omega)]
                      rw [show d 10 ((24 * dp) + k) = d 10 (24 * dp + (if y = 0 then 0 else k)) by first | (exfalso; omega) | rw [if_pos (by omega)] | rw [if_neg (by omega)]]
                      refine ar_callS (As := [.int (nI ch), .double (d 9 (if x = 0 then 0 else k)), .double (d 10 (24 * dp + (if y = 0 then 0 else k)))]) (rest := [.int (nI k), .ref (ad 8)]) C hW (c_X9_join hl9 _ ch (d 9 (if x = 0 then 0 else k)) (d 10 (24 * dp + (if y = 0 then 0 else k))) (hcs) (zRg_nn _ (hrx hb0 _ (by by_cases h77 : x = 0; rw [if_pos h77]; omega; rw [if_neg h77, he0.1 h77]; omega)) (hry hb0 _ (by by_cases h77 : y = 0; rw [if_pos h77]; omega; rw [if_neg h77, he0.2 h77]; omega)))) q773 q774 q6 q775 hd_X9_join ⟨Nat.le_of_ble_eq_true rfl, Nat.le_of_ble_eq_true rfl⟩ hl.1 (Nat.le_of_ble_eq_true rfl) rfl dX9_pairs_118 (fun _ _ _ _ _ _ hp => hp.elim) (fun v9 u9 H locs hp hW => ?_)
                      obtain ⟨rfl, hu9⟩ := hp
                      rw [hu9] at hW
                      refine W.eq (g2 := F0 m 121 ls [.double (zOp ch (d 9 (if x = 0 then 0 else k)) (d 10 (24 * dp + (if y = 0 then 0 else k)))), .int (nI k), .ref (ad 8)]) rfl ?_
                      refine ms_now (j := k) C hW (by omega) dX9_pairs_121 (fun H locs hW => ?_)
                      simp only [bx_uu, va_up_self] at hW
                      refine lv_aload_n hx hb dX9_pairs_122 rfl (lv_at hl 0 rfl) ?_
                      refine lv_aload_n hx hb dX9_pairs_123 rfl (lv_at hl 0 rfl) ?_
                      refine mg_now C hW q597 dX9_pairs_124 ?_
                      refine lv_iload hx hb dX9_pairs_127 (lv_at hl 4 rfl) ?_
                      refine ml_now (j := k) C hW (by omega) dX9_pairs_129 ?_
                      rw [va_up_self]
                      rw [va_up_self]
                      refine ar_callV (q0 := 0) (ci := 7) (T9 := TX9) (N9 := 27) (As := [.double (zOp ch (d 9 (if x = 0 then 0 else k)) (d 10 (24 * dp + (if y = 0 then 0 else k))))]) (rest := []) C hW (c_X9_check hl9 (va_up (va_up g 15 (nI (zEach x y).2)) 21 (bI b)) a (va_up d 8 (va_up f k (zOp ch (d 9 (if x = 0 then 0 else k)) (d 10 (24 * dp + (if y = 0 then 0 else k)))))) (zOp ch (d 9 (if x = 0 then 0 else k)) (d 10 (24 * dp + (if y = 0 then 0 else k)))) b (va_up_self _ _ _)) (rfl) rfl q776 q778 qs11 q6 q779 hd_X9_check ⟨Nat.le_of_ble_eq_true rfl, Nat.le_of_ble_eq_true rfl⟩ hl.1 (Nat.le_of_ble_eq_true rfl) rfl dX9_pairs_130 (fun _ _ _ _ _ _ hp => hp.elim) (fun v9 u9 H locs hp hW => ?_)
                      obtain ⟨rfl, hu9⟩ := hp
                      rw [hu9] at hW
                      rw [bx_uu] at hW
                      refine W.eq (g2 := F0 m 133 ls []) rfl ?_
                      refine ln_iinc (k := 4) (n := 1) (lv' := [(4, .int (nI (k + 1))), (0, .ref (ad 0)), (1, .int (nI ch)), (2, .int (nI dp)), (3, .int (nI y))]) hx hb dX9_pairs_133 hl rfl (by decide) rfl (fun ls hl => ?_)
                      refine lv_goto (tgt := 54) hx hb dX9_pairs_136 (by decide) ?_
                      exact ihlp (k + 1) (b || !(zRg (zOp ch (d 9 (if x = 0 then 0 else k)) (d 10 (24 * dp + (if y = 0 then 0 else k)))))) (va_up f k (zOp ch (d 9 (if x = 0 then 0 else k)) (d 10 (24 * dp + (if y = 0 then 0 else k))))) _ _ _ (by omega) (by omega) (zLi_s (F := (fun q => zOp ch (d 9 (if x = 0 then 0 else q)) (d 10 (24 * dp + (if y = 0 then 0 else q))))) (by omega) hli h33) (hW) (lv_sub hl [1, 2, 3, 4, 0] rfl)
                    · skip
                      refine lv_iconst (v := nI 0) hx hb dX9_pairs_110 (by decide) ?_
                      refine lv_goto (tgt := 116) hx hb dX9_pairs_111 (by decide) ?_
                      refine ln_iadd hx hb dX9_pairs_116 ?_
                      refine ml_right (j := (24 * dp) + 0) C hW (by omega) dX9_pairs_117 ?_
                      rw [va_up_ne _ _ (by omega)]
                      rw [show d 10 ((24 * dp) + 0) = d 10 (24 * dp + (if y = 0 then 0 else k)) by first | (exfalso; omega) | rw [if_pos (by omega)] | rw [if_neg (by omega)]]
                      refine ar_callS (As := [.int (nI ch), .double (d 9 (if x = 0 then 0 else k)), .double (d 10 (24 * dp + (if y = 0 then 0 else k)))]) (rest := [.int (nI k), .ref (ad 8)]) C hW (c_X9_join hl9 _ ch (d 9 (if x = 0 then 0 else k)) (d 10 (24 * dp + (if y = 0 then 0 else k))) (hcs) (zRg_nn _ (hrx hb0 _ (by by_cases h77 : x = 0; rw [if_pos h77]; omega; rw [if_neg h77, he0.1 h77]; omega)) (hry hb0 _ (by by_cases h77 : y = 0; rw [if_pos h77]; omega; rw [if_neg h77, he0.2 h77]; omega)))) q773 q774 q6 q775 hd_X9_join ⟨Nat.le_of_ble_eq_true rfl, Nat.le_of_ble_eq_true rfl⟩ hl.1 (Nat.le_of_ble_eq_true rfl) rfl dX9_pairs_118 (fun _ _ _ _ _ _ hp => hp.elim) (fun v9 u9 H locs hp hW => ?_)
                      obtain ⟨rfl, hu9⟩ := hp
                      rw [hu9] at hW
                      refine W.eq (g2 := F0 m 121 ls [.double (zOp ch (d 9 (if x = 0 then 0 else k)) (d 10 (24 * dp + (if y = 0 then 0 else k)))), .int (nI k), .ref (ad 8)]) rfl ?_
                      refine ms_now (j := k) C hW (by omega) dX9_pairs_121 (fun H locs hW => ?_)
                      simp only [bx_uu, va_up_self] at hW
                      refine lv_aload_n hx hb dX9_pairs_122 rfl (lv_at hl 0 rfl) ?_
                      refine lv_aload_n hx hb dX9_pairs_123 rfl (lv_at hl 0 rfl) ?_
                      refine mg_now C hW q597 dX9_pairs_124 ?_
                      refine lv_iload hx hb dX9_pairs_127 (lv_at hl 4 rfl) ?_
                      refine ml_now (j := k) C hW (by omega) dX9_pairs_129 ?_
                      rw [va_up_self]
                      rw [va_up_self]
                      refine ar_callV (q0 := 0) (ci := 7) (T9 := TX9) (N9 := 27) (As := [.double (zOp ch (d 9 (if x = 0 then 0 else k)) (d 10 (24 * dp + (if y = 0 then 0 else k))))]) (rest := []) C hW (c_X9_check hl9 (va_up (va_up g 15 (nI (zEach x y).2)) 21 (bI b)) a (va_up d 8 (va_up f k (zOp ch (d 9 (if x = 0 then 0 else k)) (d 10 (24 * dp + (if y = 0 then 0 else k)))))) (zOp ch (d 9 (if x = 0 then 0 else k)) (d 10 (24 * dp + (if y = 0 then 0 else k)))) b (va_up_self _ _ _)) (rfl) rfl q776 q778 qs11 q6 q779 hd_X9_check ⟨Nat.le_of_ble_eq_true rfl, Nat.le_of_ble_eq_true rfl⟩ hl.1 (Nat.le_of_ble_eq_true rfl) rfl dX9_pairs_130 (fun _ _ _ _ _ _ hp => hp.elim) (fun v9 u9 H locs hp hW => ?_)
                      obtain ⟨rfl, hu9⟩ := hp
                      rw [hu9] at hW
                      rw [bx_uu] at hW
                      refine W.eq (g2 := F0 m 133 ls []) rfl ?_
                      refine ln_iinc (k := 4) (n := 1) (lv' := [(4, .int (nI (k + 1))), (0, .ref (ad 0)), (1, .int (nI ch)), (2, .int (nI dp)), (3, .int (nI y))]) hx hb dX9_pairs_133 hl rfl (by decide) rfl (fun ls hl => ?_)
                      refine lv_goto (tgt := 54) hx hb dX9_pairs_136 (by decide) ?_
                      exact ihlp (k + 1) (b || !(zRg (zOp ch (d 9 (if x = 0 then 0 else k)) (d 10 (24 * dp + (if y = 0 then 0 else k)))))) (va_up f k (zOp ch (d 9 (if x = 0 then 0 else k)) (d 10 (24 * dp + (if y = 0 then 0 else k))))) _ _ _ (by omega) (by omega) (zLi_s (F := (fun q => zOp ch (d 9 (if x = 0 then 0 else q)) (d 10 (24 * dp + (if y = 0 then 0 else q))))) (by omega) hli h33) (hW) (lv_sub hl [1, 2, 3, 4, 0] rfl)
                  · skip
                    refine lv_iconst (v := nI 0) hx hb dX9_pairs_91 (by decide) ?_
                    refine lv_goto (tgt := 97) hx hb dX9_pairs_92 (by decide) ?_
                    refine ml_part (j := 0) C hW (by omega) dX9_pairs_97 ?_
                    rw [va_up_ne _ _ (by omega)]
                    rw [show d 9 0 = d 9 (if x = 0 then 0 else k) by first | (exfalso; omega) | rw [if_pos (by omega)] | rw [if_neg (by omega)]]
                    refine lv_aload_n hx hb dX9_pairs_98 rfl (lv_at hl 0 rfl) ?_
                    refine mg_right C hW q599 dX9_pairs_99 ?_
                    refine lv_bipush (v := nI 24) hx hb dX9_pairs_102 (by decide) ?_
                    refine lv_iload_n hx hb dX9_pairs_104 rfl (lv_at hl 2 rfl) ?_
                    refine ln_imul hx hb dX9_pairs_105 ?_
                    refine lv_iload_n hx hb dX9_pairs_106 rfl (lv_at hl 3 rfl) ?_
                    refine ln_if_ne (tgt := 114) hx hb dX9_pairs_107 (by decide) (by omega) (fun h36 => ?_) (fun h36 => ?_)
                    · skip
                      refine lv_iload hx hb dX9_pairs_114 (lv_at hl 4 rfl) ?_
                      refine ln_iadd hx hb dX9_pairs_116 ?_
                      refine ml_right (j := (24 * dp) + k) C hW (by omega) dX9_pairs_117 ?_
                      rw [va_up_ne _ _ (by omega)]
                      rw [show d 10 ((24 * dp) + k) = d 10 (24 * dp + (if y = 0 then 0 else k)) by first | (exfalso; omega) | rw [if_pos (by omega)] | rw [if_neg (by omega)]]
                      refine ar_callS (As := [.int (nI ch), .double (d 9 (if x = 0 then 0 else k)), .double (d 10 (24 * dp + (if y = 0 then 0 else k)))]) (rest := [.int (nI k), .ref (ad 8)]) C hW (c_X9_join hl9 _ ch (d 9 (if x = 0 then 0 else k)) (d 10 (24 * dp + (if y = 0 then 0 else k))) (hcs) (zRg_nn _ (hrx hb0 _ (by by_cases h77 : x = 0; rw [if_pos h77]; omega; rw [if_neg h77, he0.1 h77]; omega)) (hry hb0 _ (by by_cases h77 : y = 0; rw [if_pos h77]; omega; rw [if_neg h77, he0.2 h77]; omega)))) q773 q774 q6 q775 hd_X9_join ⟨Nat.le_of_ble_eq_true rfl, Nat.le_of_ble_eq_true rfl⟩ hl.1 (Nat.le_of_ble_eq_true rfl) rfl dX9_pairs_118 (fun _ _ _ _ _ _ hp => hp.elim) (fun v9 u9 H locs hp hW => ?_)
                      obtain ⟨rfl, hu9⟩ := hp
                      rw [hu9] at hW
                      refine W.eq (g2 := F0 m 121 ls [.double (zOp ch (d 9 (if x = 0 then 0 else k)) (d 10 (24 * dp + (if y = 0 then 0 else k)))), .int (nI k), .ref (ad 8)]) rfl ?_
                      refine ms_now (j := k) C hW (by omega) dX9_pairs_121 (fun H locs hW => ?_)
                      simp only [bx_uu, va_up_self] at hW
                      refine lv_aload_n hx hb dX9_pairs_122 rfl (lv_at hl 0 rfl) ?_
                      refine lv_aload_n hx hb dX9_pairs_123 rfl (lv_at hl 0 rfl) ?_
                      refine mg_now C hW q597 dX9_pairs_124 ?_
                      refine lv_iload hx hb dX9_pairs_127 (lv_at hl 4 rfl) ?_
                      refine ml_now (j := k) C hW (by omega) dX9_pairs_129 ?_
                      rw [va_up_self]
                      rw [va_up_self]
                      refine ar_callV (q0 := 0) (ci := 7) (T9 := TX9) (N9 := 27) (As := [.double (zOp ch (d 9 (if x = 0 then 0 else k)) (d 10 (24 * dp + (if y = 0 then 0 else k))))]) (rest := []) C hW (c_X9_check hl9 (va_up (va_up g 15 (nI (zEach x y).2)) 21 (bI b)) a (va_up d 8 (va_up f k (zOp ch (d 9 (if x = 0 then 0 else k)) (d 10 (24 * dp + (if y = 0 then 0 else k)))))) (zOp ch (d 9 (if x = 0 then 0 else k)) (d 10 (24 * dp + (if y = 0 then 0 else k)))) b (va_up_self _ _ _)) (rfl) rfl q776 q778 qs11 q6 q779 hd_X9_check ⟨Nat.le_of_ble_eq_true rfl, Nat.le_of_ble_eq_true rfl⟩ hl.1 (Nat.le_of_ble_eq_true rfl) rfl dX9_pairs_130 (fun _ _ _ _ _ _ hp => hp.elim) (fun v9 u9 H locs hp hW => ?_)
                      obtain ⟨rfl, hu9⟩ := hp
                      rw [hu9] at hW
                      rw [bx_uu] at hW
                      refine W.eq (g2 := F0 m 133 ls []) rfl ?_
                      refine ln_iinc (k := 4) (n := 1) (lv' := [(4, .int (nI (k + 1))), (0, .ref (ad 0)), (1, .int (nI ch)), (2, .int (nI dp)), (3, .int (nI y))]) hx hb dX9_pairs_133 hl rfl (by decide) rfl (fun ls hl => ?_)
                      refine lv_goto (tgt := 54) hx hb dX9_pairs_136 (by decide) ?_
                      exact ihlp (k + 1) (b || !(zRg (zOp ch (d 9 (if x = 0 then 0 else k)) (d 10 (24 * dp + (if y = 0 then 0 else k)))))) (va_up f k (zOp ch (d 9 (if x = 0 then 0 else k)) (d 10 (24 * dp + (if y = 0 then 0 else k))))) _ _ _ (by omega) (by omega) (zLi_s (F := (fun q => zOp ch (d 9 (if x = 0 then 0 else q)) (d 10 (24 * dp + (if y = 0 then 0 else q))))) (by omega) hli h33) (hW) (lv_sub hl [1, 2, 3, 4, 0] rfl)
                    · skip
                      refine lv_iconst (v := nI 0) hx hb dX9_pairs_110 (by decide) ?_
                      refine lv_goto (tgt := 116) hx hb dX9_pairs_111 (by decide) ?_
                      refine ln_iadd hx hb dX9_pairs_116 ?_
                      refine ml_right (j := (24 * dp) + 0) C hW (by omega) dX9_pairs_117 ?_
                      rw [va_up_ne _ _ (by omega)]
                      rw [show d 10 ((24 * dp) + 0) = d 10 (24 * dp + (if y = 0 then 0 else k)) by first | (exfalso; omega) | rw [if_pos (by omega)] | rw [if_neg (by omega)]]
                      refine ar_callS (As := [.int (nI ch), .double (d 9 (if x = 0 then 0 else k)), .double (d 10 (24 * dp + (if y = 0 then 0 else k)))]) (rest := [.int (nI k), .ref (ad 8)]) C hW (c_X9_join hl9 _ ch (d 9 (if x = 0 then 0 else k)) (d 10 (24 * dp + (if y = 0 then 0 else k))) (hcs) (zRg_nn _ (hrx hb0 _ (by by_cases h77 : x = 0; rw [if_pos h77]; omega; rw [if_neg h77, he0.1 h77]; omega)) (hry hb0 _ (by by_cases h77 : y = 0; rw [if_pos h77]; omega; rw [if_neg h77, he0.2 h77]; omega)))) q773 q774 q6 q775 hd_X9_join ⟨Nat.le_of_ble_eq_true rfl, Nat.le_of_ble_eq_true rfl⟩ hl.1 (Nat.le_of_ble_eq_true rfl) rfl dX9_pairs_118 (fun _ _ _ _ _ _ hp => hp.elim) (fun v9 u9 H locs hp hW => ?_)
                      obtain ⟨rfl, hu9⟩ := hp
                      rw [hu9] at hW
                      refine W.eq (g2 := F0 m 121 ls [.double (zOp ch (d 9 (if x = 0 then 0 else k)) (d 10 (24 * dp + (if y = 0 then 0 else k)))), .int (nI k), .ref (ad 8)]) rfl ?_
                      refine ms_now (j := k) C hW (by omega) dX9_pairs_121 (fun H locs hW => ?_)
                      simp only [bx_uu, va_up_self] at hW
                      refine lv_aload_n hx hb dX9_pairs_122 rfl (lv_at hl 0 rfl) ?_
                      refine lv_aload_n hx hb dX9_pairs_123 rfl (lv_at hl 0 rfl) ?_
                      refine mg_now C hW q597 dX9_pairs_124 ?_
                      refine lv_iload hx hb dX9_pairs_127 (lv_at hl 4 rfl) ?_
                      refine ml_now (j := k) C hW (by omega) dX9_pairs_129 ?_
                      rw [va_up_self]
                      rw [va_up_self]
                      refine ar_callV (q0 := 0) (ci := 7) (T9 := TX9) (N9 := 27) (As := [.double (zOp ch (d 9 (if x = 0 then 0 else k)) (d 10 (24 * dp + (if y = 0 then 0 else k))))]) (rest := []) C hW (c_X9_check hl9 (va_up (va_up g 15 (nI (zEach x y).2)) 21 (bI b)) a (va_up d 8 (va_up f k (zOp ch (d 9 (if x = 0 then 0 else k)) (d 10 (24 * dp + (if y = 0 then 0 else k)))))) (zOp ch (d 9 (if x = 0 then 0 else k)) (d 10 (24 * dp + (if y = 0 then 0 else k)))) b (va_up_self _ _ _)) (rfl) rfl q776 q778 qs11 q6 q779 hd_X9_check ⟨Nat.le_of_ble_eq_true rfl, Nat.le_of_ble_eq_true rfl⟩ hl.1 (Nat.le_of_ble_eq_true rfl) rfl dX9_pairs_130 (fun _ _ _ _ _ _ hp => hp.elim) (fun v9 u9 H locs hp hW => ?_)
                      obtain ⟨rfl, hu9⟩ := hp
                      rw [hu9] at hW
                      rw [bx_uu] at hW
                      refine W.eq (g2 := F0 m 133 ls []) rfl ?_
                      refine ln_iinc (k := 4) (n := 1) (lv' := [(4, .int (nI (k + 1))), (0, .ref (ad 0)), (1, .int (nI ch)), (2, .int (nI dp)), (3, .int (nI y))]) hx hb dX9_pairs_133 hl rfl (by decide) rfl (fun ls hl => ?_)
                      refine lv_goto (tgt := 54) hx hb dX9_pairs_136 (by decide) ?_
                      exact ihlp (k + 1) (b || !(zRg (zOp ch (d 9 (if x = 0 then 0 else k)) (d 10 (24 * dp + (if y = 0 then 0 else k)))))) (va_up f k (zOp ch (d 9 (if x = 0 then 0 else k)) (d 10 (24 * dp + (if y = 0 then 0 else k))))) _ _ _ (by omega) (by omega) (zLi_s (F := (fun q => zOp ch (d 9 (if x = 0 then 0 else q)) (d 10 (24 * dp + (if y = 0 then 0 else q))))) (by omega) hli h33) (hW) (lv_sub hl [1, 2, 3, 4, 0] rfl)
          exact lp _ 0 oo (d 8) _ _ _ (Nat.lt_succ_self _) (Nat.zero_le _) (zLi_0) (by rw [va_up_s (f := va_up g 15 (nI (zEach x y).2)) (k := 21) hoo, va_up_id]; exact hW) (lv_sub hl [2, 3, 4, 1, 0] rfl)
      · skip
        refine lv_aload_n hx hb dX9_pairs_26 rfl (lv_at hl 1 rfl) ?_
        refine lv_iconst (v := nI 1) hx hb dX9_pairs_27 (by decide) ?_
        refine mp_error C hW q610 dX9_pairs_28 (fun H locs hW => ?_)
        exact ar_vret C hr hW dX9_pairs_31 (⟨rfl, Or.inl ⟨by unfold zEach; rw [if_pos ⟨by omega, by omega, by omega⟩]; decide, by unfold zEach; rw [if_pos ⟨by omega, by omega, by omega⟩]⟩⟩)
theorem zJo_s {n j : Nat} {h f e : Nat → UInt64} {m : Nat} (hg : ∀ q, q < n + j → h q = if q < n then f q else e (m + (q - n))) : ∀ q, q < n + (j + 1) → va_up h (n + j) (e (m + j)) q = if q < n then f q else e (m + (q - n)) := by
  intro q hq
  unfold va_up
  by_cases h1 : q = n + j
  · rw [if_pos h1, if_neg (by omega), show q - n = j by omega]
  · rw [if_neg h1]
    exact hg q (by omega)
theorem hd_X9_append : yX9_append.cls ≠ "java/lang/invoke/MethodHandle" ∧ yX9_append.cls ≠ "java/lang/invoke/VarHandle" ∧ (parseMethodDescriptor yX9_append.desc).map (fun d => d.parameters.length) = some 1 := by decide +kernel
set_option maxHeartbeats 4000000 in
set_option maxRecDepth 100000 in
theorem c_X9_append {l : Launch} (hl9 : l.stackTraces = false) {D : va_G} {ct : Nat → ClassId} {ad : Nat → Nat} (g : Nat → Int32) (a : Nat → Nat → Int32) (d : Nat → Nat → UInt64) (dp : Nat) (hdp : dp < 22) (ar : Nat) (har : g 22 = nI ar) (her : g 23 = nI 0) (x : Nat) (hox : zOk x = true) (hps : g 16 = nI x) (y : Nat) (hoy : zOk y = true) (hrs : a 11 dp = nI y) : ar_M l yX9_append cX9_append 5 none 1 20 D ct (mL ad ct) [.ref (ad 0), .int (nI dp)] (g, a, d) (fun v9 u9 => v9 = none ∧ (((zJoi x y).1 ≠ 0 ∧ u9 = (va_up (va_up g 22 (nI (ar + 1))) 23 (nI (zJoi x y).1), a, d)) ∨ ((zJoi x y).1 = 0 ∧ ∃ f : Nat → UInt64, (∀ q, q < zCt (zJoi x y).2 → f q = if q < zCt x then d 9 q else d 10 (24 * dp + (q - zCt x))) ∧ u9 = (va_up (va_up g 22 (nI (ar + 1))) 15 (nI (zJoi x y).2), a, va_up d 8 f)))) (fun _ _ => False) := by
  refine ar_ofW hl9 (by decide) (Nat.le_of_ble_eq_true rfl) ?_
  intro p e s m below meth c A ls C hr hnm hW hl
  have hx := C.1
  have hb := C.2.1
  have hown := C.2.2.2.1
  have hts := C.2.2.2.2.1
  have hl : lv_has ls 5 [(0, .ref (ad 0)), (1, .int (nI dp))] := hl
  have hdx := zOk_num hox
  have hdy := zOk_num hoy
  refine lv_aload_n hx hb dX9_append_0 rfl (lv_at hl 0 rfl) ?_
  refine mg_rightShape C hW q600 dX9_append_1 ?_
  refine lv_iload_n hx hb dX9_append_4 rfl (lv_at hl 1 rfl) ?_
  refine ml_rightShape (j := dp) C hW (by omega) dX9_append_5 ?_
  refine ln_top (hrs) ?_
  refine lv_istore_n (lv' := [(2, .int (nI y)), (0, .ref (ad 0)), (1, .int (nI dp))]) hx hb dX9_append_6 rfl hl (by decide) rfl (fun ls hl => ?_)
  refine lv_aload_n hx hb dX9_append_7 rfl (lv_at hl 1 rfl) ?_
  refine mg_partShape C hW q603 dX9_append_8 ?_
  refine ln_top (hps) ?_
  refine ar_callS (As := [.int (nI x)]) (rest := []) C hW (c_X9_count hl9 _ x (by omega)) q709 q710 q6 q711 hd_X9_count ⟨Nat.le_of_ble_eq_true rfl, Nat.le_of_ble_eq_true rfl⟩ hl.1 (Nat.le_of_ble_eq_true rfl) rfl dX9_append_11 (fun _ _ _ _ _ _ hp => hp.elim) (fun v9 u9 H locs hp hW => ?_)
  obtain ⟨rfl, hu9⟩ := hp
  rw [hu9] at hW
  refine W.eq (g2 := F0 m 14 ls [.int (nI (zCt x))]) rfl ?_
  refine lv_istore_n (lv' := [(3, .int (nI (zCt x))), (2, .int (nI y)), (0, .ref (ad 0)), (1, .int (nI dp))]) hx hb dX9_append_14 rfl hl (by decide) rfl (fun ls hl => ?_)
  refine lv_aload_n hx hb dX9_append_15 rfl (lv_at hl 2 rfl) ?_
  refine lv_dup hx hb dX9_append_16 rfl ?_
  refine mg_arrays C hW q609 dX9_append_17 ?_
  refine ln_top (har) ?_
  refine lv_iconst (v := nI 1) hx hb dX9_append_20 (by decide) ?_
  refine ln_iadd hx hb dX9_append_21 ?_
  refine mp_arrays C hW q609 dX9_append_22 (fun H locs hW => ?_)
  refine lv_aload_n hx hb dX9_append_25 rfl (lv_at hl 2 rfl) ?_
  refine mg_partShape C hW q603 dX9_append_26 ?_
  rw [va_up_ne _ _ (by decide)]
  refine ln_top (hps) ?_
  refine lv_bipush (v := nI 32) hx hb dX9_append_29 (by decide) ?_
  refine ln_icmp_ge (tgt := 40) hx hb dX9_append_31 (by decide) (by omega) (by omega) (fun h1 => ?_) (fun h1 => ?_)
  · skip
    refine lv_aload_n hx hb dX9_append_40 rfl (lv_at hl 2 rfl) ?_
    refine lv_iconst (v := nI 1) hx hb dX9_append_41 (by decide) ?_
    refine mp_error C hW q610 dX9_append_42 (fun H locs hW => ?_)
    refine lv_goto (tgt := 64) hx hb dX9_append_45 (by decide) ?_
    refine lv_aload_n hx hb dX9_append_64 rfl (lv_at hl 2 rfl) ?_
    refine mg_error C hW q610 dX9_append_65 ?_
    rw [va_up_self]
    refine ln_if_le (tgt := 72) hx hb dX9_append_68 (by decide) (by decide) (fun h2 => absurd h2 (by decide)) (fun _ => ?_)
    exact ar_vret C hr hW dX9_append_71 (⟨rfl, Or.inl ((fun hz : zJoi x y = (1, 0) => ⟨by rw [hz]; decide, by rw [hz]⟩) (by unfold zJoi zTb; simp only [decide_eq_true_eq]; rw [if_pos (by omega)]))⟩)
  · skip
    refine lv_iload_n hx hb dX9_append_34 rfl (lv_at hl 1 rfl) ?_
    refine lv_bipush (v := nI 32) hx hb dX9_append_35 (by decide) ?_
    refine ln_icmp_lt (tgt := 48) hx hb dX9_append_37 (by decide) (by omega) (by omega) (fun h3 => ?_) (fun h3 => ?_)
    · skip
      refine lv_iload_n hx hb dX9_append_48 rfl (lv_at hl 0 rfl) ?_
      refine lv_iload_n hx hb dX9_append_49 rfl (lv_at hl 1 rfl) ?_
      refine ar_callS (As := [.int (nI y)]) (rest := [.int (nI (zCt x))]) C hW (c_X9_count hl9 _ y (by omega)) q709 q710 q6 q711 hd_X9_count ⟨Nat.le_of_ble_eq_true rfl, Nat.le_of_ble_eq_true rfl⟩ hl.1 (Nat.le_of_ble_eq_true rfl) rfl dX9_append_50 (fun _ _ _ _ _ _ hp => hp.elim) (fun v9 u9 H locs hp hW => ?_)
      obtain ⟨rfl, hu9⟩ := hp
      rw [hu9] at hW
      refine W.eq (g2 := F0 m 53 ls [.int (nI (zCt y)), .int (nI (zCt x))]) rfl ?_
      refine ln_iadd hx hb dX9_append_53 ?_
      refine lv_bipush (v := nI 24) hx hb dX9_append_54 (by decide) ?_
      refine ln_icmp_le (tgt := 64) hx hb dX9_append_56 (by decide) (by omega) (by omega) (fun h4 => ?_) (fun h4 => ?_)
      · skip
        refine lv_aload_n hx hb dX9_append_64 rfl (lv_at hl 2 rfl) ?_
        refine mg_error C hW q610 dX9_append_65 ?_
        rw [va_up_ne _ _ (by decide)]
        refine ln_top (her) ?_
        refine ln_if_le (tgt := 72) hx hb dX9_append_68 (by decide) (by decide) (fun _ => ?_) (fun h5 => absurd h5 (by decide))
        refine lv_iconst (v := nI 0) hx hb dX9_append_72 (by decide) ?_
        refine lv_istore (lv' := [(4, .int (nI 0)), (3, .int (nI (zCt x))), (2, .int (nI y)), (0, .ref (ad 0)), (1, .int (nI dp))]) hx hb dX9_append_73 hl (by decide) rfl (fun ls hl => ?_)
        have lp : ∀ (N9 : Nat) (k : Nat) (f : Nat → UInt64) (H : Heap) (locs : List Loc) (ls : Array Slot), zCt x - k < N9 → (k ≤ zCt x) → (∀ q, q < k → f q = d 9 q) → ar_W D A s.heap H locs (mL ad ct (va_up g 22 (nI (ar + 1)), a, va_up d 8 f)) → lv_has ls 5 [(0, .ref (ad 0)), (1, .int (nI dp)), (2, .int (nI y)), (3, .int (nI (zCt x))), (4, .int (nI k))] → W p l e (ar_rm 1 20) s m [.ref (ad 0), .int (nI dp)].toArray below meth c H locs 0 0 (ar_E below (ar_Q D ct (mL ad ct) A (fun v9 u9 => v9 = none ∧ (((zJoi x y).1 ≠ 0 ∧ u9 = (va_up (va_up g 22 (nI (ar + 1))) 23 (nI (zJoi x y).1), a, d)) ∨ ((zJoi x y).1 = 0 ∧ ∃ f : Nat → UInt64, (∀ q, q < zCt (zJoi x y).2 → f q = if q < zCt x then d 9 q else d 10 (24 * dp + (q - zCt x))) ∧ u9 = (va_up (va_up g 22 (nI (ar + 1))) 15 (nI (zJoi x y).2), a, va_up d 8 f)))) (fun _ _ => False)) [.ref (ad 0), .int (nI dp)].toArray s) (F0 m 75 ls []) := by
          intro N9
          induction N9 with
          | zero =>
            intro k f H locs ls hN9
            exact absurd hN9 (Nat.not_lt_zero _)
          | succ N9 ihlp =>
            intro k f H locs ls hN9 hk hf hW hl
            refine lv_iload hx hb dX9_append_75 (lv_at hl 4 rfl) ?_
            refine lv_iload_n hx hb dX9_append_77 rfl (lv_at hl 3 rfl) ?_
            refine ln_icmp_ge (tgt := 101) hx hb dX9_append_78 (by decide) (by omega) (by omega) (fun h6 => ?_) (fun h6 => ?_)
            · skip
              refine lv_iconst (v := nI 0) hx hb dX9_append_101 (by decide) ?_
              refine lv_istore (lv' := [(4, .int (nI 0)), (0, .ref (ad 0)), (1, .int (nI dp)), (2, .int (nI y)), (3, .int (nI (zCt x)))]) hx hb dX9_append_102 hl (by decide) rfl (fun ls hl => ?_)
              have lq : ∀ (N9 : Nat) (j : Nat) (h : Nat → UInt64) (H : Heap) (locs : List Loc) (ls : Array Slot), zCt y - j < N9 → (j ≤ zCt y) → (∀ q, q < zCt x + j → h q = if q < zCt x then d 9 q else d 10 (24 * dp + (q - zCt x))) → ar_W D A s.heap H locs (mL ad ct (va_up g 22 (nI (ar + 1)), a, va_up d 8 h)) → lv_has ls 5 [(0, .ref (ad 0)), (1, .int (nI dp)), (2, .int (nI y)), (3, .int (nI (zCt x))), (4, .int (nI j))] → W p l e (ar_rm 1 20) s m [.ref (ad 0), .int (nI dp)].toArray below meth c H locs 0 0 (ar_E below (ar_Q D ct (mL ad ct) A (fun v9 u9 => v9 = none ∧ (((zJoi x y).1 ≠ 0 ∧ u9 = (va_up (va_up g 22 (nI (ar + 1))) 23 (nI (zJoi x y).1), a, d)) ∨ ((zJoi x y).1 = 0 ∧ ∃ f : Nat → UInt64, (∀ q, q < zCt (zJoi x y).2 → f q = if q < zCt x then d 9 q else d 10 (24 * dp + (q - zCt x))) ∧ u9 = (va_up (va_up g 22 (nI (ar + 1))) 15 (nI (zJoi x y).2), a, va_up d 8 f)))) (fun _ _ => False)) [.ref (ad 0), .int (nI dp)].toArray s) (F0 m 104 ls []) := by
                intro N9
                induction N9 with
                | zero =>
                  intro j h H locs ls hN9
                  exact absurd hN9 (Nat.not_lt_zero _)
                | succ N9 ihlq =>
                  intro j h H locs ls hN9 hj hg hW hl
                  refine lv_iload hx hb dX9_append_104 (lv_at hl 4 rfl) ?_
                  refine lv_iload_n hx hb dX9_append_106 rfl (lv_at hl 2 rfl) ?_
                  refine ar_callS (As := [.int (nI y)]) (rest := [.int (nI j)]) C hW (c_X9_count hl9 _ y (by omega)) q709 q710 q6 q711 hd_X9_count ⟨Nat.le_of_ble_eq_true rfl, Nat.le_of_ble_eq_true rfl⟩ hl.1 (Nat.le_of_ble_eq_true rfl) rfl dX9_append_107 (fun _ _ _ _ _ _ hp => hp.elim) (fun v9 u9 H locs hp hW => ?_)
                  obtain ⟨rfl, hu9⟩ := hp
                  rw [hu9] at hW
                  refine W.eq (g2 := F0 m 110 ls [.int (nI (zCt y)), .int (nI j)]) rfl ?_
                  refine ln_icmp_ge (tgt := 140) hx hb dX9_append_110 (by decide) (by omega) (by omega) (fun h7 => ?_) (fun h7 => ?_)
                  · skip
                    refine lv_aload_n hx hb dX9_append_140 rfl (lv_at hl 0 rfl) ?_
                    refine lv_iload_n hx hb dX9_append_141 rfl (lv_at hl 3 rfl) ?_
                    refine lv_iload_n hx hb dX9_append_142 rfl (lv_at hl 2 rfl) ?_
                    refine ar_callS (As := [.int (nI y)]) (rest := [.int (nI (zCt x)), .ref (ad 0)]) C hW (c_X9_count hl9 _ y (by omega)) q709 q710 q6 q711 hd_X9_count ⟨Nat.le_of_ble_eq_true rfl, Nat.le_of_ble_eq_true rfl⟩ hl.1 (Nat.le_of_ble_eq_true rfl) rfl dX9_append_143 (fun _ _ _ _ _ _ hp => hp.elim) (fun v9 u9 H locs hp hW => ?_)
                    obtain ⟨rfl, hu9⟩ := hp
                    rw [hu9] at hW
                    refine W.eq (g2 := F0 m 146 ls [.int (nI (zCt y)), .int (nI (zCt x)), .ref (ad 0)]) rfl ?_
                    refine ln_iadd hx hb dX9_append_146 ?_
                    refine mp_nowShape C hW q602 dX9_append_147 (fun H locs hW => ?_)
                    exact ar_vret C hr hW dX9_append_150 (⟨rfl, Or.inr ((fun hz : zJoi x y = (0, zCt x + zCt y) => ⟨by rw [hz], h, fun q hq => by rw [zJoi_0 (z := (zJoi x y).2) (by rw [hz])] at hq; exact hg q (by omega), by rw [hz]⟩) (by unfold zJoi zTb; simp only [decide_eq_true_eq]; rw [if_neg (by omega), if_pos (zFit_iff.mpr ⟨by omega, by omega, by omega, by omega, by omega⟩)]))⟩)
                  · skip
                    refine lv_aload_n hx hb dX9_append_113 rfl (lv_at hl 0 rfl) ?_
                    refine mg_now C hW q597 dX9_append_114 ?_
                    refine lv_iload_n hx hb dX9_append_117 rfl (lv_at hl 3 rfl) ?_
                    refine lv_iload hx hb dX9_append_118 (lv_at hl 4 rfl) ?_
                    refine ln_iadd hx hb dX9_append_120 ?_
                    refine lv_aload_n hx hb dX9_append_121 rfl (lv_at hl 0 rfl) ?_
                    refine mg_right C hW q599 dX9_append_122 ?_
                    refine lv_bipush (v := nI 24) hx hb dX9_append_125 (by decide) ?_
                    refine lv_iload_n hx hb dX9_append_127 rfl (lv_at hl 1 rfl) ?_
                    refine ln_imul hx hb dX9_append_128 ?_
                    refine lv_iload hx hb dX9_append_129 (lv_at hl 4 rfl) ?_
                    refine ln_iadd hx hb dX9_append_131 ?_
                    refine ml_right (j := (24 * dp) + j) C hW (by omega) dX9_append_132 ?_
                    rw [va_up_ne _ _ (by omega)]
                    refine ms_now (j := (zCt x) + j) C hW (by omega) dX9_append_133 (fun H locs hW => ?_)
                    simp only [bx_uu, va_up_self] at hW
                    refine ln_iinc (k := 4) (n := 1) (lv' := [(4, .int (nI (j + 1))), (0, .ref (ad 0)), (1, .int (nI dp)), (2, .int (nI y)), (3, .int (nI (zCt x)))]) hx hb dX9_append_134 hl rfl (by decide) rfl (fun ls hl => ?_)
                    refine lv_goto (tgt := 104) hx hb dX9_append_137 (by decide) ?_
                    exact ihlq (j + 1) (va_up h (zCt x + j) (d 10 (24 * dp + j))) _ _ _ (by omega) (by omega) (zJo_s hg) (hW) (lv_sub hl [1, 2, 3, 4, 0] rfl)
              exact lq _ 0 f _ _ _ (Nat.lt_succ_self _) (Nat.zero_le _) (fun q hq => by rw [if_pos (by omega)]; exact hf q (by omega)) (hW) (lv_sub hl [1, 2, 3, 4, 0] rfl)
            · skip
              refine lv_aload_n hx hb dX9_append_81 rfl (lv_at hl 0 rfl) ?_
              refine mg_now C hW q597 dX9_append_82 ?_
              refine lv_iload hx hb dX9_append_85 (lv_at hl 4 rfl) ?_
              refine lv_aload_n hx hb dX9_append_87 rfl (lv_at hl 0 rfl) ?_
              refine mg_part C hW q598 dX9_append_88 ?_
              refine lv_iload hx hb dX9_append_91 (lv_at hl 4 rfl) ?_
              refine ml_part (j := k) C hW (by omega) dX9_append_93 ?_
              rw [va_up_ne _ _ (by omega)]
              refine ms_now (j := k) C hW (by omega) dX9_append_94 (fun H locs hW => ?_)
              simp only [bx_uu, va_up_self] at hW
              refine ln_iinc (k := 4) (n := 1) (lv' := [(4, .int (nI (k + 1))), (0, .ref (ad 0)), (1, .int (nI dp)), (2, .int (nI y)), (3, .int (nI (zCt x)))]) hx hb dX9_append_95 hl rfl (by decide) rfl (fun ls hl => ?_)
              refine lv_goto (tgt := 75) hx hb dX9_append_98 (by decide) ?_
              exact ihlp (k + 1) (va_up f k (d 9 k)) _ _ _ (by omega) (by omega) (fill_p hf) (hW) (lv_sub hl [1, 2, 3, 4, 0] rfl)
        exact lp _ 0 (d 8) _ _ _ (Nat.lt_succ_self _) (Nat.zero_le _) (fun q hq => absurd hq (Nat.not_lt_zero _)) (by rw [va_up_id]; exact hW) (lv_sub hl [3, 4, 2, 1, 0] rfl)
      · skip
        refine lv_aload_n hx hb dX9_append_59 rfl (lv_at hl 2 rfl) ?_
        refine lv_iconst (v := nI 2) hx hb dX9_append_60 (by decide) ?_
        refine mp_error C hW q610 dX9_append_61 (fun H locs hW => ?_)
        refine lv_aload_n hx hb dX9_append_64 rfl (lv_at hl 2 rfl) ?_
        refine mg_error C hW q610 dX9_append_65 ?_
        rw [va_up_self]
        refine ln_if_le (tgt := 72) hx hb dX9_append_68 (by decide) (by decide) (fun h8 => absurd h8 (by decide)) (fun _ => ?_)
        exact ar_vret C hr hW dX9_append_71 (⟨rfl, Or.inl ((fun hz : zJoi x y = (2, 0) => ⟨by rw [hz]; decide, by rw [hz]⟩) (by unfold zJoi zTb; simp only [decide_eq_true_eq]; rw [if_neg (by omega), if_neg (fun h77 => by have := zFit_iff.mp h77; omega)]))⟩)
    · skip
      refine lv_aload_n hx hb dX9_append_40 rfl (lv_at hl 2 rfl) ?_
      refine lv_iconst (v := nI 1) hx hb dX9_append_41 (by decide) ?_
      refine mp_error C hW q610 dX9_append_42 (fun H locs hW => ?_)
      refine lv_goto (tgt := 64) hx hb dX9_append_45 (by decide) ?_
      refine lv_aload_n hx hb dX9_append_64 rfl (lv_at hl 2 rfl) ?_
      refine mg_error C hW q610 dX9_append_65 ?_
      rw [va_up_self]
      refine ln_if_le (tgt := 72) hx hb dX9_append_68 (by decide) (by decide) (fun h9 => absurd h9 (by decide)) (fun _ => ?_)
      exact ar_vret C hr hW dX9_append_71 (⟨rfl, Or.inl ((fun hz : zJoi x y = (1, 0) => ⟨by rw [hz]; decide, by rw [hz]⟩) (by unfold zJoi zTb; simp only [decide_eq_true_eq]; rw [if_pos (by omega)]))⟩)
theorem zMul_a {x y : Nat} (h : x * y ≤ 24) (hy : 1 ≤ y) : x ≤ 24 := Nat.le_trans (Nat.le_mul_of_pos_right _ hy) h
theorem zMul_b {x y : Nat} (h : x * y ≤ 24) (hx : 1 ≤ x) : y ≤ 24 := Nat.le_trans (Nat.le_mul_of_pos_left _ hx) h
theorem hd_X9_shapeAnew : yX9_shapeAnew.cls ≠ "java/lang/invoke/MethodHandle" ∧ yX9_shapeAnew.cls ≠ "java/lang/invoke/VarHandle" ∧ (parseMethodDescriptor yX9_shapeAnew.desc).map (fun d => d.parameters.length) = some 1 := by decide +kernel
set_option maxHeartbeats 4000000 in
set_option maxRecDepth 100000 in
theorem c_X9_shapeAnew {l : Launch} (hl9 : l.stackTraces = false) {D : va_G} {ct : Nat → ClassId} {ad : Nat → Nat} (g : Nat → Int32) (a : Nat → Nat → Int32) (d : Nat → Nat → UInt64) (dp : Nat) (hdp : dp < 22) (her : g 23 = nI 0) (pc9 : Bool) (hpc : g 18 = bI pc9) (x : Nat) (hox : zOk x = true) (hps : g 16 = nI x) (y : Nat) (hoy : zOk y = true) (hrs : a 11 dp = nI y) (v0 v1 : Nat) (hcc : pc9 = true → (x = 0 ∨ (2 ≤ x ∧ x ≤ 24)) ∧ d 9 0 = FP.i2d (nI v0) ∧ v0 < 10000 ∧ (x ≠ 0 → d 9 1 = FP.i2d (nI v1) ∧ v1 < 10000)) : ar_M l yX9_shapeAnew cX9_shapeAnew 6 none 1 20 D ct (mL ad ct) [.ref (ad 0), .int (nI dp)] (g, a, d) (fun v9 u9 => v9 = none ∧ (((zAnw pc9 x v0 v1 (zCt y)).1 ≠ 0 ∧ u9 = (va_up g 23 (nI (zAnw pc9 x v0 v1 (zCt y)).1), a, d)) ∨ ((zAnw pc9 x v0 v1 (zCt y)).1 = 0 ∧ ∃ f : Nat → UInt64, (∀ q, q < zCt (zAnw pc9 x v0 v1 (zCt y)).2 → f q = d 10 (24 * dp + q % zCt y)) ∧ u9 = (va_up g 15 (nI (zAnw pc9 x v0 v1 (zCt y)).2), a, va_up d 8 f)))) (fun _ _ => False) := by
  refine ar_ofW hl9 (by decide) (Nat.le_of_ble_eq_true rfl) ?_
  intro p e s m below meth c A ls C hr hnm hW hl
  have hx := C.1
  have hb := C.2.1
  have hown := C.2.2.2.1
  have hts := C.2.2.2.2.1
  have hl : lv_has ls 6 [(0, .ref (ad 0)), (1, .int (nI dp))] := hl
  have hdx := zOk_num hox
  have hdy := zOk_num hoy
  refine lv_aload_n hx hb dX9_shapeAnew_0 rfl (lv_at hl 0 rfl) ?_
  refine mg_rightShape C hW q600 dX9_shapeAnew_1 ?_
  refine lv_iload_n hx hb dX9_shapeAnew_4 rfl (lv_at hl 1 rfl) ?_
  refine ml_rightShape (j := dp) C hW (by first | omega | (have := Nat.mod_lt k (show 0 < zCt y by omega); omega)) dX9_shapeAnew_5 ?_
  refine ln_top (hrs) ?_
  refine ar_callS (As := [.int (nI y)]) (rest := []) C hW (c_X9_count hl9 _ y (by omega)) q709 q710 q6 q711 hd_X9_count ⟨Nat.le_of_ble_eq_true rfl, Nat.le_of_ble_eq_true rfl⟩ hl.1 (Nat.le_of_ble_eq_true rfl) rfl dX9_shapeAnew_6 (fun _ _ _ _ _ _ hp => hp.elim) (fun v9 u9 H locs hp hW => ?_)
  obtain ⟨rfl, hu9⟩ := hp
  rw [hu9] at hW
  refine W.eq (g2 := F0 m 9 ls [.int (nI (zCt y))]) rfl ?_
  refine lv_istore_n (lv' := [(2, .int (nI (zCt y))), (0, .ref (ad 0)), (1, .int (nI dp))]) hx hb dX9_shapeAnew_9 rfl hl (by decide) rfl (fun ls hl => ?_)
  refine lv_aload_n hx hb dX9_shapeAnew_10 rfl (lv_at hl 1 rfl) ?_
  refine mg_partConstant C hW q605 dX9_shapeAnew_11 ?_
  refine ln_topb (hpc) ?_
  refine lb_if_eq (tgt := 32) hx hb dX9_shapeAnew_14 (by decide) (fun h1 => ?_) (fun h1 => ?_)
  · skip
    have b14 := h1
    refine lv_aload_n hx hb dX9_shapeAnew_32 rfl (lv_at hl 1 rfl) ?_
    refine lv_iconst (v := nI 1) hx hb dX9_shapeAnew_33 (by decide) ?_
    refine mp_error C hW q610 dX9_shapeAnew_34 (fun H locs hW => ?_)
    exact ar_vret C hr hW dX9_shapeAnew_37 (⟨rfl, Or.inl ((fun hz : zAnw pc9 x v0 v1 (zCt y) = (1, 0) => ⟨by rw [hz]; decide, by rw [hz]⟩) (by unfold zAnw; first | rw [if_pos (Or.inl b14)] | (rw [if_pos (Or.inr (by rw [zCt_lo (by omega) (by have := hcc b14; omega)]; have := hcc b14; omega))])))⟩)
  · skip
    have b14 := h1
    refine lv_aload_n hx hb dX9_shapeAnew_17 rfl (lv_at hl 1 rfl) ?_
    refine mg_partShape C hW q603 dX9_shapeAnew_18 ?_
    refine ln_top (hps) ?_
    refine ln_if_eq (tgt := 38) hx hb dX9_shapeAnew_21 (by decide) (by first | omega | (have := Nat.mul_lt_mul'' (show v0 < 2 ^ 14 by omega) (show v1 < 2 ^ 14 by omega); omega)) (fun h2 => ?_) (fun h2 => ?_)
    · skip
      have hcv := hcc b14
      have hv0 := hcv.2.2.1
      refine lv_aload_n hx hb dX9_shapeAnew_38 rfl (lv_at hl 1 rfl) ?_
      refine mg_part C hW q598 dX9_shapeAnew_39 ?_
      refine lv_iconst (v := nI 0) hx hb dX9_shapeAnew_42 (by decide) ?_
      refine ml_part (j := 0) C hW (by first | omega | (have := Nat.mod_lt k (show 0 < zCt y by omega); omega)) dX9_shapeAnew_43 ?_
      refine lv_d2i hx hb dX9_shapeAnew_44 ?_
      rw [hcv.2.1, d2i_nI]
      refine lv_istore_n (lv' := [(3, .int (nI v0)), (2, .int (nI (zCt y))), (0, .ref (ad 0)), (1, .int (nI dp))]) hx hb dX9_shapeAnew_45 rfl hl (by decide) rfl (fun ls hl => ?_)
      refine lv_aload_n hx hb dX9_shapeAnew_46 rfl (lv_at hl 2 rfl) ?_
      refine mg_partShape C hW q603 dX9_shapeAnew_47 ?_
      refine ln_top (hps) ?_
      refine ln_if_ne (tgt := 57) hx hb dX9_shapeAnew_50 (by decide) (by first | omega | (have := Nat.mul_lt_mul'' (show v0 < 2 ^ 14 by omega) (show v1 < 2 ^ 14 by omega); omega)) (fun h3 => ?_) (fun h3 => ?_)
      · skip
        have h0x := h3
        have hv1 := (hcv.2.2.2 h3).2
        refine lv_aload_n hx hb dX9_shapeAnew_57 rfl (lv_at hl 2 rfl) ?_
        refine mg_part C hW q598 dX9_shapeAnew_58 ?_
        refine lv_iconst (v := nI 1) hx hb dX9_shapeAnew_61 (by decide) ?_
        refine ml_part (j := 1) C hW (by first | omega | (have := Nat.mod_lt k (show 0 < zCt y by omega); omega)) dX9_shapeAnew_62 ?_
        refine lv_d2i hx hb dX9_shapeAnew_63 ?_
        rw [(hcv.2.2.2 h3).1, d2i_nI]
        refine lv_istore (lv' := [(4, .int (nI v1)), (3, .int (nI v0)), (2, .int (nI (zCt y))), (0, .ref (ad 0)), (1, .int (nI dp))]) hx hb dX9_shapeAnew_64 hl (by decide) rfl (fun ls hl => ?_)
        refine lv_iload_n hx hb dX9_shapeAnew_66 rfl (lv_at hl 1 rfl) ?_
        refine lv_iconst (v := nI 1) hx hb dX9_shapeAnew_67 (by decide) ?_
        refine ln_icmp_lt (tgt := 86) hx hb dX9_shapeAnew_68 (by decide) (by first | omega | (have := Nat.mul_lt_mul'' (show v0 < 2 ^ 14 by omega) (show v1 < 2 ^ 14 by omega); omega)) (by first | omega | (have := Nat.mul_lt_mul'' (show v0 < 2 ^ 14 by omega) (show v1 < 2 ^ 14 by omega); omega)) (fun h4 => ?_) (fun h4 => ?_)
        · skip
          refine lv_aload_n hx hb dX9_shapeAnew_86 rfl (lv_at hl 3 rfl) ?_
          refine lv_iconst (v := nI 2) hx hb dX9_shapeAnew_87 (by decide) ?_
          refine mp_error C hW q610 dX9_shapeAnew_88 (fun H locs hW => ?_)
          refine lv_goto (tgt := 107) hx hb dX9_shapeAnew_91 (by decide) ?_
          refine lv_aload_n hx hb dX9_shapeAnew_107 rfl (lv_at hl 3 rfl) ?_
          refine mg_error C hW q610 dX9_shapeAnew_108 ?_
          rw [va_up_self]
          refine ln_if_le (tgt := 115) hx hb dX9_shapeAnew_111 (by decide) (by decide) (fun h5 => absurd h5 (by decide)) (fun _ => ?_)
          exact ar_vret C hr hW dX9_shapeAnew_114 (⟨rfl, Or.inl ((fun hz : zAnw pc9 x v0 v1 (zCt y) = (2, 0) => ⟨by rw [hz]; decide, by rw [hz]⟩) (by unfold zAnw; rw [if_neg (by rintro (q | q); (rw [b14] at q; cases q); first | (rw [b14] at q; exact absurd q (by decide)) | (rw [zCt_lo (by omega) (by omega)] at q; omega))]; simp only [if_neg h0x]; rw [if_pos (Bool.eq_false_iff.mpr (fun q => by have := zFit_iff.mp q; omega))]))⟩)
        · skip
          refine lv_iload hx hb dX9_shapeAnew_71 (lv_at hl 0 rfl) ?_
          refine lv_iconst (v := nI 1) hx hb dX9_shapeAnew_73 (by decide) ?_
          refine ln_icmp_lt (tgt := 86) hx hb dX9_shapeAnew_74 (by decide) (by first | omega | (have := Nat.mul_lt_mul'' (show v0 < 2 ^ 14 by omega) (show v1 < 2 ^ 14 by omega); omega)) (by first | omega | (have := Nat.mul_lt_mul'' (show v0 < 2 ^ 14 by omega) (show v1 < 2 ^ 14 by omega); omega)) (fun h6 => ?_) (fun h6 => ?_)
          · skip
            refine lv_aload_n hx hb dX9_shapeAnew_86 rfl (lv_at hl 3 rfl) ?_
            refine lv_iconst (v := nI 2) hx hb dX9_shapeAnew_87 (by decide) ?_
            refine mp_error C hW q610 dX9_shapeAnew_88 (fun H locs hW => ?_)
            refine lv_goto (tgt := 107) hx hb dX9_shapeAnew_91 (by decide) ?_
            refine lv_aload_n hx hb dX9_shapeAnew_107 rfl (lv_at hl 3 rfl) ?_
            refine mg_error C hW q610 dX9_shapeAnew_108 ?_
            rw [va_up_self]
            refine ln_if_le (tgt := 115) hx hb dX9_shapeAnew_111 (by decide) (by decide) (fun h7 => absurd h7 (by decide)) (fun _ => ?_)
            exact ar_vret C hr hW dX9_shapeAnew_114 (⟨rfl, Or.inl ((fun hz : zAnw pc9 x v0 v1 (zCt y) = (2, 0) => ⟨by rw [hz]; decide, by rw [hz]⟩) (by unfold zAnw; rw [if_neg (by rintro (q | q); (rw [b14] at q; cases q); first | (rw [b14] at q; exact absurd q (by decide)) | (rw [zCt_lo (by omega) (by omega)] at q; omega))]; simp only [if_neg h0x]; rw [if_pos (Bool.eq_false_iff.mpr (fun q => by have := zFit_iff.mp q; omega))]))⟩)
          · skip
            refine lv_iload_n hx hb dX9_shapeAnew_77 rfl (lv_at hl 1 rfl) ?_
            refine lv_iload hx hb dX9_shapeAnew_78 (lv_at hl 0 rfl) ?_
            refine ln_imul hx hb dX9_shapeAnew_80 ?_
            refine lv_bipush (v := nI 24) hx hb dX9_shapeAnew_81 (by decide) ?_
            refine ln_icmp_le (tgt := 94) hx hb dX9_shapeAnew_83 (by decide) (by first | omega | (have := Nat.mul_lt_mul'' (show v0 < 2 ^ 14 by omega) (show v1 < 2 ^ 14 by omega); omega)) (by first | omega | (have := Nat.mul_lt_mul'' (show v0 < 2 ^ 14 by omega) (show v1 < 2 ^ 14 by omega); omega)) (fun h8 => ?_) (fun h8 => ?_)
            · skip
              have hfit9 : zFit v0 v1 = true := zFit_iff.mpr ⟨by omega, by first | omega | exact zMul_a (by assumption) (by omega), by omega, by first | omega | exact zMul_b (by assumption) (by omega), by first | omega | assumption⟩
              have hf9 := zFit_iff.mp hfit9
              refine lv_iload_n hx hb dX9_shapeAnew_94 rfl (lv_at hl 1 rfl) ?_
              refine lv_iload hx hb dX9_shapeAnew_95 (lv_at hl 0 rfl) ?_
              refine ln_imul hx hb dX9_shapeAnew_97 ?_
              refine lv_iload_n hx hb dX9_shapeAnew_98 rfl (lv_at hl 2 rfl) ?_
              refine ln_icmp_ge (tgt := 107) hx hb dX9_shapeAnew_99 (by decide) (by first | omega | (have := Nat.mul_lt_mul'' (show v0 < 2 ^ 14 by omega) (show v1 < 2 ^ 14 by omega); omega)) (by first | omega | (have := Nat.mul_lt_mul'' (show v0 < 2 ^ 14 by omega) (show v1 < 2 ^ 14 by omega); omega)) (fun h9 => ?_) (fun h9 => ?_)
              · skip
                refine lv_aload_n hx hb dX9_shapeAnew_107 rfl (lv_at hl 3 rfl) ?_
                refine mg_error C hW q610 dX9_shapeAnew_108 ?_
                refine ln_top (her) ?_
                refine ln_if_le (tgt := 115) hx hb dX9_shapeAnew_111 (by decide) (by decide) (fun _ => ?_) (fun h10 => absurd h10 (by decide))
                refine lv_aload_n hx hb dX9_shapeAnew_115 rfl (lv_at hl 3 rfl) ?_
                refine lv_aload_n hx hb dX9_shapeAnew_116 rfl (lv_at hl 3 rfl) ?_
                refine mg_partShape C hW q603 dX9_shapeAnew_117 ?_
                refine ln_top (hps) ?_
                refine ln_if_ne (tgt := 127) hx hb dX9_shapeAnew_120 (by decide) (by first | omega | (have := Nat.mul_lt_mul'' (show v0 < 2 ^ 14 by omega) (show v1 < 2 ^ 14 by omega); omega)) (fun h11 => ?_) (fun h11 => ?_)
                · skip
                  refine lv_bipush (v := nI 32) hx hb dX9_shapeAnew_127 (by decide) ?_
                  refine lv_iload_n hx hb dX9_shapeAnew_129 rfl (lv_at hl 1 rfl) ?_
                  refine ln_imul hx hb dX9_shapeAnew_130 ?_
                  refine lv_iload hx hb dX9_shapeAnew_131 (lv_at hl 0 rfl) ?_
                  refine ln_iadd hx hb dX9_shapeAnew_133 ?_
                  refine mp_nowShape C hW q602 dX9_shapeAnew_134 (fun H locs hW => ?_)
                  refine lv_iconst (v := nI 0) hx hb dX9_shapeAnew_137 (by decide) ?_
                  refine lv_istore (lv' := [(5, .int (nI 0)), (4, .int (nI v1)), (3, .int (nI v0)), (2, .int (nI (zCt y))), (0, .ref (ad 0)), (1, .int (nI dp))]) hx hb dX9_shapeAnew_138 hl (by decide) rfl (fun ls hl => ?_)
                  have lp : ∀ (N9 : Nat) (k : Nat) (f : Nat → UInt64) (H : Heap) (locs : List Loc) (ls : Array Slot), v0 * v1 - k < N9 → (k ≤ v0 * v1) → (∀ q, q < k → f q = d 10 (24 * dp + q % zCt y)) → ar_W D A s.heap H locs (mL ad ct (va_up g 15 (nI (32 * v0 + v1)), a, va_up d 8 f)) → lv_has ls 6 [(0, .ref (ad 0)), (1, .int (nI dp)), (2, .int (nI (zCt y))), (3, .int (nI v0)), (4, .int (nI v1)), (5, .int (nI k))] → W p l e (ar_rm 1 20) s m [.ref (ad 0), .int (nI dp)].toArray below meth c H locs 0 0 (ar_E below (ar_Q D ct (mL ad ct) A (fun v9 u9 => v9 = none ∧ (((zAnw pc9 x v0 v1 (zCt y)).1 ≠ 0 ∧ u9 = (va_up g 23 (nI (zAnw pc9 x v0 v1 (zCt y)).1), a, d)) ∨ ((zAnw pc9 x v0 v1 (zCt y)).1 = 0 ∧ ∃ f : Nat → UInt64, (∀ q, q < zCt (zAnw pc9 x v0 v1 (zCt y)).2 → f q = d 10 (24 * dp + q % zCt y)) ∧ u9 = (va_up g 15 (nI (zAnw pc9 x v0 v1 (zCt y)).2), a, va_up d 8 f)))) (fun _ _ => False)) [.ref (ad 0), .int (nI dp)].toArray s) (F0 m 140 ls []) := by
                    intro N9
                    induction N9 with
                    | zero =>
                      intro k f H locs ls hN9
                      exact absurd hN9 (Nat.not_lt_zero _)
                    | succ N9 ihlp =>
                      intro k f H locs ls hN9 hk hf hW hl
                      refine lv_iload hx hb dX9_shapeAnew_140 (lv_at hl 5 rfl) ?_
                      refine lv_iload_n hx hb dX9_shapeAnew_142 rfl (lv_at hl 3 rfl) ?_
                      refine lv_iload hx hb dX9_shapeAnew_143 (lv_at hl 4 rfl) ?_
                      refine ln_imul hx hb dX9_shapeAnew_145 ?_
                      refine ln_icmp_ge (tgt := 176) hx hb dX9_shapeAnew_146 (by decide) (by first | omega | (have := Nat.mul_lt_mul'' (show v0 < 2 ^ 14 by omega) (show v1 < 2 ^ 14 by omega); omega)) (by first | omega | (have := Nat.mul_lt_mul'' (show v0 < 2 ^ 14 by omega) (show v1 < 2 ^ 14 by omega); omega)) (fun h12 => ?_) (fun h12 => ?_)
                      · skip
                        exact ar_vret C hr hW dX9_shapeAnew_176 (⟨rfl, Or.inr ((fun hz : zAnw pc9 x v0 v1 (zCt y) = (0, v0 * 32 + v1) => ⟨by rw [hz], f, fun q hq => hf q (by rw [hz] at hq; rw [zCt_hi (by omega), show (v0 * 32 + v1) / 32 = v0 by omega, show (v0 * 32 + v1) % 32 = v1 by omega] at hq; omega), by rw [hz, show v0 * 32 + v1 = 32 * v0 + v1 by omega]⟩) (by unfold zAnw; rw [if_neg (by rintro (q | q); (rw [b14] at q; cases q); first | (rw [b14] at q; exact absurd q (by decide)) | (rw [zCt_lo (by omega) (by omega)] at q; omega))]; simp only [if_neg h0x]; rw [if_neg (by rw [hfit9]; decide), if_neg (by omega)]))⟩)
                      · skip
                        refine lv_aload_n hx hb dX9_shapeAnew_149 rfl (lv_at hl 0 rfl) ?_
                        refine mg_now C hW q597 dX9_shapeAnew_150 ?_
                        refine lv_iload hx hb dX9_shapeAnew_153 (lv_at hl 5 rfl) ?_
                        refine lv_aload_n hx hb dX9_shapeAnew_155 rfl (lv_at hl 0 rfl) ?_
                        refine mg_right C hW q599 dX9_shapeAnew_156 ?_
                        refine lv_bipush (v := nI 24) hx hb dX9_shapeAnew_159 (by decide) ?_
                        refine lv_iload_n hx hb dX9_shapeAnew_161 rfl (lv_at hl 1 rfl) ?_
                        refine ln_imul hx hb dX9_shapeAnew_162 ?_
                        refine lv_iload hx hb dX9_shapeAnew_163 (lv_at hl 5 rfl) ?_
                        refine lv_iload_n hx hb dX9_shapeAnew_165 rfl (lv_at hl 2 rfl) ?_
                        refine ln_irem hx hb dX9_shapeAnew_166 (by omega) (by omega) (by omega) ?_
                        refine ln_iadd hx hb dX9_shapeAnew_167 ?_
                        refine ml_right (j := (24 * dp) + (k % (zCt y))) C hW (by first | omega | (have := Nat.mod_lt k (show 0 < zCt y by omega); omega)) dX9_shapeAnew_168 ?_
                        rw [va_up_ne _ _ (by omega)]
                        refine ms_now (j := k) C hW (by first | omega | (have := Nat.mod_lt k (show 0 < zCt y by omega); omega)) dX9_shapeAnew_169 (fun H locs hW => ?_)
                        simp only [bx_uu, va_up_self] at hW
                        refine ln_iinc (k := 5) (n := 1) (lv' := [(5, .int (nI (k + 1))), (0, .ref (ad 0)), (1, .int (nI dp)), (2, .int (nI (zCt y))), (3, .int (nI v0)), (4, .int (nI v1))]) hx hb dX9_shapeAnew_170 hl rfl (by decide) rfl (fun ls hl => ?_)
                        refine lv_goto (tgt := 140) hx hb dX9_shapeAnew_173 (by decide) ?_
                        exact ihlp (k + 1) (va_up f k (d 10 (24 * dp + k % zCt y))) _ _ _ (by omega) (by omega) (fill_p (F := fun q => d 10 (24 * dp + q % zCt y)) hf) (hW) (lv_sub hl [1, 2, 3, 4, 5, 0] rfl)
                  exact lp _ 0 (d 8) _ _ _ (Nat.lt_succ_self _) (Nat.zero_le _) (fun q hq => absurd hq (Nat.not_lt_zero _)) (by rw [va_up_id]; exact hW) (lv_sub hl [4, 5, 3, 2, 1, 0] rfl)
                · skip
                  exact absurd h11 h0x
              · skip
                refine lv_aload_n hx hb dX9_shapeAnew_102 rfl (lv_at hl 3 rfl) ?_
                refine lv_iconst (v := nI 1) hx hb dX9_shapeAnew_103 (by decide) ?_
                refine mp_error C hW q610 dX9_shapeAnew_104 (fun H locs hW => ?_)
                refine lv_aload_n hx hb dX9_shapeAnew_107 rfl (lv_at hl 3 rfl) ?_
                refine mg_error C hW q610 dX9_shapeAnew_108 ?_
                rw [va_up_self]
                refine ln_if_le (tgt := 115) hx hb dX9_shapeAnew_111 (by decide) (by decide) (fun h13 => absurd h13 (by decide)) (fun _ => ?_)
                exact ar_vret C hr hW dX9_shapeAnew_114 (⟨rfl, Or.inl ((fun hz : zAnw pc9 x v0 v1 (zCt y) = (1, 0) => ⟨by rw [hz]; decide, by rw [hz]⟩) (by unfold zAnw; rw [if_neg (by rintro (q | q); (rw [b14] at q; cases q); first | (rw [b14] at q; exact absurd q (by decide)) | (rw [zCt_lo (by omega) (by omega)] at q; omega))]; simp only [if_neg h0x]; rw [if_neg (by rw [hfit9]; decide), if_pos (by omega)]))⟩)
            · skip
              refine lv_aload_n hx hb dX9_shapeAnew_86 rfl (lv_at hl 3 rfl) ?_
              refine lv_iconst (v := nI 2) hx hb dX9_shapeAnew_87 (by decide) ?_
              refine mp_error C hW q610 dX9_shapeAnew_88 (fun H locs hW => ?_)
              refine lv_goto (tgt := 107) hx hb dX9_shapeAnew_91 (by decide) ?_
              refine lv_aload_n hx hb dX9_shapeAnew_107 rfl (lv_at hl 3 rfl) ?_
              refine mg_error C hW q610 dX9_shapeAnew_108 ?_
              rw [va_up_self]
              refine ln_if_le (tgt := 115) hx hb dX9_shapeAnew_111 (by decide) (by decide) (fun h14 => absurd h14 (by decide)) (fun _ => ?_)
              exact ar_vret C hr hW dX9_shapeAnew_114 (⟨rfl, Or.inl ((fun hz : zAnw pc9 x v0 v1 (zCt y) = (2, 0) => ⟨by rw [hz]; decide, by rw [hz]⟩) (by unfold zAnw; rw [if_neg (by rintro (q | q); (rw [b14] at q; cases q); first | (rw [b14] at q; exact absurd q (by decide)) | (rw [zCt_lo (by omega) (by omega)] at q; omega))]; simp only [if_neg h0x]; rw [if_pos (Bool.eq_false_iff.mpr (fun q => by have := zFit_iff.mp q; omega))]))⟩)
      · skip
        have h0x := h3
        refine lv_iconst (v := nI 1) hx hb dX9_shapeAnew_53 (by decide) ?_
        refine lv_goto (tgt := 64) hx hb dX9_shapeAnew_54 (by decide) ?_
        refine lv_istore (lv' := [(4, .int (nI 1)), (3, .int (nI v0)), (2, .int (nI (zCt y))), (0, .ref (ad 0)), (1, .int (nI dp))]) hx hb dX9_shapeAnew_64 hl (by decide) rfl (fun ls hl => ?_)
        refine lv_iload_n hx hb dX9_shapeAnew_66 rfl (lv_at hl 1 rfl) ?_
        refine lv_iconst (v := nI 1) hx hb dX9_shapeAnew_67 (by decide) ?_
        refine ln_icmp_lt (tgt := 86) hx hb dX9_shapeAnew_68 (by decide) (by first | omega | (have := Nat.mul_lt_mul'' (show v0 < 2 ^ 14 by omega) (show v1 < 2 ^ 14 by omega); omega)) (by first | omega | (have := Nat.mul_lt_mul'' (show v0 < 2 ^ 14 by omega) (show v1 < 2 ^ 14 by omega); omega)) (fun h15 => ?_) (fun h15 => ?_)
        · skip
          refine lv_aload_n hx hb dX9_shapeAnew_86 rfl (lv_at hl 3 rfl) ?_
          refine lv_iconst (v := nI 2) hx hb dX9_shapeAnew_87 (by decide) ?_
          refine mp_error C hW q610 dX9_shapeAnew_88 (fun H locs hW => ?_)
          refine lv_goto (tgt := 107) hx hb dX9_shapeAnew_91 (by decide) ?_
          refine lv_aload_n hx hb dX9_shapeAnew_107 rfl (lv_at hl 3 rfl) ?_
          refine mg_error C hW q610 dX9_shapeAnew_108 ?_
          rw [va_up_self]
          refine ln_if_le (tgt := 115) hx hb dX9_shapeAnew_111 (by decide) (by decide) (fun h16 => absurd h16 (by decide)) (fun _ => ?_)
          exact ar_vret C hr hW dX9_shapeAnew_114 (⟨rfl, Or.inl ((fun hz : zAnw pc9 x v0 v1 (zCt y) = (2, 0) => ⟨by rw [hz]; decide, by rw [hz]⟩) (by unfold zAnw; rw [if_neg (by rintro (q | q); (rw [b14] at q; cases q); first | (rw [h0x] at q; exact absurd q (by decide)) | (rw [zCt_lo (by omega) (by omega)] at q; omega))]; simp only [if_pos h0x]; rw [if_pos (Bool.eq_false_iff.mpr (fun q => by have := zFit_iff.mp q; omega))]))⟩)
        · skip
          refine lv_iload hx hb dX9_shapeAnew_71 (lv_at hl 0 rfl) ?_
          refine lv_iconst (v := nI 1) hx hb dX9_shapeAnew_73 (by decide) ?_
          refine ln_icmp_lt (tgt := 86) hx hb dX9_shapeAnew_74 (by decide) (by decide) (by decide) (fun h17 => absurd h17 (by decide)) (fun _ => ?_)
          refine lv_iload_n hx hb dX9_shapeAnew_77 rfl (lv_at hl 1 rfl) ?_
          refine lv_iload hx hb dX9_shapeAnew_78 (lv_at hl 0 rfl) ?_
          refine ln_imul hx hb dX9_shapeAnew_80 ?_
          refine lv_bipush (v := nI 24) hx hb dX9_shapeAnew_81 (by decide) ?_
          refine ln_icmp_le (tgt := 94) hx hb dX9_shapeAnew_83 (by decide) (by first | omega | (have := Nat.mul_lt_mul'' (show v0 < 2 ^ 14 by omega) (show v1 < 2 ^ 14 by omega); omega)) (by first | omega | (have := Nat.mul_lt_mul'' (show v0 < 2 ^ 14 by omega) (show v1 < 2 ^ 14 by omega); omega)) (fun h18 => ?_) (fun h18 => ?_)
          · skip
            have hfit9 : zFit 1 v0 = true := zFit_iff.mpr ⟨by omega, by first | omega | exact zMul_a (by assumption) (by omega), by omega, by first | omega | exact zMul_b (by assumption) (by omega), by first | omega | assumption⟩
            have hf9 := zFit_iff.mp hfit9
            refine lv_iload_n hx hb dX9_shapeAnew_94 rfl (lv_at hl 1 rfl) ?_
            refine lv_iload hx hb dX9_shapeAnew_95 (lv_at hl 0 rfl) ?_
            refine ln_imul hx hb dX9_shapeAnew_97 ?_
            refine lv_iload_n hx hb dX9_shapeAnew_98 rfl (lv_at hl 2 rfl) ?_
            refine ln_icmp_ge (tgt := 107) hx hb dX9_shapeAnew_99 (by decide) (by first | omega | (have := Nat.mul_lt_mul'' (show v0 < 2 ^ 14 by omega) (show v1 < 2 ^ 14 by omega); omega)) (by first | omega | (have := Nat.mul_lt_mul'' (show v0 < 2 ^ 14 by omega) (show v1 < 2 ^ 14 by omega); omega)) (fun h19 => ?_) (fun h19 => ?_)
            · skip
              refine lv_aload_n hx hb dX9_shapeAnew_107 rfl (lv_at hl 3 rfl) ?_
              refine mg_error C hW q610 dX9_shapeAnew_108 ?_
              refine ln_top (her) ?_
              refine ln_if_le (tgt := 115) hx hb dX9_shapeAnew_111 (by decide) (by decide) (fun _ => ?_) (fun h20 => absurd h20 (by decide))
              refine lv_aload_n hx hb dX9_shapeAnew_115 rfl (lv_at hl 3 rfl) ?_
              refine lv_aload_n hx hb dX9_shapeAnew_116 rfl (lv_at hl 3 rfl) ?_
              refine mg_partShape C hW q603 dX9_shapeAnew_117 ?_
              refine ln_top (hps) ?_
              refine ln_if_ne (tgt := 127) hx hb dX9_shapeAnew_120 (by decide) (by first | omega | (have := Nat.mul_lt_mul'' (show v0 < 2 ^ 14 by omega) (show v1 < 2 ^ 14 by omega); omega)) (fun h21 => ?_) (fun h21 => ?_)
              · skip
                exact absurd h0x h21
              · skip
                refine lv_iload_n hx hb dX9_shapeAnew_123 rfl (lv_at hl 1 rfl) ?_
                refine lv_goto (tgt := 134) hx hb dX9_shapeAnew_124 (by decide) ?_
                refine mp_nowShape C hW q602 dX9_shapeAnew_134 (fun H locs hW => ?_)
                refine lv_iconst (v := nI 0) hx hb dX9_shapeAnew_137 (by decide) ?_
                refine lv_istore (lv' := [(5, .int (nI 0)), (4, .int (nI 1)), (3, .int (nI v0)), (2, .int (nI (zCt y))), (0, .ref (ad 0)), (1, .int (nI dp))]) hx hb dX9_shapeAnew_138 hl (by decide) rfl (fun ls hl => ?_)
                have lp : ∀ (N9 : Nat) (k : Nat) (f : Nat → UInt64) (H : Heap) (locs : List Loc) (ls : Array Slot), v0 * 1 - k < N9 → (k ≤ v0 * 1) → (∀ q, q < k → f q = d 10 (24 * dp + q % zCt y)) → ar_W D A s.heap H locs (mL ad ct (va_up g 15 (nI v0), a, va_up d 8 f)) → lv_has ls 6 [(0, .ref (ad 0)), (1, .int (nI dp)), (2, .int (nI (zCt y))), (3, .int (nI v0)), (4, .int (nI 1)), (5, .int (nI k))] → W p l e (ar_rm 1 20) s m [.ref (ad 0), .int (nI dp)].toArray below meth c H locs 0 0 (ar_E below (ar_Q D ct (mL ad ct) A (fun v9 u9 => v9 = none ∧ (((zAnw pc9 x v0 v1 (zCt y)).1 ≠ 0 ∧ u9 = (va_up g 23 (nI (zAnw pc9 x v0 v1 (zCt y)).1), a, d)) ∨ ((zAnw pc9 x v0 v1 (zCt y)).1 = 0 ∧ ∃ f : Nat → UInt64, (∀ q, q < zCt (zAnw pc9 x v0 v1 (zCt y)).2 → f q = d 10 (24 * dp + q % zCt y)) ∧ u9 = (va_up g 15 (nI (zAnw pc9 x v0 v1 (zCt y)).2), a, va_up d 8 f)))) (fun _ _ => False)) [.ref (ad 0), .int (nI dp)].toArray s) (F0 m 140 ls []) := by
                  intro N9
                  induction N9 with
                  | zero =>
                    intro k f H locs ls hN9
                    exact absurd hN9 (Nat.not_lt_zero _)
                  | succ N9 ihlp =>
                    intro k f H locs ls hN9 hk hf hW hl
                    refine lv_iload hx hb dX9_shapeAnew_140 (lv_at hl 5 rfl) ?_
                    refine lv_iload_n hx hb dX9_shapeAnew_142 rfl (lv_at hl 3 rfl) ?_
                    refine lv_iload hx hb dX9_shapeAnew_143 (lv_at hl 4 rfl) ?_
                    refine ln_imul hx hb dX9_shapeAnew_145 ?_
                    refine ln_icmp_ge (tgt := 176) hx hb dX9_shapeAnew_146 (by decide) (by first | omega | (have := Nat.mul_lt_mul'' (show v0 < 2 ^ 14 by omega) (show v1 < 2 ^ 14 by omega); omega)) (by first | omega | (have := Nat.mul_lt_mul'' (show v0 < 2 ^ 14 by omega) (show v1 < 2 ^ 14 by omega); omega)) (fun h22 => ?_) (fun h22 => ?_)
                    · skip
                      exact ar_vret C hr hW dX9_shapeAnew_176 (⟨rfl, Or.inr ((fun hz : zAnw pc9 x v0 v1 (zCt y) = (0, v0) => ⟨by rw [hz], f, fun q hq => hf q (by rw [hz] at hq; rw [zCt_lo (by omega) (by omega)] at hq; omega), by rw [hz]⟩) (by unfold zAnw; rw [if_neg (by rintro (q | q); (rw [b14] at q; cases q); first | (rw [h0x] at q; exact absurd q (by decide)) | (rw [zCt_lo (by omega) (by omega)] at q; omega))]; simp only [if_pos h0x]; rw [if_neg (by rw [hfit9]; decide), if_neg (by omega)]))⟩)
                    · skip
                      refine lv_aload_n hx hb dX9_shapeAnew_149 rfl (lv_at hl 0 rfl) ?_
                      refine mg_now C hW q597 dX9_shapeAnew_150 ?_
                      refine lv_iload hx hb dX9_shapeAnew_153 (lv_at hl 5 rfl) ?_
                      refine lv_aload_n hx hb dX9_shapeAnew_155 rfl (lv_at hl 0 rfl) ?_
                      refine mg_right C hW q599 dX9_shapeAnew_156 ?_
                      refine lv_bipush (v := nI 24) hx hb dX9_shapeAnew_159 (by decide) ?_
                      refine lv_iload_n hx hb dX9_shapeAnew_161 rfl (lv_at hl 1 rfl) ?_
                      refine ln_imul hx hb dX9_shapeAnew_162 ?_
                      refine lv_iload hx hb dX9_shapeAnew_163 (lv_at hl 5 rfl) ?_
                      refine lv_iload_n hx hb dX9_shapeAnew_165 rfl (lv_at hl 2 rfl) ?_
                      refine ln_irem hx hb dX9_shapeAnew_166 (by omega) (by omega) (by omega) ?_
                      refine ln_iadd hx hb dX9_shapeAnew_167 ?_
                      refine ml_right (j := (24 * dp) + (k % (zCt y))) C hW (by first | omega | (have := Nat.mod_lt k (show 0 < zCt y by omega); omega)) dX9_shapeAnew_168 ?_
                      rw [va_up_ne _ _ (by omega)]
                      refine ms_now (j := k) C hW (by first | omega | (have := Nat.mod_lt k (show 0 < zCt y by omega); omega)) dX9_shapeAnew_169 (fun H locs hW => ?_)
                      simp only [bx_uu, va_up_self] at hW
                      refine ln_iinc (k := 5) (n := 1) (lv' := [(5, .int (nI (k + 1))), (0, .ref (ad 0)), (1, .int (nI dp)), (2, .int (nI (zCt y))), (3, .int (nI v0)), (4, .int (nI 1))]) hx hb dX9_shapeAnew_170 hl rfl (by decide) rfl (fun ls hl => ?_)
                      refine lv_goto (tgt := 140) hx hb dX9_shapeAnew_173 (by decide) ?_
                      exact ihlp (k + 1) (va_up f k (d 10 (24 * dp + k % zCt y))) _ _ _ (by omega) (by omega) (fill_p (F := fun q => d 10 (24 * dp + q % zCt y)) hf) (hW) (lv_sub hl [1, 2, 3, 4, 5, 0] rfl)
                exact lp _ 0 (d 8) _ _ _ (Nat.lt_succ_self _) (Nat.zero_le _) (fun q hq => absurd hq (Nat.not_lt_zero _)) (by rw [va_up_id]; exact hW) (lv_sub hl [4, 5, 3, 2, 1, 0] rfl)
            · skip
              refine lv_aload_n hx hb dX9_shapeAnew_102 rfl (lv_at hl 3 rfl) ?_
              refine lv_iconst (v := nI 1) hx hb dX9_shapeAnew_103 (by decide) ?_
              refine mp_error C hW q610 dX9_shapeAnew_104 (fun H locs hW => ?_)
              refine lv_aload_n hx hb dX9_shapeAnew_107 rfl (lv_at hl 3 rfl) ?_
              refine mg_error C hW q610 dX9_shapeAnew_108 ?_
              rw [va_up_self]
              refine ln_if_le (tgt := 115) hx hb dX9_shapeAnew_111 (by decide) (by decide) (fun h23 => absurd h23 (by decide)) (fun _ => ?_)
              exact ar_vret C hr hW dX9_shapeAnew_114 (⟨rfl, Or.inl ((fun hz : zAnw pc9 x v0 v1 (zCt y) = (1, 0) => ⟨by rw [hz]; decide, by rw [hz]⟩) (by unfold zAnw; rw [if_neg (by rintro (q | q); (rw [b14] at q; cases q); first | (rw [h0x] at q; exact absurd q (by decide)) | (rw [zCt_lo (by omega) (by omega)] at q; omega))]; simp only [if_pos h0x]; rw [if_neg (by rw [hfit9]; decide), if_pos (by omega)]))⟩)
          · skip
            refine lv_aload_n hx hb dX9_shapeAnew_86 rfl (lv_at hl 3 rfl) ?_
            refine lv_iconst (v := nI 2) hx hb dX9_shapeAnew_87 (by decide) ?_
            refine mp_error C hW q610 dX9_shapeAnew_88 (fun H locs hW => ?_)
            refine lv_goto (tgt := 107) hx hb dX9_shapeAnew_91 (by decide) ?_
            refine lv_aload_n hx hb dX9_shapeAnew_107 rfl (lv_at hl 3 rfl) ?_
            refine mg_error C hW q610 dX9_shapeAnew_108 ?_
            rw [va_up_self]
            refine ln_if_le (tgt := 115) hx hb dX9_shapeAnew_111 (by decide) (by decide) (fun h24 => absurd h24 (by decide)) (fun _ => ?_)
            exact ar_vret C hr hW dX9_shapeAnew_114 (⟨rfl, Or.inl ((fun hz : zAnw pc9 x v0 v1 (zCt y) = (2, 0) => ⟨by rw [hz]; decide, by rw [hz]⟩) (by unfold zAnw; rw [if_neg (by rintro (q | q); (rw [b14] at q; cases q); first | (rw [h0x] at q; exact absurd q (by decide)) | (rw [zCt_lo (by omega) (by omega)] at q; omega))]; simp only [if_pos h0x]; rw [if_pos (Bool.eq_false_iff.mpr (fun q => by have := zFit_iff.mp q; omega))]))⟩)
    · skip
      refine lv_aload_n hx hb dX9_shapeAnew_24 rfl (lv_at hl 1 rfl) ?_
      refine mg_partShape C hW q603 dX9_shapeAnew_25 ?_
      refine ln_top (hps) ?_
      refine lv_iconst (v := nI 2) hx hb dX9_shapeAnew_28 (by decide) ?_
      refine ln_icmp_eq (tgt := 38) hx hb dX9_shapeAnew_29 (by decide) (by first | omega | (have := Nat.mul_lt_mul'' (show v0 < 2 ^ 14 by omega) (show v1 < 2 ^ 14 by omega); omega)) (by first | omega | (have := Nat.mul_lt_mul'' (show v0 < 2 ^ 14 by omega) (show v1 < 2 ^ 14 by omega); omega)) (fun h25 => ?_) (fun h25 => ?_)
      · skip
        have hcv := hcc b14
        have hv0 := hcv.2.2.1
        refine lv_aload_n hx hb dX9_shapeAnew_38 rfl (lv_at hl 1 rfl) ?_
        refine mg_part C hW q598 dX9_shapeAnew_39 ?_
        refine lv_iconst (v := nI 0) hx hb dX9_shapeAnew_42 (by decide) ?_
        refine ml_part (j := 0) C hW (by first | omega | (have := Nat.mod_lt k (show 0 < zCt y by omega); omega)) dX9_shapeAnew_43 ?_
        refine lv_d2i hx hb dX9_shapeAnew_44 ?_
        rw [hcv.2.1, d2i_nI]
        refine lv_istore_n (lv' := [(3, .int (nI v0)), (2, .int (nI (zCt y))), (0, .ref (ad 0)), (1, .int (nI dp))]) hx hb dX9_shapeAnew_45 rfl hl (by decide) rfl (fun ls hl => ?_)
        refine lv_aload_n hx hb dX9_shapeAnew_46 rfl (lv_at hl 2 rfl) ?_
        refine mg_partShape C hW q603 dX9_shapeAnew_47 ?_
        refine ln_top (hps) ?_
        refine ln_if_ne (tgt := 57) hx hb dX9_shapeAnew_50 (by decide) (by first | omega | (have := Nat.mul_lt_mul'' (show v0 < 2 ^ 14 by omega) (show v1 < 2 ^ 14 by omega); omega)) (fun h26 => ?_) (fun h26 => ?_)
        · skip
          have h0x := h26
          have hv1 := (hcv.2.2.2 h26).2
          refine lv_aload_n hx hb dX9_shapeAnew_57 rfl (lv_at hl 2 rfl) ?_
          refine mg_part C hW q598 dX9_shapeAnew_58 ?_
          refine lv_iconst (v := nI 1) hx hb dX9_shapeAnew_61 (by decide) ?_
          refine ml_part (j := 1) C hW (by first | omega | (have := Nat.mod_lt k (show 0 < zCt y by omega); omega)) dX9_shapeAnew_62 ?_
          refine lv_d2i hx hb dX9_shapeAnew_63 ?_
          rw [(hcv.2.2.2 h26).1, d2i_nI]
          refine lv_istore (lv' := [(4, .int (nI v1)), (3, .int (nI v0)), (2, .int (nI (zCt y))), (0, .ref (ad 0)), (1, .int (nI dp))]) hx hb dX9_shapeAnew_64 hl (by decide) rfl (fun ls hl => ?_)
          refine lv_iload_n hx hb dX9_shapeAnew_66 rfl (lv_at hl 1 rfl) ?_
          refine lv_iconst (v := nI 1) hx hb dX9_shapeAnew_67 (by decide) ?_
          refine ln_icmp_lt (tgt := 86) hx hb dX9_shapeAnew_68 (by decide) (by first | omega | (have := Nat.mul_lt_mul'' (show v0 < 2 ^ 14 by omega) (show v1 < 2 ^ 14 by omega); omega)) (by first | omega | (have := Nat.mul_lt_mul'' (show v0 < 2 ^ 14 by omega) (show v1 < 2 ^ 14 by omega); omega)) (fun h27 => ?_) (fun h27 => ?_)
          · skip
            refine lv_aload_n hx hb dX9_shapeAnew_86 rfl (lv_at hl 3 rfl) ?_
            refine lv_iconst (v := nI 2) hx hb dX9_shapeAnew_87 (by decide) ?_
            refine mp_error C hW q610 dX9_shapeAnew_88 (fun H locs hW => ?_)
            refine lv_goto (tgt := 107) hx hb dX9_shapeAnew_91 (by decide) ?_
            refine lv_aload_n hx hb dX9_shapeAnew_107 rfl (lv_at hl 3 rfl) ?_
            refine mg_error C hW q610 dX9_shapeAnew_108 ?_
            rw [va_up_self]
            refine ln_if_le (tgt := 115) hx hb dX9_shapeAnew_111 (by decide) (by decide) (fun h28 => absurd h28 (by decide)) (fun _ => ?_)
            exact ar_vret C hr hW dX9_shapeAnew_114 (⟨rfl, Or.inl ((fun hz : zAnw pc9 x v0 v1 (zCt y) = (2, 0) => ⟨by rw [hz]; decide, by rw [hz]⟩) (by unfold zAnw; rw [if_neg (by rintro (q | q); (rw [b14] at q; cases q); first | (rw [b14] at q; exact absurd q (by decide)) | (rw [zCt_lo (by omega) (by omega)] at q; omega))]; simp only [if_neg h0x]; rw [if_pos (Bool.eq_false_iff.mpr (fun q => by have := zFit_iff.mp q; omega))]))⟩)
          · skip
            refine lv_iload hx hb dX9_shapeAnew_71 (lv_at hl 0 rfl) ?_
            refine lv_iconst (v := nI 1) hx hb dX9_shapeAnew_73 (by decide) ?_
            refine ln_icmp_lt (tgt := 86) hx hb dX9_shapeAnew_74 (by decide) (by first | omega | (have := Nat.mul_lt_mul'' (show v0 < 2 ^ 14 by omega) (show v1 < 2 ^ 14 by omega); omega)) (by first | omega | (have := Nat.mul_lt_mul'' (show v0 < 2 ^ 14 by omega) (show v1 < 2 ^ 14 by omega); omega)) (fun h29 => ?_) (fun h29 => ?_)
            · skip
              refine lv_aload_n hx hb dX9_shapeAnew_86 rfl (lv_at hl 3 rfl) ?_
              refine lv_iconst (v := nI 2) hx hb dX9_shapeAnew_87 (by decide) ?_
              refine mp_error C hW q610 dX9_shapeAnew_88 (fun H locs hW => ?_)
              refine lv_goto (tgt := 107) hx hb dX9_shapeAnew_91 (by decide) ?_
              refine lv_aload_n hx hb dX9_shapeAnew_107 rfl (lv_at hl 3 rfl) ?_
              refine mg_error C hW q610 dX9_shapeAnew_108 ?_
              rw [va_up_self]
              refine ln_if_le (tgt := 115) hx hb dX9_shapeAnew_111 (by decide) (by decide) (fun h30 => absurd h30 (by decide)) (fun _ => ?_)
              exact ar_vret C hr hW dX9_shapeAnew_114 (⟨rfl, Or.inl ((fun hz : zAnw pc9 x v0 v1 (zCt y) = (2, 0) => ⟨by rw [hz]; decide, by rw [hz]⟩) (by unfold zAnw; rw [if_neg (by rintro (q | q); (rw [b14] at q; cases q); first | (rw [b14] at q; exact absurd q (by decide)) | (rw [zCt_lo (by omega) (by omega)] at q; omega))]; simp only [if_neg h0x]; rw [if_pos (Bool.eq_false_iff.mpr (fun q => by have := zFit_iff.mp q; omega))]))⟩)
            · skip
              refine lv_iload_n hx hb dX9_shapeAnew_77 rfl (lv_at hl 1 rfl) ?_
              refine lv_iload hx hb dX9_shapeAnew_78 (lv_at hl 0 rfl) ?_
              refine ln_imul hx hb dX9_shapeAnew_80 ?_
              refine lv_bipush (v := nI 24) hx hb dX9_shapeAnew_81 (by decide) ?_
              refine ln_icmp_le (tgt := 94) hx hb dX9_shapeAnew_83 (by decide) (by first | omega | (have := Nat.mul_lt_mul'' (show v0 < 2 ^ 14 by omega) (show v1 < 2 ^ 14 by omega); omega)) (by first | omega | (have := Nat.mul_lt_mul'' (show v0 < 2 ^ 14 by omega) (show v1 < 2 ^ 14 by omega); omega)) (fun h31 => ?_) (fun h31 => ?_)
              · skip
                have hfit9 : zFit v0 v1 = true := zFit_iff.mpr ⟨by omega, by first | omega | exact zMul_a (by assumption) (by omega), by omega, by first | omega | exact zMul_b (by assumption) (by omega), by first | omega | assumption⟩
                have hf9 := zFit_iff.mp hfit9
                refine lv_iload_n hx hb dX9_shapeAnew_94 rfl (lv_at hl 1 rfl) ?_
                refine lv_iload hx hb dX9_shapeAnew_95 (lv_at hl 0 rfl) ?_
                refine ln_imul hx hb dX9_shapeAnew_97 ?_
                refine lv_iload_n hx hb dX9_shapeAnew_98 rfl (lv_at hl 2 rfl) ?_
                refine ln_icmp_ge (tgt := 107) hx hb dX9_shapeAnew_99 (by decide) (by first | omega | (have := Nat.mul_lt_mul'' (show v0 < 2 ^ 14 by omega) (show v1 < 2 ^ 14 by omega); omega)) (by first | omega | (have := Nat.mul_lt_mul'' (show v0 < 2 ^ 14 by omega) (show v1 < 2 ^ 14 by omega); omega)) (fun h32 => ?_) (fun h32 => ?_)
                · skip
                  refine lv_aload_n hx hb dX9_shapeAnew_107 rfl (lv_at hl 3 rfl) ?_
                  refine mg_error C hW q610 dX9_shapeAnew_108 ?_
                  refine ln_top (her) ?_
                  refine ln_if_le (tgt := 115) hx hb dX9_shapeAnew_111 (by decide) (by decide) (fun _ => ?_) (fun h33 => absurd h33 (by decide))
                  refine lv_aload_n hx hb dX9_shapeAnew_115 rfl (lv_at hl 3 rfl) ?_
                  refine lv_aload_n hx hb dX9_shapeAnew_116 rfl (lv_at hl 3 rfl) ?_
                  refine mg_partShape C hW q603 dX9_shapeAnew_117 ?_
                  refine ln_top (hps) ?_
                  refine ln_if_ne (tgt := 127) hx hb dX9_shapeAnew_120 (by decide) (by first | omega | (have := Nat.mul_lt_mul'' (show v0 < 2 ^ 14 by omega) (show v1 < 2 ^ 14 by omega); omega)) (fun h34 => ?_) (fun h34 => ?_)
                  · skip
                    refine lv_bipush (v := nI 32) hx hb dX9_shapeAnew_127 (by decide) ?_
                    refine lv_iload_n hx hb dX9_shapeAnew_129 rfl (lv_at hl 1 rfl) ?_
                    refine ln_imul hx hb dX9_shapeAnew_130 ?_
                    refine lv_iload hx hb dX9_shapeAnew_131 (lv_at hl 0 rfl) ?_
                    refine ln_iadd hx hb dX9_shapeAnew_133 ?_
                    refine mp_nowShape C hW q602 dX9_shapeAnew_134 (fun H locs hW => ?_)
                    refine lv_iconst (v := nI 0) hx hb dX9_shapeAnew_137 (by decide) ?_
                    refine lv_istore (lv' := [(5, .int (nI 0)), (4, .int (nI v1)), (3, .int (nI v0)), (2, .int (nI (zCt y))), (0, .ref (ad 0)), (1, .int (nI dp))]) hx hb dX9_shapeAnew_138 hl (by decide) rfl (fun ls hl => ?_)
                    have lp : ∀ (N9 : Nat) (k : Nat) (f : Nat → UInt64) (H : Heap) (locs : List Loc) (ls : Array Slot), v0 * v1 - k < N9 → (k ≤ v0 * v1) → (∀ q, q < k → f q = d 10 (24 * dp + q % zCt y)) → ar_W D A s.heap H locs (mL ad ct (va_up g 15 (nI (32 * v0 + v1)), a, va_up d 8 f)) → lv_has ls 6 [(0, .ref (ad 0)), (1, .int (nI dp)), (2, .int (nI (zCt y))), (3, .int (nI v0)), (4, .int (nI v1)), (5, .int (nI k))] → W p l e (ar_rm 1 20) s m [.ref (ad 0), .int (nI dp)].toArray below meth c H locs 0 0 (ar_E below (ar_Q D ct (mL ad ct) A (fun v9 u9 => v9 = none ∧ (((zAnw pc9 x v0 v1 (zCt y)).1 ≠ 0 ∧ u9 = (va_up g 23 (nI (zAnw pc9 x v0 v1 (zCt y)).1), a, d)) ∨ ((zAnw pc9 x v0 v1 (zCt y)).1 = 0 ∧ ∃ f : Nat → UInt64, (∀ q, q < zCt (zAnw pc9 x v0 v1 (zCt y)).2 → f q = d 10 (24 * dp + q % zCt y)) ∧ u9 = (va_up g 15 (nI (zAnw pc9 x v0 v1 (zCt y)).2), a, va_up d 8 f)))) (fun _ _ => False)) [.ref (ad 0), .int (nI dp)].toArray s) (F0 m 140 ls []) := by
                      intro N9
                      induction N9 with
                      | zero =>
                        intro k f H locs ls hN9
                        exact absurd hN9 (Nat.not_lt_zero _)
                      | succ N9 ihlp =>
                        intro k f H locs ls hN9 hk hf hW hl
                        refine lv_iload hx hb dX9_shapeAnew_140 (lv_at hl 5 rfl) ?_
                        refine lv_iload_n hx hb dX9_shapeAnew_142 rfl (lv_at hl 3 rfl) ?_
                        refine lv_iload hx hb dX9_shapeAnew_143 (lv_at hl 4 rfl) ?_
                        refine ln_imul hx hb dX9_shapeAnew_145 ?_
                        refine ln_icmp_ge (tgt := 176) hx hb dX9_shapeAnew_146 (by decide) (by first | omega | (have := Nat.mul_lt_mul'' (show v0 < 2 ^ 14 by omega) (show v1 < 2 ^ 14 by omega); omega)) (by first | omega | (have := Nat.mul_lt_mul'' (show v0 < 2 ^ 14 by omega) (show v1 < 2 ^ 14 by omega); omega)) (fun h35 => ?_) (fun h35 => ?_)
                        · skip
                          exact ar_vret C hr hW dX9_shapeAnew_176 (⟨rfl, Or.inr ((fun hz : zAnw pc9 x v0 v1 (zCt y) = (0, v0 * 32 + v1) => ⟨by rw [hz], f, fun q hq => hf q (by rw [hz] at hq; rw [zCt_hi (by omega), show (v0 * 32 + v1) / 32 = v0 by omega, show (v0 * 32 + v1) % 32 = v1 by omega] at hq; omega), by rw [hz, show v0 * 32 + v1 = 32 * v0 + v1 by omega]⟩) (by unfold zAnw; rw [if_neg (by rintro (q | q); (rw [b14] at q; cases q); first | (rw [b14] at q; exact absurd q (by decide)) | (rw [zCt_lo (by omega) (by omega)] at q; omega))]; simp only [if_neg h0x]; rw [if_neg (by rw [hfit9]; decide), if_neg (by omega)]))⟩)
                        · skip
                          refine lv_aload_n hx hb dX9_shapeAnew_149 rfl (lv_at hl 0 rfl) ?_
                          refine mg_now C hW q597 dX9_shapeAnew_150 ?_
                          refine lv_iload hx hb dX9_shapeAnew_153 (lv_at hl 5 rfl) ?_
                          refine lv_aload_n hx hb dX9_shapeAnew_155 rfl (lv_at hl 0 rfl) ?_
                          refine mg_right C hW q599 dX9_shapeAnew_156 ?_
                          refine lv_bipush (v := nI 24) hx hb dX9_shapeAnew_159 (by decide) ?_
                          refine lv_iload_n hx hb dX9_shapeAnew_161 rfl (lv_at hl 1 rfl) ?_
                          refine ln_imul hx hb dX9_shapeAnew_162 ?_
                          refine lv_iload hx hb dX9_shapeAnew_163 (lv_at hl 5 rfl) ?_
                          refine lv_iload_n hx hb dX9_shapeAnew_165 rfl (lv_at hl 2 rfl) ?_
                          refine ln_irem hx hb dX9_shapeAnew_166 (by omega) (by omega) (by omega) ?_
                          refine ln_iadd hx hb dX9_shapeAnew_167 ?_
                          refine ml_right (j := (24 * dp) + (k % (zCt y))) C hW (by first | omega | (have := Nat.mod_lt k (show 0 < zCt y by omega); omega)) dX9_shapeAnew_168 ?_
                          rw [va_up_ne _ _ (by omega)]
                          refine ms_now (j := k) C hW (by first | omega | (have := Nat.mod_lt k (show 0 < zCt y by omega); omega)) dX9_shapeAnew_169 (fun H locs hW => ?_)
                          simp only [bx_uu, va_up_self] at hW
                          refine ln_iinc (k := 5) (n := 1) (lv' := [(5, .int (nI (k + 1))), (0, .ref (ad 0)), (1, .int (nI dp)), (2, .int (nI (zCt y))), (3, .int (nI v0)), (4, .int (nI v1))]) hx hb dX9_shapeAnew_170 hl rfl (by decide) rfl (fun ls hl => ?_)
                          refine lv_goto (tgt := 140) hx hb dX9_shapeAnew_173 (by decide) ?_
                          exact ihlp (k + 1) (va_up f k (d 10 (24 * dp + k % zCt y))) _ _ _ (by omega) (by omega) (fill_p (F := fun q => d 10 (24 * dp + q % zCt y)) hf) (hW) (lv_sub hl [1, 2, 3, 4, 5, 0] rfl)
                    exact lp _ 0 (d 8) _ _ _ (Nat.lt_succ_self _) (Nat.zero_le _) (fun q hq => absurd hq (Nat.not_lt_zero _)) (by rw [va_up_id]; exact hW) (lv_sub hl [4, 5, 3, 2, 1, 0] rfl)
                  · skip
                    exact absurd h34 h0x
                · skip
                  refine lv_aload_n hx hb dX9_shapeAnew_102 rfl (lv_at hl 3 rfl) ?_
                  refine lv_iconst (v := nI 1) hx hb dX9_shapeAnew_103 (by decide) ?_
                  refine mp_error C hW q610 dX9_shapeAnew_104 (fun H locs hW => ?_)
                  refine lv_aload_n hx hb dX9_shapeAnew_107 rfl (lv_at hl 3 rfl) ?_
                  refine mg_error C hW q610 dX9_shapeAnew_108 ?_
                  rw [va_up_self]
                  refine ln_if_le (tgt := 115) hx hb dX9_shapeAnew_111 (by decide) (by decide) (fun h36 => absurd h36 (by decide)) (fun _ => ?_)
                  exact ar_vret C hr hW dX9_shapeAnew_114 (⟨rfl, Or.inl ((fun hz : zAnw pc9 x v0 v1 (zCt y) = (1, 0) => ⟨by rw [hz]; decide, by rw [hz]⟩) (by unfold zAnw; rw [if_neg (by rintro (q | q); (rw [b14] at q; cases q); first | (rw [b14] at q; exact absurd q (by decide)) | (rw [zCt_lo (by omega) (by omega)] at q; omega))]; simp only [if_neg h0x]; rw [if_neg (by rw [hfit9]; decide), if_pos (by omega)]))⟩)
              · skip
                refine lv_aload_n hx hb dX9_shapeAnew_86 rfl (lv_at hl 3 rfl) ?_
                refine lv_iconst (v := nI 2) hx hb dX9_shapeAnew_87 (by decide) ?_
                refine mp_error C hW q610 dX9_shapeAnew_88 (fun H locs hW => ?_)
                refine lv_goto (tgt := 107) hx hb dX9_shapeAnew_91 (by decide) ?_
                refine lv_aload_n hx hb dX9_shapeAnew_107 rfl (lv_at hl 3 rfl) ?_
                refine mg_error C hW q610 dX9_shapeAnew_108 ?_
                rw [va_up_self]
                refine ln_if_le (tgt := 115) hx hb dX9_shapeAnew_111 (by decide) (by decide) (fun h37 => absurd h37 (by decide)) (fun _ => ?_)
                exact ar_vret C hr hW dX9_shapeAnew_114 (⟨rfl, Or.inl ((fun hz : zAnw pc9 x v0 v1 (zCt y) = (2, 0) => ⟨by rw [hz]; decide, by rw [hz]⟩) (by unfold zAnw; rw [if_neg (by rintro (q | q); (rw [b14] at q; cases q); first | (rw [b14] at q; exact absurd q (by decide)) | (rw [zCt_lo (by omega) (by omega)] at q; omega))]; simp only [if_neg h0x]; rw [if_pos (Bool.eq_false_iff.mpr (fun q => by have := zFit_iff.mp q; omega))]))⟩)
        · skip
          have h0x := h26
          refine lv_iconst (v := nI 1) hx hb dX9_shapeAnew_53 (by decide) ?_
          refine lv_goto (tgt := 64) hx hb dX9_shapeAnew_54 (by decide) ?_
          refine lv_istore (lv' := [(4, .int (nI 1)), (3, .int (nI v0)), (2, .int (nI (zCt y))), (0, .ref (ad 0)), (1, .int (nI dp))]) hx hb dX9_shapeAnew_64 hl (by decide) rfl (fun ls hl => ?_)
          refine lv_iload_n hx hb dX9_shapeAnew_66 rfl (lv_at hl 1 rfl) ?_
          refine lv_iconst (v := nI 1) hx hb dX9_shapeAnew_67 (by decide) ?_
          refine ln_icmp_lt (tgt := 86) hx hb dX9_shapeAnew_68 (by decide) (by first | omega | (have := Nat.mul_lt_mul'' (show v0 < 2 ^ 14 by omega) (show v1 < 2 ^ 14 by omega); omega)) (by first | omega | (have := Nat.mul_lt_mul'' (show v0 < 2 ^ 14 by omega) (show v1 < 2 ^ 14 by omega); omega)) (fun h38 => ?_) (fun h38 => ?_)
          · skip
            refine lv_aload_n hx hb dX9_shapeAnew_86 rfl (lv_at hl 3 rfl) ?_
            refine lv_iconst (v := nI 2) hx hb dX9_shapeAnew_87 (by decide) ?_
            refine mp_error C hW q610 dX9_shapeAnew_88 (fun H locs hW => ?_)
            refine lv_goto (tgt := 107) hx hb dX9_shapeAnew_91 (by decide) ?_
            refine lv_aload_n hx hb dX9_shapeAnew_107 rfl (lv_at hl 3 rfl) ?_
            refine mg_error C hW q610 dX9_shapeAnew_108 ?_
            rw [va_up_self]
            refine ln_if_le (tgt := 115) hx hb dX9_shapeAnew_111 (by decide) (by decide) (fun h39 => absurd h39 (by decide)) (fun _ => ?_)
            exact ar_vret C hr hW dX9_shapeAnew_114 (⟨rfl, Or.inl ((fun hz : zAnw pc9 x v0 v1 (zCt y) = (2, 0) => ⟨by rw [hz]; decide, by rw [hz]⟩) (by unfold zAnw; rw [if_neg (by rintro (q | q); (rw [b14] at q; cases q); first | (rw [h0x] at q; exact absurd q (by decide)) | (rw [zCt_lo (by omega) (by omega)] at q; omega))]; simp only [if_pos h0x]; rw [if_pos (Bool.eq_false_iff.mpr (fun q => by have := zFit_iff.mp q; omega))]))⟩)
          · skip
            refine lv_iload hx hb dX9_shapeAnew_71 (lv_at hl 0 rfl) ?_
            refine lv_iconst (v := nI 1) hx hb dX9_shapeAnew_73 (by decide) ?_
            refine ln_icmp_lt (tgt := 86) hx hb dX9_shapeAnew_74 (by decide) (by decide) (by decide) (fun h40 => absurd h40 (by decide)) (fun _ => ?_)
            refine lv_iload_n hx hb dX9_shapeAnew_77 rfl (lv_at hl 1 rfl) ?_
            refine lv_iload hx hb dX9_shapeAnew_78 (lv_at hl 0 rfl) ?_
            refine ln_imul hx hb dX9_shapeAnew_80 ?_
            refine lv_bipush (v := nI 24) hx hb dX9_shapeAnew_81 (by decide) ?_
            refine ln_icmp_le (tgt := 94) hx hb dX9_shapeAnew_83 (by decide) (by first | omega | (have := Nat.mul_lt_mul'' (show v0 < 2 ^ 14 by omega) (show v1 < 2 ^ 14 by omega); omega)) (by first | omega | (have := Nat.mul_lt_mul'' (show v0 < 2 ^ 14 by omega) (show v1 < 2 ^ 14 by omega); omega)) (fun h41 => ?_) (fun h41 => ?_)
            · skip
              have hfit9 : zFit 1 v0 = true := zFit_iff.mpr ⟨by omega, by first | omega | exact zMul_a (by assumption) (by omega), by omega, by first | omega | exact zMul_b (by assumption) (by omega), by first | omega | assumption⟩
              have hf9 := zFit_iff.mp hfit9
              refine lv_iload_n hx hb dX9_shapeAnew_94 rfl (lv_at hl 1 rfl) ?_
              refine lv_iload hx hb dX9_shapeAnew_95 (lv_at hl 0 rfl) ?_
              refine ln_imul hx hb dX9_shapeAnew_97 ?_
              refine lv_iload_n hx hb dX9_shapeAnew_98 rfl (lv_at hl 2 rfl) ?_
              refine ln_icmp_ge (tgt := 107) hx hb dX9_shapeAnew_99 (by decide) (by first | omega | (have := Nat.mul_lt_mul'' (show v0 < 2 ^ 14 by omega) (show v1 < 2 ^ 14 by omega); omega)) (by first | omega | (have := Nat.mul_lt_mul'' (show v0 < 2 ^ 14 by omega) (show v1 < 2 ^ 14 by omega); omega)) (fun h42 => ?_) (fun h42 => ?_)
              · skip
                refine lv_aload_n hx hb dX9_shapeAnew_107 rfl (lv_at hl 3 rfl) ?_
                refine mg_error C hW q610 dX9_shapeAnew_108 ?_
                refine ln_top (her) ?_
                refine ln_if_le (tgt := 115) hx hb dX9_shapeAnew_111 (by decide) (by decide) (fun _ => ?_) (fun h43 => absurd h43 (by decide))
                refine lv_aload_n hx hb dX9_shapeAnew_115 rfl (lv_at hl 3 rfl) ?_
                refine lv_aload_n hx hb dX9_shapeAnew_116 rfl (lv_at hl 3 rfl) ?_
                refine mg_partShape C hW q603 dX9_shapeAnew_117 ?_
                refine ln_top (hps) ?_
                refine ln_if_ne (tgt := 127) hx hb dX9_shapeAnew_120 (by decide) (by first | omega | (have := Nat.mul_lt_mul'' (show v0 < 2 ^ 14 by omega) (show v1 < 2 ^ 14 by omega); omega)) (fun h44 => ?_) (fun h44 => ?_)
                · skip
                  exact absurd h0x h44
                · skip
                  refine lv_iload_n hx hb dX9_shapeAnew_123 rfl (lv_at hl 1 rfl) ?_
                  refine lv_goto (tgt := 134) hx hb dX9_shapeAnew_124 (by decide) ?_
                  refine mp_nowShape C hW q602 dX9_shapeAnew_134 (fun H locs hW => ?_)
                  refine lv_iconst (v := nI 0) hx hb dX9_shapeAnew_137 (by decide) ?_
                  refine lv_istore (lv' := [(5, .int (nI 0)), (4, .int (nI 1)), (3, .int (nI v0)), (2, .int (nI (zCt y))), (0, .ref (ad 0)), (1, .int (nI dp))]) hx hb dX9_shapeAnew_138 hl (by decide) rfl (fun ls hl => ?_)
                  have lp : ∀ (N9 : Nat) (k : Nat) (f : Nat → UInt64) (H : Heap) (locs : List Loc) (ls : Array Slot), v0 * 1 - k < N9 → (k ≤ v0 * 1) → (∀ q, q < k → f q = d 10 (24 * dp + q % zCt y)) → ar_W D A s.heap H locs (mL ad ct (va_up g 15 (nI v0), a, va_up d 8 f)) → lv_has ls 6 [(0, .ref (ad 0)), (1, .int (nI dp)), (2, .int (nI (zCt y))), (3, .int (nI v0)), (4, .int (nI 1)), (5, .int (nI k))] → W p l e (ar_rm 1 20) s m [.ref (ad 0), .int (nI dp)].toArray below meth c H locs 0 0 (ar_E below (ar_Q D ct (mL ad ct) A (fun v9 u9 => v9 = none ∧ (((zAnw pc9 x v0 v1 (zCt y)).1 ≠ 0 ∧ u9 = (va_up g 23 (nI (zAnw pc9 x v0 v1 (zCt y)).1), a, d)) ∨ ((zAnw pc9 x v0 v1 (zCt y)).1 = 0 ∧ ∃ f : Nat → UInt64, (∀ q, q < zCt (zAnw pc9 x v0 v1 (zCt y)).2 → f q = d 10 (24 * dp + q % zCt y)) ∧ u9 = (va_up g 15 (nI (zAnw pc9 x v0 v1 (zCt y)).2), a, va_up d 8 f)))) (fun _ _ => False)) [.ref (ad 0), .int (nI dp)].toArray s) (F0 m 140 ls []) := by
                    intro N9
                    induction N9 with
                    | zero =>
                      intro k f H locs ls hN9
                      exact absurd hN9 (Nat.not_lt_zero _)
                    | succ N9 ihlp =>
                      intro k f H locs ls hN9 hk hf hW hl
                      refine lv_iload hx hb dX9_shapeAnew_140 (lv_at hl 5 rfl) ?_
                      refine lv_iload_n hx hb dX9_shapeAnew_142 rfl (lv_at hl 3 rfl) ?_
                      refine lv_iload hx hb dX9_shapeAnew_143 (lv_at hl 4 rfl) ?_
                      refine ln_imul hx hb dX9_shapeAnew_145 ?_
                      refine ln_icmp_ge (tgt := 176) hx hb dX9_shapeAnew_146 (by decide) (by first | omega | (have := Nat.mul_lt_mul'' (show v0 < 2 ^ 14 by omega) (show v1 < 2 ^ 14 by omega); omega)) (by first | omega | (have := Nat.mul_lt_mul'' (show v0 < 2 ^ 14 by omega) (show v1 < 2 ^ 14 by omega); omega)) (fun h45 => ?_) (fun h45 => ?_)
                      · skip
                        exact ar_vret C hr hW dX9_shapeAnew_176 (⟨rfl, Or.inr ((fun hz : zAnw pc9 x v0 v1 (zCt y) = (0, v0) => ⟨by rw [hz], f, fun q hq => hf q (by rw [hz] at hq; rw [zCt_lo (by omega) (by omega)] at hq; omega), by rw [hz]⟩) (by unfold zAnw; rw [if_neg (by rintro (q | q); (rw [b14] at q; cases q); first | (rw [h0x] at q; exact absurd q (by decide)) | (rw [zCt_lo (by omega) (by omega)] at q; omega))]; simp only [if_pos h0x]; rw [if_neg (by rw [hfit9]; decide), if_neg (by omega)]))⟩)
                      · skip
                        refine lv_aload_n hx hb dX9_shapeAnew_149 rfl (lv_at hl 0 rfl) ?_
                        refine mg_now C hW q597 dX9_shapeAnew_150 ?_
                        refine lv_iload hx hb dX9_shapeAnew_153 (lv_at hl 5 rfl) ?_
                        refine lv_aload_n hx hb dX9_shapeAnew_155 rfl (lv_at hl 0 rfl) ?_
                        refine mg_right C hW q599 dX9_shapeAnew_156 ?_
                        refine lv_bipush (v := nI 24) hx hb dX9_shapeAnew_159 (by decide) ?_
                        refine lv_iload_n hx hb dX9_shapeAnew_161 rfl (lv_at hl 1 rfl) ?_
                        refine ln_imul hx hb dX9_shapeAnew_162 ?_
                        refine lv_iload hx hb dX9_shapeAnew_163 (lv_at hl 5 rfl) ?_
                        refine lv_iload_n hx hb dX9_shapeAnew_165 rfl (lv_at hl 2 rfl) ?_
                        refine ln_irem hx hb dX9_shapeAnew_166 (by omega) (by omega) (by omega) ?_
                        refine ln_iadd hx hb dX9_shapeAnew_167 ?_
                        refine ml_right (j := (24 * dp) + (k % (zCt y))) C hW (by first | omega | (have := Nat.mod_lt k (show 0 < zCt y by omega); omega)) dX9_shapeAnew_168 ?_
                        rw [va_up_ne _ _ (by omega)]
                        refine ms_now (j := k) C hW (by first | omega | (have := Nat.mod_lt k (show 0 < zCt y by omega); omega)) dX9_shapeAnew_169 (fun H locs hW => ?_)
                        simp only [bx_uu, va_up_self] at hW
                        refine ln_iinc (k := 5) (n := 1) (lv' := [(5, .int (nI (k + 1))), (0, .ref (ad 0)), (1, .int (nI dp)), (2, .int (nI (zCt y))), (3, .int (nI v0)), (4, .int (nI 1))]) hx hb dX9_shapeAnew_170 hl rfl (by decide) rfl (fun ls hl => ?_)
                        refine lv_goto (tgt := 140) hx hb dX9_shapeAnew_173 (by decide) ?_
                        exact ihlp (k + 1) (va_up f k (d 10 (24 * dp + k % zCt y))) _ _ _ (by omega) (by omega) (fill_p (F := fun q => d 10 (24 * dp + q % zCt y)) hf) (hW) (lv_sub hl [1, 2, 3, 4, 5, 0] rfl)
                  exact lp _ 0 (d 8) _ _ _ (Nat.lt_succ_self _) (Nat.zero_le _) (fun q hq => absurd hq (Nat.not_lt_zero _)) (by rw [va_up_id]; exact hW) (lv_sub hl [4, 5, 3, 2, 1, 0] rfl)
              · skip
                refine lv_aload_n hx hb dX9_shapeAnew_102 rfl (lv_at hl 3 rfl) ?_
                refine lv_iconst (v := nI 1) hx hb dX9_shapeAnew_103 (by decide) ?_
                refine mp_error C hW q610 dX9_shapeAnew_104 (fun H locs hW => ?_)
                refine lv_aload_n hx hb dX9_shapeAnew_107 rfl (lv_at hl 3 rfl) ?_
                refine mg_error C hW q610 dX9_shapeAnew_108 ?_
                rw [va_up_self]
                refine ln_if_le (tgt := 115) hx hb dX9_shapeAnew_111 (by decide) (by decide) (fun h46 => absurd h46 (by decide)) (fun _ => ?_)
                exact ar_vret C hr hW dX9_shapeAnew_114 (⟨rfl, Or.inl ((fun hz : zAnw pc9 x v0 v1 (zCt y) = (1, 0) => ⟨by rw [hz]; decide, by rw [hz]⟩) (by unfold zAnw; rw [if_neg (by rintro (q | q); (rw [b14] at q; cases q); first | (rw [h0x] at q; exact absurd q (by decide)) | (rw [zCt_lo (by omega) (by omega)] at q; omega))]; simp only [if_pos h0x]; rw [if_neg (by rw [hfit9]; decide), if_pos (by omega)]))⟩)
            · skip
              refine lv_aload_n hx hb dX9_shapeAnew_86 rfl (lv_at hl 3 rfl) ?_
              refine lv_iconst (v := nI 2) hx hb dX9_shapeAnew_87 (by decide) ?_
              refine mp_error C hW q610 dX9_shapeAnew_88 (fun H locs hW => ?_)
              refine lv_goto (tgt := 107) hx hb dX9_shapeAnew_91 (by decide) ?_
              refine lv_aload_n hx hb dX9_shapeAnew_107 rfl (lv_at hl 3 rfl) ?_
              refine mg_error C hW q610 dX9_shapeAnew_108 ?_
              rw [va_up_self]
              refine ln_if_le (tgt := 115) hx hb dX9_shapeAnew_111 (by decide) (by decide) (fun h47 => absurd h47 (by decide)) (fun _ => ?_)
              exact ar_vret C hr hW dX9_shapeAnew_114 (⟨rfl, Or.inl ((fun hz : zAnw pc9 x v0 v1 (zCt y) = (2, 0) => ⟨by rw [hz]; decide, by rw [hz]⟩) (by unfold zAnw; rw [if_neg (by rintro (q | q); (rw [b14] at q; cases q); first | (rw [h0x] at q; exact absurd q (by decide)) | (rw [zCt_lo (by omega) (by omega)] at q; omega))]; simp only [if_pos h0x]; rw [if_pos (Bool.eq_false_iff.mpr (fun q => by have := zFit_iff.mp q; omega))]))⟩)
      · skip
        refine lv_aload_n hx hb dX9_shapeAnew_32 rfl (lv_at hl 1 rfl) ?_
        refine lv_iconst (v := nI 1) hx hb dX9_shapeAnew_33 (by decide) ?_
        refine mp_error C hW q610 dX9_shapeAnew_34 (fun H locs hW => ?_)
        exact ar_vret C hr hW dX9_shapeAnew_37 (⟨rfl, Or.inl ((fun hz : zAnw pc9 x v0 v1 (zCt y) = (1, 0) => ⟨by rw [hz]; decide, by rw [hz]⟩) (by unfold zAnw; first | rw [if_pos (Or.inl b14)] | (rw [if_pos (Or.inr (by rw [zCt_lo (by omega) (by have := hcc b14; omega)]; have := hcc b14; omega))])))⟩)
