def zGq (g : Nat → Int32) (sy nu : Nat) : Nat → Int32 := va_up (va_up g 8 (nI sy)) 9 (nI nu)
theorem zGq_8 {g : Nat → Int32} {sy nu x : Nat} : va_up (zGq g sy nu) 8 (nI x) = zGq g x nu := by
  funext i
  unfold zGq va_up
  by_cases h : i = 8
  · rw [if_pos h, if_neg (by omega), if_pos h]
  · rw [if_neg h]
    by_cases h2 : i = 9
    · rw [if_pos h2, if_pos h2]
    · rw [if_neg h2, if_neg h2, if_neg h, if_neg h]
theorem zGq_9 {g : Nat → Int32} {sy nu x : Nat} : va_up (zGq g sy nu) 9 (nI x) = zGq g sy x := bx_uu _ _ _ _
theorem zGq_fg {g : Nat → Int32} {sy nu : Nat} : zFg g (zGq g sy nu) := fun k h8 h9 => by unfold zGq; rw [va_up_ne _ _ h9, va_up_ne _ _ h8]
theorem zFa_kp2 {a : Nat → Nat → Int32} {i : Nat} {x y z : Int32} : zFa a (zKp a i x y z) := by
  intro k hk
  unfold zKp
  rw [va_up_ne _ _ (by omega), va_up_ne _ _ (by omega), va_up_ne _ _ (by omega)]
/-- the cutting of a text into symbols -/
def zQ (c : Nat → Nat) (n : Nat) : Nat → Nat → Bool → Nat → Nat → Nat → (Nat → Nat → Int32) → Option (Nat × Nat × (Nat → Nat → Int32))
  | 0, _, du, op, sy, nu, a => if du = false ∧ op = 0 then some (sy, nu, a) else none
  | r + 1, i, du, op, sy, nu, a =>
    if n ≤ i then (if du = false ∧ op = 0 then some (sy, nu, a) else none)
    else if du = false then
      (if c i = 41 ∧ 0 < op then zQ c n r (i + 1) false (op - 1) (sy + 1) nu (zKp a sy (nI 5) (nI 0) (nI 0))
      else if zSgn (c i) = true then zQ c n r (i + 1) true op (sy + 1) nu (zKp a sy (nI 6) (nI (c i)) (nI 0)) else none)
    else if c i = 45 ∨ c i = 126 then zQ c n r (i + 1) true op (sy + 1) nu (zKp a sy (nI 7) (nI (c i)) (nI 0))
    else if (c i = 47 ∨ c i = 92) ∧ zRd (c (i + 1)) = true then zQ c n r (i + 1 + 1) true op (sy + 1) nu (zKp a sy (nI (if c i = 47 then 8 else 9)) (nI (c (i + 1))) (nI 0))
    else if c i = 40 then zQ c n r (i + 1) true (op + 1) (sy + 1) nu (zKp a sy (nI 4) (nI 0) (nI 0))
    else if 97 ≤ c i ∧ c i ≤ 104 then zQ c n r (i + 1) false op (sy + 1) nu (zKp a sy (nI 1) (nI (c i - 97)) (nI 0))
    else if c i = 105 then (if zDr c 5 (i + 1) = 0 ∨ zDr c 5 (i + 1) = 5 then none else zQ c n r (i + 1 + zDr c 5 (i + 1)) false op (sy + 1) (nu + 1) (zKp (va_up a 7 (va_up (a 7) nu (nI (zNm c (i + 1) (zDr c 5 (i + 1)))))) sy (nI 3) (nI nu) (nI 0)))
    else if zDg (c i) = true then (match zMc c i with
      | none => none
      | some r2 => zQ c n r r2.1 false op (sy + 1) (nu + r2.2.length) (zKp (va_up a 7 (zNr (a 7) nu r2.2)) sy (nI 2) (nI nu) (nI r2.2.length)))
    else none
theorem zQ_e {c : Nat → Nat} {n r i op sy nu : Nat} {du : Bool} {a : Nat → Nat → Int32} (hi : n ≤ i) : zQ c n r i du op sy nu a = if du = false ∧ op = 0 then some (sy, nu, a) else none := by
  cases r with
  | zero => rfl
  | succ r => rw [zQ, if_pos hi]
section QQ
variable {c : Nat → Nat} {n k i op sy nu : Nat} {a : Nat → Nat → Int32}
theorem zQ_cl (hk : k < 41) (hi : i < n) (h1 : c i = 41) (h2 : 0 < op) : zQ c n (41 - k) i false op sy nu a = zQ c n (41 - (k + 1)) (i + 1) false (op - 1) (sy + 1) nu (zKp a sy (nI 5) (nI 0) (nI 0)) := by
  rw [show 41 - k = (41 - (k + 1)) + 1 by omega, zQ, if_neg (by omega), if_pos rfl, if_pos ⟨h1, h2⟩]
theorem zQ_sg (hk : k < 41) (hi : i < n) (h1 : ¬ (c i = 41 ∧ 0 < op)) (h2 : zSgn (c i) = true) : zQ c n (41 - k) i false op sy nu a = zQ c n (41 - (k + 1)) (i + 1) true op (sy + 1) nu (zKp a sy (nI 6) (nI (c i)) (nI 0)) := by
  rw [show 41 - k = (41 - (k + 1)) + 1 by omega, zQ, if_neg (by omega), if_pos rfl, if_neg h1, if_pos h2]
theorem zQ_no (hk : k < 41) (hi : i < n) (h1 : ¬ (c i = 41 ∧ 0 < op)) (h2 : zSgn (c i) = false) : zQ c n (41 - k) i false op sy nu a = none := by
  rw [show 41 - k = (41 - (k + 1)) + 1 by omega, zQ, if_neg (by omega), if_pos rfl, if_neg h1, if_neg (by rw [h2]; decide)]
theorem zQ_fr (hk : k < 41) (hi : i < n) (h1 : c i = 45 ∨ c i = 126) : zQ c n (41 - k) i true op sy nu a = zQ c n (41 - (k + 1)) (i + 1) true op (sy + 1) nu (zKp a sy (nI 7) (nI (c i)) (nI 0)) := by
  rw [show 41 - k = (41 - (k + 1)) + 1 by omega, zQ, if_neg (by omega), if_neg (by decide), if_pos h1]
theorem zQ_rd (hk : k < 41) (hi : i < n) (h1 : c i = 47 ∨ c i = 92) (h2 : zRd (c (i + 1)) = true) : zQ c n (41 - k) i true op sy nu a = zQ c n (41 - (k + 1)) (i + 1 + 1) true op (sy + 1) nu (zKp a sy (nI (if c i = 47 then 8 else 9)) (nI (c (i + 1))) (nI 0)) := by
  rw [show 41 - k = (41 - (k + 1)) + 1 by omega, zQ, if_neg (by omega), if_neg (by decide), if_neg (by omega), if_pos ⟨h1, h2⟩]
theorem zQ_op (hk : k < 41) (hi : i < n) (h1 : c i = 40) : zQ c n (41 - k) i true op sy nu a = zQ c n (41 - (k + 1)) (i + 1) true (op + 1) (sy + 1) nu (zKp a sy (nI 4) (nI 0) (nI 0)) := by
  rw [show 41 - k = (41 - (k + 1)) + 1 by omega, zQ, if_neg (by omega), if_neg (by decide), if_neg (by omega), if_neg (by omega), if_pos h1]
theorem zQ_nm (hk : k < 41) (hi : i < n) (h1 : 97 ≤ c i ∧ c i ≤ 104) : zQ c n (41 - k) i true op sy nu a = zQ c n (41 - (k + 1)) (i + 1) false op (sy + 1) nu (zKp a sy (nI 1) (nI (c i - 97)) (nI 0)) := by
  rw [show 41 - k = (41 - (k + 1)) + 1 by omega, zQ, if_neg (by omega), if_neg (by decide), if_neg (by omega), if_neg (by omega), if_neg (by omega), if_pos h1]
theorem zQ_ct (hk : k < 41) (hi : i < n) (h1 : c i = 105) (h2 : zDr c 5 (i + 1) ≠ 0) (h3 : zDr c 5 (i + 1) ≠ 5) : zQ c n (41 - k) i true op sy nu a = zQ c n (41 - (k + 1)) (i + 1 + zDr c 5 (i + 1)) false op (sy + 1) (nu + 1) (zKp (va_up a 7 (va_up (a 7) nu (nI (zNm c (i + 1) (zDr c 5 (i + 1)))))) sy (nI 3) (nI nu) (nI 0)) := by
  rw [show 41 - k = (41 - (k + 1)) + 1 by omega, zQ, if_neg (by omega), if_neg (by decide), if_neg (by omega), if_neg (by omega), if_neg (by omega), if_neg (by omega), if_pos h1, if_neg (by omega)]
theorem zQ_cx (hk : k < 41) (hi : i < n) (h1 : c i = 105) (h2 : zDr c 5 (i + 1) = 0 ∨ zDr c 5 (i + 1) = 5) : zQ c n (41 - k) i true op sy nu a = none := by
  rw [show 41 - k = (41 - (k + 1)) + 1 by omega, zQ, if_neg (by omega), if_neg (by decide), if_neg (by omega), if_neg (by omega), if_neg (by omega), if_neg (by omega), if_pos h1, if_pos h2]
theorem zQ_cs (hk : k < 41) (hi : i < n) (h1 : zDg (c i) = true) {e9 : Nat} {vs : List Nat} (h2 : zMc c i = some (e9, vs)) : zQ c n (41 - k) i true op sy nu a = zQ c n (41 - (k + 1)) e9 false op (sy + 1) (nu + vs.length) (zKp (va_up a 7 (zNr (a 7) nu vs)) sy (nI 2) (nI nu) (nI vs.length)) := by
  have := zDg_iff.mp h1
  rw [show 41 - k = (41 - (k + 1)) + 1 by omega, zQ, if_neg (by omega), if_neg (by decide), if_neg (by omega), if_neg (by omega), if_neg (by omega), if_neg (by omega), if_neg (by omega), if_pos h1, h2]
theorem zQ_cy (hk : k < 41) (hi : i < n) (h1 : zDg (c i) = true) (h2 : zMc c i = none) : zQ c n (41 - k) i true op sy nu a = none := by
  have := zDg_iff.mp h1
  rw [show 41 - k = (41 - (k + 1)) + 1 by omega, zQ, if_neg (by omega), if_neg (by decide), if_neg (by omega), if_neg (by omega), if_neg (by omega), if_neg (by omega), if_neg (by omega), if_pos h1, h2]
theorem zQ_un (hk : k < 41) (hi : i < n) (h0 : ¬ (c i = 45 ∨ c i = 126)) (h1 : ¬ ((c i = 47 ∨ c i = 92) ∧ zRd (c (i + 1)) = true)) (h2 : c i ≠ 40) (h3 : ¬ (97 ≤ c i ∧ c i ≤ 104)) (h4 : c i ≠ 105) (h5 : zDg (c i) = false) : zQ c n (41 - k) i true op sy nu a = none := by
  rw [show 41 - k = (41 - (k + 1)) + 1 by omega, zQ, if_neg (by omega), if_neg (by decide), if_neg h0, if_neg h1, if_neg h2, if_neg h3, if_neg h4, if_neg (by rw [h5]; decide)]
end QQ
theorem nI_dec {op : Nat} (h : 0 < op) : zPr op = nI (op - 1) := by
  obtain ⟨k, rfl⟩ : ∃ k, op = k + 1 := ⟨op - 1, by omega⟩
  exact zPr_s k
theorem hd_X9_cut : yX9_cut.cls ≠ "java/lang/invoke/MethodHandle" ∧ yX9_cut.cls ≠ "java/lang/invoke/VarHandle" ∧ (parseMethodDescriptor yX9_cut.desc).map (fun d => d.parameters.length) = some 0 := by decide +kernel
set_option maxHeartbeats 4000000 in
set_option maxRecDepth 100000 in
theorem c_X9_cut {l : Launch} (hl9 : l.stackTraces = false) {D : va_G} {ct : Nat → ClassId} {ad : Nat → Nat} (g : Nat → Int32) (a : Nat → Nat → Int32) (d : Nat → Nat → UInt64) (n : Nat) (tx : Nat → Nat) (hn : n ≤ 40) (hlen : g 1 = nI n) (htx : ∀ j, j < n → a 1 j = nI (tx j)) (hcx : ∀ j, j < n → 1 ≤ tx j ∧ tx j ≤ 127) : ar_M l yX9_cut cX9_cut 7 (some .boolean) 4 89 D ct (mL ad ct) [.ref (ad 0)] (g, a, d) (fun v9 u9 => v9 = some (.int (bI (zQ (zCh tx n) n 41 0 true 0 0 0 a).isSome)) ∧ (∀ sy9 nu9 a9, zQ (zCh tx n) n 41 0 true 0 0 0 a = some (sy9, nu9, a9) → u9 = (zGq g sy9 nu9, a9, d) ∧ zFa a a9 ∧ sy9 ≤ 40 ∧ nu9 ≤ 40) ∧ (zQ (zCh tx n) n 41 0 true 0 0 0 a = none → ∃ (g2 : Nat → Int32) (a2 : Nat → Nat → Int32), zFg g g2 ∧ zFa a a2 ∧ u9 = (g2, a2, d))) (fun _ _ => False) := by
  refine ar_ofW hl9 (by decide) (Nat.le_of_ble_eq_true rfl) ?_
  intro p e s m below meth c A ls C hr hnm hW hl
  have hx := C.1
  have hb := C.2.1
  have hown := C.2.2.2.1
  have hts := C.2.2.2.2.1
  have hl : lv_has ls 7 [(0, .ref (ad 0))] := hl
  refine lv_aload_n hx hb dX9_cut_0 rfl (lv_at hl 0 rfl) ?_
  refine lv_iconst (v := nI 0) hx hb dX9_cut_1 (by decide) ?_
  refine mp_symbols C hW q595 dX9_cut_2 (fun H locs hW => ?_)
  refine lv_aload_n hx hb dX9_cut_5 rfl (lv_at hl 0 rfl) ?_
  refine lv_iconst (v := nI 0) hx hb dX9_cut_6 (by decide) ?_
  refine mp_numberCount C hW q596 dX9_cut_7 (fun H locs hW => ?_)
  refine lv_iconst (v := nI 0) hx hb dX9_cut_10 (by decide) ?_
  refine lv_istore_n (lv' := [(1, .int (nI 0)), (0, .ref (ad 0))]) hx hb dX9_cut_11 rfl hl (by decide) rfl (fun ls hl => ?_)
  refine lv_iconst (v := nI 1) hx hb dX9_cut_12 (by decide) ?_
  refine lv_istore_n (lv' := [(2, .int (nI 1)), (1, .int (nI 0)), (0, .ref (ad 0))]) hx hb dX9_cut_13 rfl hl (by decide) rfl (fun ls hl => ?_)
  refine lv_iconst (v := nI 0) hx hb dX9_cut_14 (by decide) ?_
  refine lv_istore_n (lv' := [(3, .int (nI 0)), (2, .int (nI 1)), (1, .int (nI 0)), (0, .ref (ad 0))]) hx hb dX9_cut_15 rfl hl (by decide) rfl (fun ls hl => ?_)
  refine lv_iconst (v := nI 0) hx hb dX9_cut_16 (by decide) ?_
  refine lv_istore (lv' := [(4, .int (nI 0)), (3, .int (nI 0)), (2, .int (nI 1)), (1, .int (nI 0)), (0, .ref (ad 0))]) hx hb dX9_cut_17 hl (by decide) rfl (fun ls hl => ?_)
  have lp : ∀ (N9 : Nat) (k : Nat) (i : Nat) (du : Bool) (op : Nat) (sy : Nat) (nu : Nat) (a2 : Nat → Nat → Int32) (H : Heap) (locs : List Loc) (ls : Array Slot), 41 - k < N9 → (k ≤ i ∧ i ≤ n) → (op ≤ i ∧ sy ≤ i ∧ nu ≤ i) → (zQ (zCh tx n) n 41 0 true 0 0 0 a = zQ (zCh tx n) n (41 - k) i du op sy nu a2) → (zFa a a2) → ar_W D A s.heap H locs (mL ad ct (zGq g sy nu, a2, d)) → lv_has ls 7 [(0, .ref (ad 0)), (1, .int (nI op)), (2, .int (bI du)), (3, .int (nI i)), (4, .int (nI k))] → W p l e (ar_rm 4 89) s m [.ref (ad 0)].toArray below meth c H locs 0 0 (ar_E below (ar_Q D ct (mL ad ct) A (fun v9 u9 => v9 = some (.int (bI (zQ (zCh tx n) n 41 0 true 0 0 0 a).isSome)) ∧ (∀ sy9 nu9 a9, zQ (zCh tx n) n 41 0 true 0 0 0 a = some (sy9, nu9, a9) → u9 = (zGq g sy9 nu9, a9, d) ∧ zFa a a9 ∧ sy9 ≤ 40 ∧ nu9 ≤ 40) ∧ (zQ (zCh tx n) n 41 0 true 0 0 0 a = none → ∃ (g2 : Nat → Int32) (a2 : Nat → Nat → Int32), zFg g g2 ∧ zFa a a2 ∧ u9 = (g2, a2, d))) (fun _ _ => False)) [.ref (ad 0)].toArray s) (F0 m 19 ls []) := by
    intro N9
    induction N9 with
    | zero =>
      intro k i du op sy nu a2 H locs ls hN9
      exact absurd hN9 (Nat.not_lt_zero _)
    | succ N9 ihlp =>
      intro k i du op sy nu a2 H locs ls hN9 hk hb9 hq hfa hW hl
      refine lv_iload hx hb dX9_cut_19 (lv_at hl 4 rfl) ?_
      refine lv_bipush (v := nI 41) hx hb dX9_cut_21 (by decide) ?_
      refine ln_icmp_ge (tgt := 288) hx hb dX9_cut_23 (by decide) (by omega) (by first | decide | omega) (fun h1 => ?_) (fun h1 => ?_)
      · skip
        exfalso; omega
      · skip
        refine lv_iload_n hx hb dX9_cut_26 rfl (lv_at hl 3 rfl) ?_
        refine ln_if_lt (tgt := 288) hx hb dX9_cut_27 (by decide) (by omega) ?_
        refine lv_iload_n hx hb dX9_cut_30 rfl (lv_at hl 3 rfl) ?_
        refine lv_aload_n hx hb dX9_cut_31 rfl (lv_at hl 0 rfl) ?_
        refine mg_length C hW q588 dX9_cut_32 ?_
        refine ln_top (hlen) ?_
        refine ln_icmp_ge (tgt := 288) hx hb dX9_cut_35 (by decide) (by omega) (by first | decide | omega) (fun h3 => ?_) (fun h3 => ?_)
        · skip
          have hlt9 := h3
          refine lv_iload_n hx hb dX9_cut_288 rfl (lv_at hl 3 rfl) ?_
          refine ln_if_lt (tgt := 304) hx hb dX9_cut_289 (by decide) (by omega) ?_
          refine lv_iload_n hx hb dX9_cut_292 rfl (lv_at hl 2 rfl) ?_
          refine lb_if_ne (tgt := 304) hx hb dX9_cut_293 (by decide) (fun h5 => ?_) (fun h5 => ?_)
          · skip
            have b293t := h5
            refine lv_iconst (v := nI 0) hx hb dX9_cut_304 (by decide) ?_
            exact ar_zret C hr (nI_z0.1) hW dX9_cut_305 ((fun hz : zQ (zCh tx n) n 41 0 true 0 0 0 a = none => ⟨congrArg (fun z => some (Value.int z)) (bI_f (by rw [hz]; rfl)), fun sy9 nu9 a9 h => absurd (hz.symm.trans h) (by intro q; cases q), fun _ => ⟨_, _, zGq_fg, hfa, rfl⟩⟩) (by rw [hq, zQ_e hlt9, if_neg (by rintro ⟨q1, q2⟩; first | exact b297t q2 | (rw [b293t] at q1; cases q1))]))
          · skip
            have b293f := h5
            refine lv_iload_n hx hb dX9_cut_296 rfl (lv_at hl 1 rfl) ?_
            refine ln_if_ne (tgt := 304) hx hb dX9_cut_297 (by decide) (by omega) (fun h6 => ?_) (fun h6 => ?_)
            · skip
              have b297t := h6
              refine lv_iconst (v := nI 0) hx hb dX9_cut_304 (by decide) ?_
              exact ar_zret C hr (nI_z0.1) hW dX9_cut_305 ((fun hz : zQ (zCh tx n) n 41 0 true 0 0 0 a = none => ⟨congrArg (fun z => some (Value.int z)) (bI_f (by rw [hz]; rfl)), fun sy9 nu9 a9 h => absurd (hz.symm.trans h) (by intro q; cases q), fun _ => ⟨_, _, zGq_fg, hfa, rfl⟩⟩) (by rw [hq, zQ_e hlt9, if_neg (by rintro ⟨q1, q2⟩; first | exact b297t q2 | (rw [b293t] at q1; cases q1))]))
            · skip
              have b297f := h6
              refine lv_iconst (v := nI 1) hx hb dX9_cut_300 (by decide) ?_
              refine lv_goto (tgt := 305) hx hb dX9_cut_301 (by decide) ?_
              exact ar_zret C hr (nI_z1.1) hW dX9_cut_305 ((fun hz : zQ (zCh tx n) n 41 0 true 0 0 0 a = some (sy, nu, a2) => ⟨congrArg (fun z => some (Value.int z)) (bI_t (by rw [hz]; rfl)), fun sy9 nu9 a9 h => by cases hz.symm.trans h; exact ⟨rfl, hfa, by omega, by omega⟩, fun h => absurd (hz.symm.trans h) (by intro q; cases q)⟩) (by rw [hq, zQ_e hlt9, if_pos ⟨b293f, b297f⟩]))
        · skip
          have hlt9 := h3
          have htx2 : ∀ j, j < n → a2 1 j = nI (tx j) := fun j hj => by rw [hfa 1 (Or.inl (by decide))]; exact htx j hj
          have hcl9 := zCh_lt (q := i) hcx
          have hcl8 := zCh_lt (q := i + 1) hcx
          refine lv_aload_n hx hb dX9_cut_38 rfl (lv_at hl 0 rfl) ?_
          refine mg_text C hW q587 dX9_cut_39 ?_
          refine lv_iload_n hx hb dX9_cut_42 rfl (lv_at hl 3 rfl) ?_
          refine ml_text (j := i) C hW (by omega) dX9_cut_43 ?_
          refine ln_top ((htx2 i hlt9).trans (congrArg nI (zCh_in hlt9).symm)) ?_
          refine lv_istore (lv' := [(5, .int (nI (zCh tx n i))), (0, .ref (ad 0)), (1, .int (nI op)), (2, .int (bI du)), (3, .int (nI i)), (4, .int (nI k))]) hx hb dX9_cut_44 hl (by decide) rfl (fun ls hl => ?_)
          refine lv_aload_n hx hb dX9_cut_46 rfl (lv_at hl 1 rfl) ?_
          refine lv_iload_n hx hb dX9_cut_47 rfl (lv_at hl 4 rfl) ?_
          refine lv_iconst (v := nI 1) hx hb dX9_cut_48 (by decide) ?_
          refine ln_iadd hx hb dX9_cut_49 ?_
          refine ar_callV (q0 := 0) (ci := 7) (T9 := TX9) (N9 := 27) (As := [.int (nI (i + 1))]) (rest := []) C hW (c_X9_charAt hl9 (zGq g sy nu) a2 d n tx hn hlen htx2 hcx (i + 1) (by omega)) (rfl) rfl q736 q738 qs4 q6 q739 hd_X9_charAt ⟨Nat.le_of_ble_eq_true rfl, Nat.le_of_ble_eq_true rfl⟩ hl.1 (Nat.le_of_ble_eq_true rfl) rfl dX9_cut_50 (fun _ _ _ _ _ _ hp => hp.elim) (fun v9 u9 H locs hp hW => ?_)
          obtain ⟨rfl, hu9⟩ := hp
          rw [hu9] at hW
          refine W.eq (g2 := F0 m 53 ls [.int (nI (zCh tx n (i + 1)))]) rfl ?_
          refine lv_istore (lv' := [(6, .int (nI (zCh tx n (i + 1)))), (5, .int (nI (zCh tx n i))), (0, .ref (ad 0)), (1, .int (nI op)), (2, .int (bI du)), (3, .int (nI i)), (4, .int (nI k))]) hx hb dX9_cut_53 hl (by decide) rfl (fun ls hl => ?_)
          refine ln_iinc (k := 5) (n := 1) (lv' := [(3, .int (nI (i + 1))), (6, .int (nI (zCh tx n (i + 1)))), (5, .int (nI (zCh tx n i))), (0, .ref (ad 0)), (1, .int (nI op)), (2, .int (bI du)), (4, .int (nI k))]) hx hb dX9_cut_55 hl rfl (by decide) rfl (fun ls hl => ?_)
          refine lv_iload_n hx hb dX9_cut_58 rfl (lv_at hl 5 rfl) ?_
          refine lb_if_ne (tgt := 110) hx hb dX9_cut_59 (by decide) (fun h7 => ?_) (fun h7 => ?_)
          · skip
            subst h7
            refine lv_iload hx hb dX9_cut_110 (lv_at hl 2 rfl) ?_
            refine lv_bipush (v := nI 45) hx hb dX9_cut_112 (by decide) ?_
            refine ln_icmp_eq (tgt := 124) hx hb dX9_cut_114 (by decide) (by omega) (by first | decide | omega) (fun h8 => ?_) (fun h8 => ?_)
            · skip
              have b114t := h8
              refine lv_aload_n hx hb dX9_cut_124 rfl (lv_at hl 3 rfl) ?_
              refine lv_bipush (v := nI 7) hx hb dX9_cut_125 (by decide) ?_
              refine lv_iload hx hb dX9_cut_127 (lv_at hl 2 rfl) ?_
              refine lv_iconst (v := nI 0) hx hb dX9_cut_129 (by decide) ?_
              refine ar_callV (q0 := 0) (ci := 7) (T9 := TX9) (N9 := 27) (As := [.int (nI 7), .int (nI (zCh tx n i)), .int (nI 0)]) (rest := []) C hW (c_X9_keep hl9 (zGq g sy nu) a2 d sy (by omega) rfl (nI 7) (nI (zCh tx n i)) (nI 0)) (rfl) rfl q740 q742 qs5 q6 q743 hd_X9_keep ⟨Nat.le_of_ble_eq_true rfl, Nat.le_of_ble_eq_true rfl⟩ hl.1 (Nat.le_of_ble_eq_true rfl) rfl dX9_cut_130 (fun _ _ _ _ _ _ hp => hp.elim) (fun v9 u9 H locs hp hW => ?_)
              obtain ⟨rfl, hu9⟩ := hp
              rw [hu9] at hW
              rw [zGq_8] at hW
              refine W.eq (g2 := F0 m 133 ls []) rfl ?_
              refine lv_goto (tgt := 282) hx hb dX9_cut_133 (by decide) ?_
              refine ln_iinc (k := 6) (n := 1) (lv' := [(4, .int (nI (k + 1))), (3, .int (nI (i + 1))), (6, .int (nI (zCh tx n (i + 1)))), (5, .int (nI (zCh tx n i))), (0, .ref (ad 0)), (1, .int (nI op)), (2, .int (bI true))]) hx hb dX9_cut_282 hl rfl (by decide) rfl (fun ls hl => ?_)
              refine lv_goto (tgt := 19) hx hb dX9_cut_285 (by decide) ?_
              exact ihlp (k + 1) (i + 1) true op (sy + 1) nu (zKp a2 sy (nI 7) (nI (zCh tx n i)) (nI 0)) _ _ _ (by omega) (⟨by omega, by omega⟩) (⟨by omega, by omega, by omega⟩) (by rw [hq, zQ_fr (by omega) hlt9 (by omega)]) (hfa.tr zFa_kp2) (hW) (lv_sub hl [4, 5, 6, 1, 0] rfl)
            · skip
              have b114f := h8
              refine lv_iload hx hb dX9_cut_117 (lv_at hl 2 rfl) ?_
              refine lv_bipush (v := nI 126) hx hb dX9_cut_119 (by decide) ?_
              refine ln_icmp_ne (tgt := 136) hx hb dX9_cut_121 (by decide) (by omega) (by first | decide | omega) (fun h9 => ?_) (fun h9 => ?_)
              · skip
                have b121t := h9
                refine lv_iload hx hb dX9_cut_136 (lv_at hl 2 rfl) ?_
                refine lv_bipush (v := nI 47) hx hb dX9_cut_138 (by decide) ?_
                refine ln_icmp_eq (tgt := 150) hx hb dX9_cut_140 (by decide) (by omega) (by first | decide | omega) (fun h10 => ?_) (fun h10 => ?_)
                · skip
                  have b140t := h10
                  refine lv_iload hx hb dX9_cut_150 (lv_at hl 1 rfl) ?_
                  refine ar_callS (As := [.int (nI (zCh tx n (i + 1)))]) (rest := []) C hW (c_X9_reduces hl9 _ (zCh tx n (i + 1)) (by omega)) q747 q748 q6 q749 hd_X9_reduces ⟨Nat.le_of_ble_eq_true rfl, Nat.le_of_ble_eq_true rfl⟩ hl.1 (Nat.le_of_ble_eq_true rfl) rfl dX9_cut_152 (fun _ _ _ _ _ _ hp => hp.elim) (fun v9 u9 H locs hp hW => ?_)
                  obtain ⟨rfl, hu9⟩ := hp
                  rw [hu9] at hW
                  refine W.eq (g2 := F0 m 155 ls [.int (bI (zRd (zCh tx n (i + 1))))]) rfl ?_
                  refine lb_if_eq (tgt := 185) hx hb dX9_cut_155 (by decide) (fun h11 => ?_) (fun h11 => ?_)
                  · skip
                    have b155t := h11
                    refine lv_iload hx hb dX9_cut_185 (lv_at hl 2 rfl) ?_
                    refine lv_bipush (v := nI 40) hx hb dX9_cut_187 (by decide) ?_
                    refine ln_icmp_ne (tgt := 205) hx hb dX9_cut_189 (by decide) (by omega) (by first | decide | omega) (fun h12 => ?_) (fun h12 => ?_)
                    · skip
                      have b189t := h12
                      refine lv_iconst (v := nI 0) hx hb dX9_cut_205 (by decide) ?_
                      refine lv_istore_n (lv' := [(2, .int (nI 0)), (3, .int (nI (i + 1))), (6, .int (nI (zCh tx n (i + 1)))), (5, .int (nI (zCh tx n i))), (0, .ref (ad 0)), (1, .int (nI op)), (4, .int (nI k))]) hx hb dX9_cut_206 rfl hl (by decide) rfl (fun ls hl => ?_)
                      refine lv_iload hx hb dX9_cut_207 (lv_at hl 3 rfl) ?_
                      refine lv_bipush (v := nI 97) hx hb dX9_cut_209 (by decide) ?_
                      refine lv_bipush (v := nI 104) hx hb dX9_cut_211 (by decide) ?_
                      refine ar_callS (As := [.int (nI (zCh tx n i)), .int (nI 97), .int (nI 104)]) (rest := []) C hW (c_X9_within hl9 _ (nI (zCh tx n i)) (nI 97) (nI 104)) q686 q687 q6 q688 hd_X9_within ⟨Nat.le_of_ble_eq_true rfl, Nat.le_of_ble_eq_true rfl⟩ hl.1 (Nat.le_of_ble_eq_true rfl) rfl dX9_cut_213 (fun _ _ _ _ _ _ hp => hp.elim) (fun v9 u9 H locs hp hW => ?_)
                      obtain ⟨rfl, hu9⟩ := hp
                      rw [hu9] at hW
                      refine W.eq (g2 := F0 m 216 ls [.int (bI (zIn (nI (zCh tx n i)) (nI 97) (nI 104)))]) rfl ?_
                      refine lb_if_eq (tgt := 233) hx hb dX9_cut_216 (by decide) (fun h13 => ?_) (fun h13 => ?_)
                      · skip
                        rw [zIn_nat (by omega) (by decide) (by decide)] at h13
                        have b216t := of_decide_eq_false h13
                        refine lv_iload hx hb dX9_cut_233 (lv_at hl 3 rfl) ?_
                        refine lv_bipush (v := nI 105) hx hb dX9_cut_235 (by decide) ?_
                        refine ln_icmp_ne (tgt := 261) hx hb dX9_cut_237 (by decide) (by omega) (by first | decide | omega) (fun h14 => ?_) (fun h14 => ?_)
                        · skip
                          have b237t := h14
                          refine lv_iload hx hb dX9_cut_261 (lv_at hl 3 rfl) ?_
                          refine ar_callS (As := [.int (nI (zCh tx n i))]) (rest := []) C hW (c_X9_isDigit hl9 _ (nI (zCh tx n i))) q754 q755 q6 q756 hd_X9_isDigit ⟨Nat.le_of_ble_eq_true rfl, Nat.le_of_ble_eq_true rfl⟩ hl.1 (Nat.le_of_ble_eq_true rfl) rfl dX9_cut_263 (fun _ _ _ _ _ _ hp => hp.elim) (fun v9 u9 H locs hp hW => ?_)
                          obtain ⟨rfl, hu9⟩ := hp
                          rw [hu9] at hW
                          refine W.eq (g2 := F0 m 266 ls [.int (bI (zIn (nI (zCh tx n i)) (nI 48) (nI 57)))]) rfl ?_
                          refine lb_if_eq (tgt := 280) hx hb dX9_cut_266 (by decide) (fun h15 => ?_) (fun h15 => ?_)
                          · skip
                            rw [zIn_nat (by omega) (by decide) (by decide)] at h15
                            have b266t : zDg (zCh tx n i) = false := h15
                            refine lv_iconst (v := nI 0) hx hb dX9_cut_280 (by decide) ?_
                            exact ar_zret C hr (nI_z0.1) hW dX9_cut_281 ((fun hz : zQ (zCh tx n) n 41 0 true 0 0 0 a = none => ⟨congrArg (fun z => some (Value.int z)) (bI_f (by rw [hz]; rfl)), fun sy9 nu9 a9 h => absurd (hz.symm.trans h) (by intro q; cases q), fun _ => ⟨_, _, zGq_fg, hfa, rfl⟩⟩) (by rw [hq, zQ_un (by omega) hlt9 (by omega) (by rintro ⟨q1, q2⟩; first | omega | (rw [b155t] at q2; cases q2)) b189t b216t b237t b266t]))
                          · skip
                            rw [zIn_nat (by omega) (by decide) (by decide)] at h15
                            have hdg : zDg (zCh tx n i) = true := h15
                            refine lv_aload_n hx hb dX9_cut_269 rfl (lv_at hl 4 rfl) ?_
                            refine lv_iload_n hx hb dX9_cut_270 rfl (lv_at hl 1 rfl) ?_
                            refine lv_iconst (v := nI 1) hx hb dX9_cut_271 (by decide) ?_
                            refine ln_isub hx hb dX9_cut_272 (by omega) ?_
                            refine ar_callV (q0 := 0) (ci := 7) (T9 := TX9) (N9 := 27) (As := [.int (nI ((i + 1) - 1))]) (rest := []) C hW (c_X9_constant hl9 (zGq g sy nu) a2 d n tx hn hlen htx2 hcx i (by omega) hdg nu (by omega) rfl sy (by omega) rfl) (rfl) rfl q757 q759 qs7 q6 q760 hd_X9_constant ⟨Nat.le_of_ble_eq_true rfl, Nat.le_of_ble_eq_true rfl⟩ hl.1 (Nat.le_of_ble_eq_true rfl) rfl dX9_cut_273 (fun _ _ _ _ _ _ hp => hp.elim) (fun v9 u9 H locs hp hW => ?_)
                            rcases hp with ⟨e9, vs, hz1, hz2, hz3, hz4, hz6, rfl, hu9⟩ | ⟨hz1, rfl, g3, a3, hg3, ha3, hu9⟩
                            · skip
                              rw [hu9, zGq_9, zGq_8] at hW
                              refine W.eq (g2 := F0 m 276 ls [.int (nI e9)]) rfl ?_
                              refine lv_istore_n (lv' := [(3, .int (nI e9)), (2, .int (nI 0)), (6, .int (nI (zCh tx n (i + 1)))), (5, .int (nI (zCh tx n i))), (0, .ref (ad 0)), (1, .int (nI op)), (4, .int (nI k))]) hx hb dX9_cut_276 rfl hl (by decide) rfl (fun ls hl => ?_)
                              refine lv_goto (tgt := 282) hx hb dX9_cut_277 (by decide) ?_
                              refine ln_iinc (k := 6) (n := 1) (lv' := [(4, .int (nI (k + 1))), (3, .int (nI e9)), (2, .int (nI 0)), (6, .int (nI (zCh tx n (i + 1)))), (5, .int (nI (zCh tx n i))), (0, .ref (ad 0)), (1, .int (nI op))]) hx hb dX9_cut_282 hl rfl (by decide) rfl (fun ls hl => ?_)
                              refine lv_goto (tgt := 19) hx hb dX9_cut_285 (by decide) ?_
                              exact ihlp (k + 1) e9 false op (sy + 1) (nu + vs.length) (zKp (va_up a2 7 (zNr (a2 7) nu vs)) sy (nI 2) (nI nu) (nI vs.length)) _ _ _ (by omega) (⟨by omega, by omega⟩) (⟨by omega, by omega, by omega⟩) (by rw [hq, zQ_cs (by omega) hlt9 hdg hz1]) (hfa.tr zFa_kp) (hW) (lv_sub hl [5, 6, 2, 1, 0] rfl)
                            · skip
                              rw [hu9] at hW
                              refine W.eq (g2 := F0 m 276 ls [.int ((-1))]) rfl ?_
                              refine lv_istore_n (lv' := [(3, .int ((-1))), (2, .int (nI 0)), (6, .int (nI (zCh tx n (i + 1)))), (5, .int (nI (zCh tx n i))), (0, .ref (ad 0)), (1, .int (nI op)), (4, .int (nI k))]) hx hb dX9_cut_276 rfl hl (by decide) rfl (fun ls hl => ?_)
                              refine lv_goto (tgt := 282) hx hb dX9_cut_277 (by decide) ?_
                              refine ln_iinc (k := 6) (n := 1) (lv' := [(4, .int (nI (k + 1))), (3, .int ((-1))), (2, .int (nI 0)), (6, .int (nI (zCh tx n (i + 1)))), (5, .int (nI (zCh tx n i))), (0, .ref (ad 0)), (1, .int (nI op))]) hx hb dX9_cut_282 hl rfl (by decide) rfl (fun ls hl => ?_)
                              refine lv_goto (tgt := 19) hx hb dX9_cut_285 (by decide) ?_
                              refine lv_iload hx hb dX9_cut_19 (lv_at hl 0 rfl) ?_
                              refine lv_bipush (v := nI 41) hx hb dX9_cut_21 (by decide) ?_
                              refine ln_icmp_ge (tgt := 288) hx hb dX9_cut_23 (by decide) (by omega) (by first | decide | omega) (fun h16 => ?_) (fun h16 => ?_)
                              · skip
                                refine lv_iload_n hx hb dX9_cut_288 rfl (lv_at hl 1 rfl) ?_
                                refine lv_if_lt (tgt := 304) hx hb dX9_cut_289 (by decide) (fun h17 => ?_) (fun h17 => ?_)
                                · skip
                                  refine lv_iconst (v := nI 0) hx hb dX9_cut_304 (by decide) ?_
                                  exact ar_zret C hr (nI_z0.1) hW dX9_cut_305 ((fun hz : zQ (zCh tx n) n 41 0 true 0 0 0 a = none => ⟨congrArg (fun z => some (Value.int z)) (bI_f (by rw [hz]; rfl)), fun sy9 nu9 a9 h => absurd (hz.symm.trans h) (by intro q; cases q), fun _ => ⟨_, _, zGq_fg.tr hg3, hfa.tr ha3, rfl⟩⟩) (by rw [hq, zQ_cy (by omega) hlt9 hdg hz1]))
                                · skip
                                  exact absurd (by decide) h17
                              · skip
                                refine lv_iload_n hx hb dX9_cut_26 rfl (lv_at hl 1 rfl) ?_
                                refine lv_if_lt (tgt := 288) hx hb dX9_cut_27 (by decide) (fun h18 => ?_) (fun h18 => ?_)
                                · skip
                                  refine lv_iload_n hx hb dX9_cut_288 rfl (lv_at hl 1 rfl) ?_
                                  refine lv_if_lt (tgt := 304) hx hb dX9_cut_289 (by decide) (fun h19 => ?_) (fun h19 => ?_)
                                  · skip
                                    refine lv_iconst (v := nI 0) hx hb dX9_cut_304 (by decide) ?_
                                    exact ar_zret C hr (nI_z0.1) hW dX9_cut_305 ((fun hz : zQ (zCh tx n) n 41 0 true 0 0 0 a = none => ⟨congrArg (fun z => some (Value.int z)) (bI_f (by rw [hz]; rfl)), fun sy9 nu9 a9 h => absurd (hz.symm.trans h) (by intro q; cases q), fun _ => ⟨_, _, zGq_fg.tr hg3, hfa.tr ha3, rfl⟩⟩) (by rw [hq, zQ_cy (by omega) hlt9 hdg hz1]))
                                  · skip
                                    exact absurd (by decide) h19
                                · skip
                                  exact absurd (by decide) h18
                        · skip
                          have b237f := h14
                          refine lv_aload_n hx hb dX9_cut_240 rfl (lv_at hl 4 rfl) ?_
                          refine lv_iload_n hx hb dX9_cut_241 rfl (lv_at hl 1 rfl) ?_
                          refine ar_callV (q0 := 0) (ci := 7) (T9 := TX9) (N9 := 27) (As := [.int (nI (i + 1))]) (rest := []) C hW (c_X9_number hl9 (zGq g sy nu) a2 d n tx hn hlen htx2 hcx (i + 1) (by omega) nu (by omega) rfl) (rfl) rfl q750 q752 qs6 q6 q753 hd_X9_number ⟨Nat.le_of_ble_eq_true rfl, Nat.le_of_ble_eq_true rfl⟩ hl.1 (Nat.le_of_ble_eq_true rfl) rfl dX9_cut_242 (fun _ _ _ _ _ _ hp => hp.elim) (fun v9 u9 H locs hp hW => ?_)
                          rcases hp with ⟨hz0, hz5, rfl, hu9⟩ | ⟨hz5, rfl, hu9⟩
                          · skip
                            rw [hu9, zGq_9] at hW
                            have hzi := zDr_in (tx := tx) (n := n) (q := i + 1) (k := 5) (by omega)
                            refine W.eq (g2 := F0 m 245 ls [.int (nI ((i + 1) + zDr (zCh tx n) 5 (i + 1)))]) rfl ?_
                            refine lv_istore_n (lv' := [(3, .int (nI ((i + 1) + zDr (zCh tx n) 5 (i + 1)))), (2, .int (nI 0)), (6, .int (nI (zCh tx n (i + 1)))), (5, .int (nI (zCh tx n i))), (0, .ref (ad 0)), (1, .int (nI op)), (4, .int (nI k))]) hx hb dX9_cut_245 rfl hl (by decide) rfl (fun ls hl => ?_)
                            refine lv_aload_n hx hb dX9_cut_246 rfl (lv_at hl 4 rfl) ?_
                            refine lv_iconst (v := nI 3) hx hb dX9_cut_247 (by decide) ?_
                            refine lv_aload_n hx hb dX9_cut_248 rfl (lv_at hl 4 rfl) ?_
                            refine mg_numberCount C hW q596 dX9_cut_249 ?_
                            refine ln_top (rfl) ?_
                            refine lv_iconst (v := nI 1) hx hb dX9_cut_252 (by decide) ?_
                            refine ln_isub hx hb dX9_cut_253 (by omega) ?_
                            refine lv_iconst (v := nI 0) hx hb dX9_cut_254 (by decide) ?_
                            refine ar_callV (q0 := 0) (ci := 7) (T9 := TX9) (N9 := 27) (As := [.int (nI 3), .int (nI ((nu + 1) - 1)), .int (nI 0)]) (rest := []) C hW (c_X9_keep hl9 (zGq g sy (nu + 1)) (va_up a2 7 (va_up (a2 7) nu (nI (zNm (zCh tx n) (i + 1) (zDr (zCh tx n) 5 (i + 1)))))) d sy (by omega) rfl (nI 3) (nI ((nu + 1) - 1)) (nI 0)) (rfl) rfl q740 q742 qs5 q6 q743 hd_X9_keep ⟨Nat.le_of_ble_eq_true rfl, Nat.le_of_ble_eq_true rfl⟩ hl.1 (Nat.le_of_ble_eq_true rfl) rfl dX9_cut_255 (fun _ _ _ _ _ _ hp => hp.elim) (fun v9 u9 H locs hp hW => ?_)
                            obtain ⟨rfl, hu9⟩ := hp
                            rw [hu9] at hW
                            rw [zGq_8] at hW
                            refine W.eq (g2 := F0 m 258 ls []) rfl ?_
                            refine lv_goto (tgt := 282) hx hb dX9_cut_258 (by decide) ?_
                            refine ln_iinc (k := 6) (n := 1) (lv' := [(4, .int (nI (k + 1))), (3, .int (nI ((i + 1) + zDr (zCh tx n) 5 (i + 1)))), (2, .int (nI 0)), (6, .int (nI (zCh tx n (i + 1)))), (5, .int (nI (zCh tx n i))), (0, .ref (ad 0)), (1, .int (nI op))]) hx hb dX9_cut_282 hl rfl (by decide) rfl (fun ls hl => ?_)
                            refine lv_goto (tgt := 19) hx hb dX9_cut_285 (by decide) ?_
                            exact ihlp (k + 1) ((i + 1) + zDr (zCh tx n) 5 (i + 1)) false op (sy + 1) (nu + 1) (zKp (va_up a2 7 (va_up (a2 7) nu (nI (zNm (zCh tx n) (i + 1) (zDr (zCh tx n) 5 (i + 1)))))) sy (nI 3) (nI ((nu + 1) - 1)) (nI 0)) _ _ _ (by omega) (⟨by omega, by omega⟩) (⟨by omega, by omega, by omega⟩) (by rw [hq, zQ_ct (by omega) hlt9 b237f hz0 hz5]; rfl) (hfa.tr zFa_kp) (hW) (lv_sub hl [5, 6, 2, 1, 0] rfl)
                          · skip
                            rw [hu9] at hW
                            refine W.eq (g2 := F0 m 245 ls [.int ((-1))]) rfl ?_
                            refine lv_istore_n (lv' := [(3, .int ((-1))), (2, .int (nI 0)), (6, .int (nI (zCh tx n (i + 1)))), (5, .int (nI (zCh tx n i))), (0, .ref (ad 0)), (1, .int (nI op)), (4, .int (nI k))]) hx hb dX9_cut_245 rfl hl (by decide) rfl (fun ls hl => ?_)
                            refine lv_aload_n hx hb dX9_cut_246 rfl (lv_at hl 4 rfl) ?_
                            refine lv_iconst (v := nI 3) hx hb dX9_cut_247 (by decide) ?_
                            refine lv_aload_n hx hb dX9_cut_248 rfl (lv_at hl 4 rfl) ?_
                            refine mg_numberCount C hW q596 dX9_cut_249 ?_
                            refine ln_top (rfl) ?_
                            refine lv_iconst (v := nI 1) hx hb dX9_cut_252 (by decide) ?_
                            refine lv_isub hx hb dX9_cut_253 ?_
                            refine lv_iconst (v := nI 0) hx hb dX9_cut_254 (by decide) ?_
                            refine ar_callV (q0 := 0) (ci := 7) (T9 := TX9) (N9 := 27) (As := [.int (nI 3), .int ((nI nu) - nI 1), .int (nI 0)]) (rest := []) C hW (c_X9_keep hl9 (zGq g sy nu) a2 d sy (by omega) rfl (nI 3) ((nI nu) - nI 1) (nI 0)) (rfl) rfl q740 q742 qs5 q6 q743 hd_X9_keep ⟨Nat.le_of_ble_eq_true rfl, Nat.le_of_ble_eq_true rfl⟩ hl.1 (Nat.le_of_ble_eq_true rfl) rfl dX9_cut_255 (fun _ _ _ _ _ _ hp => hp.elim) (fun v9 u9 H locs hp hW => ?_)
                            obtain ⟨rfl, hu9⟩ := hp
                            rw [hu9] at hW
                            rw [zGq_8] at hW
                            refine W.eq (g2 := F0 m 258 ls []) rfl ?_
                            refine lv_goto (tgt := 282) hx hb dX9_cut_258 (by decide) ?_
                            refine ln_iinc (k := 6) (n := 1) (lv' := [(4, .int (nI (k + 1))), (3, .int ((-1))), (2, .int (nI 0)), (6, .int (nI (zCh tx n (i + 1)))), (5, .int (nI (zCh tx n i))), (0, .ref (ad 0)), (1, .int (nI op))]) hx hb dX9_cut_282 hl rfl (by decide) rfl (fun ls hl => ?_)
                            refine lv_goto (tgt := 19) hx hb dX9_cut_285 (by decide) ?_
                            refine lv_iload hx hb dX9_cut_19 (lv_at hl 0 rfl) ?_
                            refine lv_bipush (v := nI 41) hx hb dX9_cut_21 (by decide) ?_
                            refine ln_icmp_ge (tgt := 288) hx hb dX9_cut_23 (by decide) (by omega) (by first | decide | omega) (fun h20 => ?_) (fun h20 => ?_)
                            · skip
                              refine lv_iload_n hx hb dX9_cut_288 rfl (lv_at hl 1 rfl) ?_
                              refine lv_if_lt (tgt := 304) hx hb dX9_cut_289 (by decide) (fun h21 => ?_) (fun h21 => ?_)
                              · skip
                                refine lv_iconst (v := nI 0) hx hb dX9_cut_304 (by decide) ?_
                                exact ar_zret C hr (nI_z0.1) hW dX9_cut_305 ((fun hz : zQ (zCh tx n) n 41 0 true 0 0 0 a = none => ⟨congrArg (fun z => some (Value.int z)) (bI_f (by rw [hz]; rfl)), fun sy9 nu9 a9 h => absurd (hz.symm.trans h) (by intro q; cases q), fun _ => ⟨_, _, zGq_fg, hfa.tr zFa_kp2, rfl⟩⟩) (by rw [hq, zQ_cx (by omega) hlt9 b237f hz5]))
                              · skip
                                exact absurd (by decide) h21
                            · skip
                              refine lv_iload_n hx hb dX9_cut_26 rfl (lv_at hl 1 rfl) ?_
                              refine lv_if_lt (tgt := 288) hx hb dX9_cut_27 (by decide) (fun h22 => ?_) (fun h22 => ?_)
                              · skip
                                refine lv_iload_n hx hb dX9_cut_288 rfl (lv_at hl 1 rfl) ?_
                                refine lv_if_lt (tgt := 304) hx hb dX9_cut_289 (by decide) (fun h23 => ?_) (fun h23 => ?_)
                                · skip
                                  refine lv_iconst (v := nI 0) hx hb dX9_cut_304 (by decide) ?_
                                  exact ar_zret C hr (nI_z0.1) hW dX9_cut_305 ((fun hz : zQ (zCh tx n) n 41 0 true 0 0 0 a = none => ⟨congrArg (fun z => some (Value.int z)) (bI_f (by rw [hz]; rfl)), fun sy9 nu9 a9 h => absurd (hz.symm.trans h) (by intro q; cases q), fun _ => ⟨_, _, zGq_fg, hfa.tr zFa_kp2, rfl⟩⟩) (by rw [hq, zQ_cx (by omega) hlt9 b237f hz5]))
                                · skip
                                  exact absurd (by decide) h23
                              · skip
                                exact absurd (by decide) h22
                      · skip
                        rw [zIn_nat (by omega) (by decide) (by decide)] at h13
                        have b216f := of_decide_eq_true h13
                        refine lv_aload_n hx hb dX9_cut_219 rfl (lv_at hl 4 rfl) ?_
                        refine lv_iconst (v := nI 1) hx hb dX9_cut_220 (by decide) ?_
                        refine lv_iload hx hb dX9_cut_221 (lv_at hl 3 rfl) ?_
                        refine lv_bipush (v := nI 97) hx hb dX9_cut_223 (by decide) ?_
                        refine ln_isub hx hb dX9_cut_225 (by omega) ?_
                        refine lv_iconst (v := nI 0) hx hb dX9_cut_226 (by decide) ?_
                        refine ar_callV (q0 := 0) (ci := 7) (T9 := TX9) (N9 := 27) (As := [.int (nI 1), .int (nI ((zCh tx n i) - 97)), .int (nI 0)]) (rest := []) C hW (c_X9_keep hl9 (zGq g sy nu) a2 d sy (by omega) rfl (nI 1) (nI ((zCh tx n i) - 97)) (nI 0)) (rfl) rfl q740 q742 qs5 q6 q743 hd_X9_keep ⟨Nat.le_of_ble_eq_true rfl, Nat.le_of_ble_eq_true rfl⟩ hl.1 (Nat.le_of_ble_eq_true rfl) rfl dX9_cut_227 (fun _ _ _ _ _ _ hp => hp.elim) (fun v9 u9 H locs hp hW => ?_)
                        obtain ⟨rfl, hu9⟩ := hp
                        rw [hu9] at hW
                        rw [zGq_8] at hW
                        refine W.eq (g2 := F0 m 230 ls []) rfl ?_
                        refine lv_goto (tgt := 282) hx hb dX9_cut_230 (by decide) ?_
                        refine ln_iinc (k := 6) (n := 1) (lv' := [(4, .int (nI (k + 1))), (2, .int (nI 0)), (3, .int (nI (i + 1))), (6, .int (nI (zCh tx n (i + 1)))), (5, .int (nI (zCh tx n i))), (0, .ref (ad 0)), (1, .int (nI op))]) hx hb dX9_cut_282 hl rfl (by decide) rfl (fun ls hl => ?_)
                        refine lv_goto (tgt := 19) hx hb dX9_cut_285 (by decide) ?_
                        exact ihlp (k + 1) (i + 1) false op (sy + 1) nu (zKp a2 sy (nI 1) (nI ((zCh tx n i) - 97)) (nI 0)) _ _ _ (by omega) (⟨by omega, by omega⟩) (⟨by omega, by omega, by omega⟩) (by rw [hq, zQ_nm (by omega) hlt9 b216f]) (hfa.tr zFa_kp2) (hW) (lv_sub hl [5, 6, 1, 2, 0] rfl)
                    · skip
                      have b189f := h12
                      refine ln_iinc (k := 4) (n := 1) (lv' := [(1, .int (nI (op + 1))), (3, .int (nI (i + 1))), (6, .int (nI (zCh tx n (i + 1)))), (5, .int (nI (zCh tx n i))), (0, .ref (ad 0)), (2, .int (bI true)), (4, .int (nI k))]) hx hb dX9_cut_192 hl rfl (by decide) rfl (fun ls hl => ?_)
                      refine lv_aload_n hx hb dX9_cut_195 rfl (lv_at hl 4 rfl) ?_
                      refine lv_iconst (v := nI 4) hx hb dX9_cut_196 (by decide) ?_
                      refine lv_iconst (v := nI 0) hx hb dX9_cut_197 (by decide) ?_
                      refine lv_iconst (v := nI 0) hx hb dX9_cut_198 (by decide) ?_
                      refine ar_callV (q0 := 0) (ci := 7) (T9 := TX9) (N9 := 27) (As := [.int (nI 4), .int (nI 0), .int (nI 0)]) (rest := []) C hW (c_X9_keep hl9 (zGq g sy nu) a2 d sy (by omega) rfl (nI 4) (nI 0) (nI 0)) (rfl) rfl q740 q742 qs5 q6 q743 hd_X9_keep ⟨Nat.le_of_ble_eq_true rfl, Nat.le_of_ble_eq_true rfl⟩ hl.1 (Nat.le_of_ble_eq_true rfl) rfl dX9_cut_199 (fun _ _ _ _ _ _ hp => hp.elim) (fun v9 u9 H locs hp hW => ?_)
                      obtain ⟨rfl, hu9⟩ := hp
                      rw [hu9] at hW
                      rw [zGq_8] at hW
                      refine W.eq (g2 := F0 m 202 ls []) rfl ?_
                      refine lv_goto (tgt := 282) hx hb dX9_cut_202 (by decide) ?_
                      refine ln_iinc (k := 6) (n := 1) (lv' := [(4, .int (nI (k + 1))), (1, .int (nI (op + 1))), (3, .int (nI (i + 1))), (6, .int (nI (zCh tx n (i + 1)))), (5, .int (nI (zCh tx n i))), (0, .ref (ad 0)), (2, .int (bI true))]) hx hb dX9_cut_282 hl rfl (by decide) rfl (fun ls hl => ?_)
                      refine lv_goto (tgt := 19) hx hb dX9_cut_285 (by decide) ?_
                      exact ihlp (k + 1) (i + 1) true (op + 1) (sy + 1) nu (zKp a2 sy (nI 4) (nI 0) (nI 0)) _ _ _ (by omega) (⟨by omega, by omega⟩) (⟨by omega, by omega, by omega⟩) (by rw [hq, zQ_op (by omega) hlt9 b189f]) (hfa.tr zFa_kp2) (hW) (lv_sub hl [5, 1, 6, 2, 0] rfl)
                  · skip
                    have b155f := h11
                    have hi2 : i + 1 < n := zCh_pos (tx := tx) (by intro h77; rw [h77] at b155f; cases b155f)
                    refine lv_aload_n hx hb dX9_cut_158 rfl (lv_at hl 3 rfl) ?_
                    refine lv_iload hx hb dX9_cut_159 (lv_at hl 2 rfl) ?_
                    refine lv_bipush (v := nI 47) hx hb dX9_cut_161 (by decide) ?_
                    refine ln_icmp_ne (tgt := 171) hx hb dX9_cut_163 (by decide) (by omega) (by first | decide | omega) (fun h24 => ?_) (fun h24 => ?_)
                    · skip
                      have b163t := h24
                      refine lv_bipush (v := nI 9) hx hb dX9_cut_171 (by decide) ?_
                      refine lv_iload hx hb dX9_cut_173 (lv_at hl 1 rfl) ?_
                      refine lv_iconst (v := nI 0) hx hb dX9_cut_175 (by decide) ?_
                      refine ar_callV (q0 := 0) (ci := 7) (T9 := TX9) (N9 := 27) (As := [.int (nI 9), .int (nI (zCh tx n (i + 1))), .int (nI 0)]) (rest := []) C hW (c_X9_keep hl9 (zGq g sy nu) a2 d sy (by omega) rfl (nI 9) (nI (zCh tx n (i + 1))) (nI 0)) (rfl) rfl q740 q742 qs5 q6 q743 hd_X9_keep ⟨Nat.le_of_ble_eq_true rfl, Nat.le_of_ble_eq_true rfl⟩ hl.1 (Nat.le_of_ble_eq_true rfl) rfl dX9_cut_176 (fun _ _ _ _ _ _ hp => hp.elim) (fun v9 u9 H locs hp hW => ?_)
                      obtain ⟨rfl, hu9⟩ := hp
                      rw [hu9] at hW
                      rw [zGq_8] at hW
                      refine W.eq (g2 := F0 m 179 ls []) rfl ?_
                      refine ln_iinc (k := 0) (n := 1) (lv' := [(3, .int (nI ((i + 1) + 1))), (6, .int (nI (zCh tx n (i + 1)))), (5, .int (nI (zCh tx n i))), (0, .ref (ad 0)), (1, .int (nI op)), (2, .int (bI true)), (4, .int (nI k))]) hx hb dX9_cut_179 hl rfl (by decide) rfl (fun ls hl => ?_)
                      refine lv_goto (tgt := 282) hx hb dX9_cut_182 (by decide) ?_
                      refine ln_iinc (k := 6) (n := 1) (lv' := [(4, .int (nI (k + 1))), (3, .int (nI ((i + 1) + 1))), (6, .int (nI (zCh tx n (i + 1)))), (5, .int (nI (zCh tx n i))), (0, .ref (ad 0)), (1, .int (nI op)), (2, .int (bI true))]) hx hb dX9_cut_282 hl rfl (by decide) rfl (fun ls hl => ?_)
                      refine lv_goto (tgt := 19) hx hb dX9_cut_285 (by decide) ?_
                      exact ihlp (k + 1) ((i + 1) + 1) true op (sy + 1) nu (zKp a2 sy (nI 9) (nI (zCh tx n (i + 1))) (nI 0)) _ _ _ (by omega) (⟨by omega, by omega⟩) (⟨by omega, by omega, by omega⟩) (by rw [hq, zQ_rd (by omega) hlt9 (by omega) b155f, if_neg b163t]) (hfa.tr zFa_kp2) (hW) (lv_sub hl [4, 5, 6, 1, 0] rfl)
                    · skip
                      have b163f := h24
                      refine lv_bipush (v := nI 8) hx hb dX9_cut_166 (by decide) ?_
                      refine lv_goto (tgt := 173) hx hb dX9_cut_168 (by decide) ?_
                      refine lv_iload hx hb dX9_cut_173 (lv_at hl 1 rfl) ?_
                      refine lv_iconst (v := nI 0) hx hb dX9_cut_175 (by decide) ?_
                      refine ar_callV (q0 := 0) (ci := 7) (T9 := TX9) (N9 := 27) (As := [.int (nI 8), .int (nI (zCh tx n (i + 1))), .int (nI 0)]) (rest := []) C hW (c_X9_keep hl9 (zGq g sy nu) a2 d sy (by omega) rfl (nI 8) (nI (zCh tx n (i + 1))) (nI 0)) (rfl) rfl q740 q742 qs5 q6 q743 hd_X9_keep ⟨Nat.le_of_ble_eq_true rfl, Nat.le_of_ble_eq_true rfl⟩ hl.1 (Nat.le_of_ble_eq_true rfl) rfl dX9_cut_176 (fun _ _ _ _ _ _ hp => hp.elim) (fun v9 u9 H locs hp hW => ?_)
                      obtain ⟨rfl, hu9⟩ := hp
                      rw [hu9] at hW
                      rw [zGq_8] at hW
                      refine W.eq (g2 := F0 m 179 ls []) rfl ?_
                      refine ln_iinc (k := 0) (n := 1) (lv' := [(3, .int (nI ((i + 1) + 1))), (6, .int (nI (zCh tx n (i + 1)))), (5, .int (nI (zCh tx n i))), (0, .ref (ad 0)), (1, .int (nI op)), (2, .int (bI true)), (4, .int (nI k))]) hx hb dX9_cut_179 hl rfl (by decide) rfl (fun ls hl => ?_)
                      refine lv_goto (tgt := 282) hx hb dX9_cut_182 (by decide) ?_
                      refine ln_iinc (k := 6) (n := 1) (lv' := [(4, .int (nI (k + 1))), (3, .int (nI ((i + 1) + 1))), (6, .int (nI (zCh tx n (i + 1)))), (5, .int (nI (zCh tx n i))), (0, .ref (ad 0)), (1, .int (nI op)), (2, .int (bI true))]) hx hb dX9_cut_282 hl rfl (by decide) rfl (fun ls hl => ?_)
                      refine lv_goto (tgt := 19) hx hb dX9_cut_285 (by decide) ?_
                      exact ihlp (k + 1) ((i + 1) + 1) true op (sy + 1) nu (zKp a2 sy (nI 8) (nI (zCh tx n (i + 1))) (nI 0)) _ _ _ (by omega) (⟨by omega, by omega⟩) (⟨by omega, by omega, by omega⟩) (by rw [hq, zQ_rd (by omega) hlt9 (by omega) b155f, if_pos b163f]) (hfa.tr zFa_kp2) (hW) (lv_sub hl [4, 5, 6, 1, 0] rfl)
                · skip
                  have b140f := h10
                  refine lv_iload hx hb dX9_cut_143 (lv_at hl 2 rfl) ?_
                  refine lv_bipush (v := nI 92) hx hb dX9_cut_145 (by decide) ?_
                  refine ln_icmp_ne (tgt := 185) hx hb dX9_cut_147 (by decide) (by omega) (by first | decide | omega) (fun h25 => ?_) (fun h25 => ?_)
                  · skip
                    have b147t := h25
                    refine lv_iload hx hb dX9_cut_185 (lv_at hl 2 rfl) ?_
                    refine lv_bipush (v := nI 40) hx hb dX9_cut_187 (by decide) ?_
                    refine ln_icmp_ne (tgt := 205) hx hb dX9_cut_189 (by decide) (by omega) (by first | decide | omega) (fun h26 => ?_) (fun h26 => ?_)
                    · skip
                      have b189t := h26
                      refine lv_iconst (v := nI 0) hx hb dX9_cut_205 (by decide) ?_
                      refine lv_istore_n (lv' := [(2, .int (nI 0)), (3, .int (nI (i + 1))), (6, .int (nI (zCh tx n (i + 1)))), (5, .int (nI (zCh tx n i))), (0, .ref (ad 0)), (1, .int (nI op)), (4, .int (nI k))]) hx hb dX9_cut_206 rfl hl (by decide) rfl (fun ls hl => ?_)
                      refine lv_iload hx hb dX9_cut_207 (lv_at hl 3 rfl) ?_
                      refine lv_bipush (v := nI 97) hx hb dX9_cut_209 (by decide) ?_
                      refine lv_bipush (v := nI 104) hx hb dX9_cut_211 (by decide) ?_
                      refine ar_callS (As := [.int (nI (zCh tx n i)), .int (nI 97), .int (nI 104)]) (rest := []) C hW (c_X9_within hl9 _ (nI (zCh tx n i)) (nI 97) (nI 104)) q686 q687 q6 q688 hd_X9_within ⟨Nat.le_of_ble_eq_true rfl, Nat.le_of_ble_eq_true rfl⟩ hl.1 (Nat.le_of_ble_eq_true rfl) rfl dX9_cut_213 (fun _ _ _ _ _ _ hp => hp.elim) (fun v9 u9 H locs hp hW => ?_)
                      obtain ⟨rfl, hu9⟩ := hp
                      rw [hu9] at hW
                      refine W.eq (g2 := F0 m 216 ls [.int (bI (zIn (nI (zCh tx n i)) (nI 97) (nI 104)))]) rfl ?_
                      refine lb_if_eq (tgt := 233) hx hb dX9_cut_216 (by decide) (fun h27 => ?_) (fun h27 => ?_)
                      · skip
                        rw [zIn_nat (by omega) (by decide) (by decide)] at h27
                        have b216t := of_decide_eq_false h27
                        refine lv_iload hx hb dX9_cut_233 (lv_at hl 3 rfl) ?_
                        refine lv_bipush (v := nI 105) hx hb dX9_cut_235 (by decide) ?_
                        refine ln_icmp_ne (tgt := 261) hx hb dX9_cut_237 (by decide) (by omega) (by first | decide | omega) (fun h28 => ?_) (fun h28 => ?_)
                        · skip
                          have b237t := h28
                          refine lv_iload hx hb dX9_cut_261 (lv_at hl 3 rfl) ?_
                          refine ar_callS (As := [.int (nI (zCh tx n i))]) (rest := []) C hW (c_X9_isDigit hl9 _ (nI (zCh tx n i))) q754 q755 q6 q756 hd_X9_isDigit ⟨Nat.le_of_ble_eq_true rfl, Nat.le_of_ble_eq_true rfl⟩ hl.1 (Nat.le_of_ble_eq_true rfl) rfl dX9_cut_263 (fun _ _ _ _ _ _ hp => hp.elim) (fun v9 u9 H locs hp hW => ?_)
                          obtain ⟨rfl, hu9⟩ := hp
                          rw [hu9] at hW
                          refine W.eq (g2 := F0 m 266 ls [.int (bI (zIn (nI (zCh tx n i)) (nI 48) (nI 57)))]) rfl ?_
                          refine lb_if_eq (tgt := 280) hx hb dX9_cut_266 (by decide) (fun h29 => ?_) (fun h29 => ?_)
                          · skip
                            rw [zIn_nat (by omega) (by decide) (by decide)] at h29
                            have b266t : zDg (zCh tx n i) = false := h29
                            refine lv_iconst (v := nI 0) hx hb dX9_cut_280 (by decide) ?_
                            exact ar_zret C hr (nI_z0.1) hW dX9_cut_281 ((fun hz : zQ (zCh tx n) n 41 0 true 0 0 0 a = none => ⟨congrArg (fun z => some (Value.int z)) (bI_f (by rw [hz]; rfl)), fun sy9 nu9 a9 h => absurd (hz.symm.trans h) (by intro q; cases q), fun _ => ⟨_, _, zGq_fg, hfa, rfl⟩⟩) (by rw [hq, zQ_un (by omega) hlt9 (by omega) (by rintro ⟨q1, q2⟩; first | omega | (rw [b155t] at q2; cases q2)) b189t b216t b237t b266t]))
                          · skip
                            rw [zIn_nat (by omega) (by decide) (by decide)] at h29
                            have hdg : zDg (zCh tx n i) = true := h29
                            refine lv_aload_n hx hb dX9_cut_269 rfl (lv_at hl 4 rfl) ?_
                            refine lv_iload_n hx hb dX9_cut_270 rfl (lv_at hl 1 rfl) ?_
                            refine lv_iconst (v := nI 1) hx hb dX9_cut_271 (by decide) ?_
                            refine ln_isub hx hb dX9_cut_272 (by omega) ?_
                            refine ar_callV (q0 := 0) (ci := 7) (T9 := TX9) (N9 := 27) (As := [.int (nI ((i + 1) - 1))]) (rest := []) C hW (c_X9_constant hl9 (zGq g sy nu) a2 d n tx hn hlen htx2 hcx i (by omega) hdg nu (by omega) rfl sy (by omega) rfl) (rfl) rfl q757 q759 qs7 q6 q760 hd_X9_constant ⟨Nat.le_of_ble_eq_true rfl, Nat.le_of_ble_eq_true rfl⟩ hl.1 (Nat.le_of_ble_eq_true rfl) rfl dX9_cut_273 (fun _ _ _ _ _ _ hp => hp.elim) (fun v9 u9 H locs hp hW => ?_)
                            rcases hp with ⟨e9, vs, hz1, hz2, hz3, hz4, hz6, rfl, hu9⟩ | ⟨hz1, rfl, g3, a3, hg3, ha3, hu9⟩
                            · skip
                              rw [hu9, zGq_9, zGq_8] at hW
                              refine W.eq (g2 := F0 m 276 ls [.int (nI e9)]) rfl ?_
                              refine lv_istore_n (lv' := [(3, .int (nI e9)), (2, .int (nI 0)), (6, .int (nI (zCh tx n (i + 1)))), (5, .int (nI (zCh tx n i))), (0, .ref (ad 0)), (1, .int (nI op)), (4, .int (nI k))]) hx hb dX9_cut_276 rfl hl (by decide) rfl (fun ls hl => ?_)
                              refine lv_goto (tgt := 282) hx hb dX9_cut_277 (by decide) ?_
                              refine ln_iinc (k := 6) (n := 1) (lv' := [(4, .int (nI (k + 1))), (3, .int (nI e9)), (2, .int (nI 0)), (6, .int (nI (zCh tx n (i + 1)))), (5, .int (nI (zCh tx n i))), (0, .ref (ad 0)), (1, .int (nI op))]) hx hb dX9_cut_282 hl rfl (by decide) rfl (fun ls hl => ?_)
                              refine lv_goto (tgt := 19) hx hb dX9_cut_285 (by decide) ?_
                              exact ihlp (k + 1) e9 false op (sy + 1) (nu + vs.length) (zKp (va_up a2 7 (zNr (a2 7) nu vs)) sy (nI 2) (nI nu) (nI vs.length)) _ _ _ (by omega) (⟨by omega, by omega⟩) (⟨by omega, by omega, by omega⟩) (by rw [hq, zQ_cs (by omega) hlt9 hdg hz1]) (hfa.tr zFa_kp) (hW) (lv_sub hl [5, 6, 2, 1, 0] rfl)
                            · skip
                              rw [hu9] at hW
                              refine W.eq (g2 := F0 m 276 ls [.int ((-1))]) rfl ?_
                              refine lv_istore_n (lv' := [(3, .int ((-1))), (2, .int (nI 0)), (6, .int (nI (zCh tx n (i + 1)))), (5, .int (nI (zCh tx n i))), (0, .ref (ad 0)), (1, .int (nI op)), (4, .int (nI k))]) hx hb dX9_cut_276 rfl hl (by decide) rfl (fun ls hl => ?_)
                              refine lv_goto (tgt := 282) hx hb dX9_cut_277 (by decide) ?_
                              refine ln_iinc (k := 6) (n := 1) (lv' := [(4, .int (nI (k + 1))), (3, .int ((-1))), (2, .int (nI 0)), (6, .int (nI (zCh tx n (i + 1)))), (5, .int (nI (zCh tx n i))), (0, .ref (ad 0)), (1, .int (nI op))]) hx hb dX9_cut_282 hl rfl (by decide) rfl (fun ls hl => ?_)
                              refine lv_goto (tgt := 19) hx hb dX9_cut_285 (by decide) ?_
                              refine lv_iload hx hb dX9_cut_19 (lv_at hl 0 rfl) ?_
                              refine lv_bipush (v := nI 41) hx hb dX9_cut_21 (by decide) ?_
                              refine ln_icmp_ge (tgt := 288) hx hb dX9_cut_23 (by decide) (by omega) (by first | decide | omega) (fun h30 => ?_) (fun h30 => ?_)
                              · skip
                                refine lv_iload_n hx hb dX9_cut_288 rfl (lv_at hl 1 rfl) ?_
                                refine lv_if_lt (tgt := 304) hx hb dX9_cut_289 (by decide) (fun h31 => ?_) (fun h31 => ?_)
                                · skip
                                  refine lv_iconst (v := nI 0) hx hb dX9_cut_304 (by decide) ?_
                                  exact ar_zret C hr (nI_z0.1) hW dX9_cut_305 ((fun hz : zQ (zCh tx n) n 41 0 true 0 0 0 a = none => ⟨congrArg (fun z => some (Value.int z)) (bI_f (by rw [hz]; rfl)), fun sy9 nu9 a9 h => absurd (hz.symm.trans h) (by intro q; cases q), fun _ => ⟨_, _, zGq_fg.tr hg3, hfa.tr ha3, rfl⟩⟩) (by rw [hq, zQ_cy (by omega) hlt9 hdg hz1]))
                                · skip
                                  exact absurd (by decide) h31
                              · skip
                                refine lv_iload_n hx hb dX9_cut_26 rfl (lv_at hl 1 rfl) ?_
                                refine lv_if_lt (tgt := 288) hx hb dX9_cut_27 (by decide) (fun h32 => ?_) (fun h32 => ?_)
                                · skip
                                  refine lv_iload_n hx hb dX9_cut_288 rfl (lv_at hl 1 rfl) ?_
                                  refine lv_if_lt (tgt := 304) hx hb dX9_cut_289 (by decide) (fun h33 => ?_) (fun h33 => ?_)
                                  · skip
                                    refine lv_iconst (v := nI 0) hx hb dX9_cut_304 (by decide) ?_
                                    exact ar_zret C hr (nI_z0.1) hW dX9_cut_305 ((fun hz : zQ (zCh tx n) n 41 0 true 0 0 0 a = none => ⟨congrArg (fun z => some (Value.int z)) (bI_f (by rw [hz]; rfl)), fun sy9 nu9 a9 h => absurd (hz.symm.trans h) (by intro q; cases q), fun _ => ⟨_, _, zGq_fg.tr hg3, hfa.tr ha3, rfl⟩⟩) (by rw [hq, zQ_cy (by omega) hlt9 hdg hz1]))
                                  · skip
                                    exact absurd (by decide) h33
                                · skip
                                  exact absurd (by decide) h32
                        · skip
                          have b237f := h28
                          refine lv_aload_n hx hb dX9_cut_240 rfl (lv_at hl 4 rfl) ?_
                          refine lv_iload_n hx hb dX9_cut_241 rfl (lv_at hl 1 rfl) ?_
                          refine ar_callV (q0 := 0) (ci := 7) (T9 := TX9) (N9 := 27) (As := [.int (nI (i + 1))]) (rest := []) C hW (c_X9_number hl9 (zGq g sy nu) a2 d n tx hn hlen htx2 hcx (i + 1) (by omega) nu (by omega) rfl) (rfl) rfl q750 q752 qs6 q6 q753 hd_X9_number ⟨Nat.le_of_ble_eq_true rfl, Nat.le_of_ble_eq_true rfl⟩ hl.1 (Nat.le_of_ble_eq_true rfl) rfl dX9_cut_242 (fun _ _ _ _ _ _ hp => hp.elim) (fun v9 u9 H locs hp hW => ?_)
                          rcases hp with ⟨hz0, hz5, rfl, hu9⟩ | ⟨hz5, rfl, hu9⟩
                          · skip
                            rw [hu9, zGq_9] at hW
                            have hzi := zDr_in (tx := tx) (n := n) (q := i + 1) (k := 5) (by omega)
                            refine W.eq (g2 := F0 m 245 ls [.int (nI ((i + 1) + zDr (zCh tx n) 5 (i + 1)))]) rfl ?_
                            refine lv_istore_n (lv' := [(3, .int (nI ((i + 1) + zDr (zCh tx n) 5 (i + 1)))), (2, .int (nI 0)), (6, .int (nI (zCh tx n (i + 1)))), (5, .int (nI (zCh tx n i))), (0, .ref (ad 0)), (1, .int (nI op)), (4, .int (nI k))]) hx hb dX9_cut_245 rfl hl (by decide) rfl (fun ls hl => ?_)
                            refine lv_aload_n hx hb dX9_cut_246 rfl (lv_at hl 4 rfl) ?_
                            refine lv_iconst (v := nI 3) hx hb dX9_cut_247 (by decide) ?_
                            refine lv_aload_n hx hb dX9_cut_248 rfl (lv_at hl 4 rfl) ?_
                            refine mg_numberCount C hW q596 dX9_cut_249 ?_
                            refine ln_top (rfl) ?_
                            refine lv_iconst (v := nI 1) hx hb dX9_cut_252 (by decide) ?_
                            refine ln_isub hx hb dX9_cut_253 (by omega) ?_
                            refine lv_iconst (v := nI 0) hx hb dX9_cut_254 (by decide) ?_
                            refine ar_callV (q0 := 0) (ci := 7) (T9 := TX9) (N9 := 27) (As := [.int (nI 3), .int (nI ((nu + 1) - 1)), .int (nI 0)]) (rest := []) C hW (c_X9_keep hl9 (zGq g sy (nu + 1)) (va_up a2 7 (va_up (a2 7) nu (nI (zNm (zCh tx n) (i + 1) (zDr (zCh tx n) 5 (i + 1)))))) d sy (by omega) rfl (nI 3) (nI ((nu + 1) - 1)) (nI 0)) (rfl) rfl q740 q742 qs5 q6 q743 hd_X9_keep ⟨Nat.le_of_ble_eq_true rfl, Nat.le_of_ble_eq_true rfl⟩ hl.1 (Nat.le_of_ble_eq_true rfl) rfl dX9_cut_255 (fun _ _ _ _ _ _ hp => hp.elim) (fun v9 u9 H locs hp hW => ?_)
                            obtain ⟨rfl, hu9⟩ := hp
                            rw [hu9] at hW
                            rw [zGq_8] at hW
                            refine W.eq (g2 := F0 m 258 ls []) rfl ?_
                            refine lv_goto (tgt := 282) hx hb dX9_cut_258 (by decide) ?_
                            refine ln_iinc (k := 6) (n := 1) (lv' := [(4, .int (nI (k + 1))), (3, .int (nI ((i + 1) + zDr (zCh tx n) 5 (i + 1)))), (2, .int (nI 0)), (6, .int (nI (zCh tx n (i + 1)))), (5, .int (nI (zCh tx n i))), (0, .ref (ad 0)), (1, .int (nI op))]) hx hb dX9_cut_282 hl rfl (by decide) rfl (fun ls hl => ?_)
                            refine lv_goto (tgt := 19) hx hb dX9_cut_285 (by decide) ?_
                            exact ihlp (k + 1) ((i + 1) + zDr (zCh tx n) 5 (i + 1)) false op (sy + 1) (nu + 1) (zKp (va_up a2 7 (va_up (a2 7) nu (nI (zNm (zCh tx n) (i + 1) (zDr (zCh tx n) 5 (i + 1)))))) sy (nI 3) (nI ((nu + 1) - 1)) (nI 0)) _ _ _ (by omega) (⟨by omega, by omega⟩) (⟨by omega, by omega, by omega⟩) (by rw [hq, zQ_ct (by omega) hlt9 b237f hz0 hz5]; rfl) (hfa.tr zFa_kp) (hW) (lv_sub hl [5, 6, 2, 1, 0] rfl)
                          · skip
                            rw [hu9] at hW
                            refine W.eq (g2 := F0 m 245 ls [.int ((-1))]) rfl ?_
                            refine lv_istore_n (lv' := [(3, .int ((-1))), (2, .int (nI 0)), (6, .int (nI (zCh tx n (i + 1)))), (5, .int (nI (zCh tx n i))), (0, .ref (ad 0)), (1, .int (nI op)), (4, .int (nI k))]) hx hb dX9_cut_245 rfl hl (by decide) rfl (fun ls hl => ?_)
                            refine lv_aload_n hx hb dX9_cut_246 rfl (lv_at hl 4 rfl) ?_
                            refine lv_iconst (v := nI 3) hx hb dX9_cut_247 (by decide) ?_
                            refine lv_aload_n hx hb dX9_cut_248 rfl (lv_at hl 4 rfl) ?_
                            refine mg_numberCount C hW q596 dX9_cut_249 ?_
                            refine ln_top (rfl) ?_
                            refine lv_iconst (v := nI 1) hx hb dX9_cut_252 (by decide) ?_
                            refine lv_isub hx hb dX9_cut_253 ?_
                            refine lv_iconst (v := nI 0) hx hb dX9_cut_254 (by decide) ?_
                            refine ar_callV (q0 := 0) (ci := 7) (T9 := TX9) (N9 := 27) (As := [.int (nI 3), .int ((nI nu) - nI 1), .int (nI 0)]) (rest := []) C hW (c_X9_keep hl9 (zGq g sy nu) a2 d sy (by omega) rfl (nI 3) ((nI nu) - nI 1) (nI 0)) (rfl) rfl q740 q742 qs5 q6 q743 hd_X9_keep ⟨Nat.le_of_ble_eq_true rfl, Nat.le_of_ble_eq_true rfl⟩ hl.1 (Nat.le_of_ble_eq_true rfl) rfl dX9_cut_255 (fun _ _ _ _ _ _ hp => hp.elim) (fun v9 u9 H locs hp hW => ?_)
                            obtain ⟨rfl, hu9⟩ := hp
                            rw [hu9] at hW
                            rw [zGq_8] at hW
                            refine W.eq (g2 := F0 m 258 ls []) rfl ?_
                            refine lv_goto (tgt := 282) hx hb dX9_cut_258 (by decide) ?_
                            refine ln_iinc (k := 6) (n := 1) (lv' := [(4, .int (nI (k + 1))), (3, .int ((-1))), (2, .int (nI 0)), (6, .int (nI (zCh tx n (i + 1)))), (5, .int (nI (zCh tx n i))), (0, .ref (ad 0)), (1, .int (nI op))]) hx hb dX9_cut_282 hl rfl (by decide) rfl (fun ls hl => ?_)
                            refine lv_goto (tgt := 19) hx hb dX9_cut_285 (by decide) ?_
                            refine lv_iload hx hb dX9_cut_19 (lv_at hl 0 rfl) ?_
                            refine lv_bipush (v := nI 41) hx hb dX9_cut_21 (by decide) ?_
                            refine ln_icmp_ge (tgt := 288) hx hb dX9_cut_23 (by decide) (by omega) (by first | decide | omega) (fun h34 => ?_) (fun h34 => ?_)
                            · skip
                              refine lv_iload_n hx hb dX9_cut_288 rfl (lv_at hl 1 rfl) ?_
                              refine lv_if_lt (tgt := 304) hx hb dX9_cut_289 (by decide) (fun h35 => ?_) (fun h35 => ?_)
                              · skip
                                refine lv_iconst (v := nI 0) hx hb dX9_cut_304 (by decide) ?_
                                exact ar_zret C hr (nI_z0.1) hW dX9_cut_305 ((fun hz : zQ (zCh tx n) n 41 0 true 0 0 0 a = none => ⟨congrArg (fun z => some (Value.int z)) (bI_f (by rw [hz]; rfl)), fun sy9 nu9 a9 h => absurd (hz.symm.trans h) (by intro q; cases q), fun _ => ⟨_, _, zGq_fg, hfa.tr zFa_kp2, rfl⟩⟩) (by rw [hq, zQ_cx (by omega) hlt9 b237f hz5]))
                              · skip
                                exact absurd (by decide) h35
                            · skip
                              refine lv_iload_n hx hb dX9_cut_26 rfl (lv_at hl 1 rfl) ?_
                              refine lv_if_lt (tgt := 288) hx hb dX9_cut_27 (by decide) (fun h36 => ?_) (fun h36 => ?_)
                              · skip
                                refine lv_iload_n hx hb dX9_cut_288 rfl (lv_at hl 1 rfl) ?_
                                refine lv_if_lt (tgt := 304) hx hb dX9_cut_289 (by decide) (fun h37 => ?_) (fun h37 => ?_)
                                · skip
                                  refine lv_iconst (v := nI 0) hx hb dX9_cut_304 (by decide) ?_
                                  exact ar_zret C hr (nI_z0.1) hW dX9_cut_305 ((fun hz : zQ (zCh tx n) n 41 0 true 0 0 0 a = none => ⟨congrArg (fun z => some (Value.int z)) (bI_f (by rw [hz]; rfl)), fun sy9 nu9 a9 h => absurd (hz.symm.trans h) (by intro q; cases q), fun _ => ⟨_, _, zGq_fg, hfa.tr zFa_kp2, rfl⟩⟩) (by rw [hq, zQ_cx (by omega) hlt9 b237f hz5]))
                                · skip
                                  exact absurd (by decide) h37
                              · skip
                                exact absurd (by decide) h36
                      · skip
                        rw [zIn_nat (by omega) (by decide) (by decide)] at h27
                        have b216f := of_decide_eq_true h27
                        refine lv_aload_n hx hb dX9_cut_219 rfl (lv_at hl 4 rfl) ?_
                        refine lv_iconst (v := nI 1) hx hb dX9_cut_220 (by decide) ?_
                        refine lv_iload hx hb dX9_cut_221 (lv_at hl 3 rfl) ?_
                        refine lv_bipush (v := nI 97) hx hb dX9_cut_223 (by decide) ?_
                        refine ln_isub hx hb dX9_cut_225 (by omega) ?_
                        refine lv_iconst (v := nI 0) hx hb dX9_cut_226 (by decide) ?_
                        refine ar_callV (q0 := 0) (ci := 7) (T9 := TX9) (N9 := 27) (As := [.int (nI 1), .int (nI ((zCh tx n i) - 97)), .int (nI 0)]) (rest := []) C hW (c_X9_keep hl9 (zGq g sy nu) a2 d sy (by omega) rfl (nI 1) (nI ((zCh tx n i) - 97)) (nI 0)) (rfl) rfl q740 q742 qs5 q6 q743 hd_X9_keep ⟨Nat.le_of_ble_eq_true rfl, Nat.le_of_ble_eq_true rfl⟩ hl.1 (Nat.le_of_ble_eq_true rfl) rfl dX9_cut_227 (fun _ _ _ _ _ _ hp => hp.elim) (fun v9 u9 H locs hp hW => ?_)
                        obtain ⟨rfl, hu9⟩ := hp
                        rw [hu9] at hW
                        rw [zGq_8] at hW
                        refine W.eq (g2 := F0 m 230 ls []) rfl ?_
                        refine lv_goto (tgt := 282) hx hb dX9_cut_230 (by decide) ?_
                        refine ln_iinc (k := 6) (n := 1) (lv' := [(4, .int (nI (k + 1))), (2, .int (nI 0)), (3, .int (nI (i + 1))), (6, .int (nI (zCh tx n (i + 1)))), (5, .int (nI (zCh tx n i))), (0, .ref (ad 0)), (1, .int (nI op))]) hx hb dX9_cut_282 hl rfl (by decide) rfl (fun ls hl => ?_)
                        refine lv_goto (tgt := 19) hx hb dX9_cut_285 (by decide) ?_
                        exact ihlp (k + 1) (i + 1) false op (sy + 1) nu (zKp a2 sy (nI 1) (nI ((zCh tx n i) - 97)) (nI 0)) _ _ _ (by omega) (⟨by omega, by omega⟩) (⟨by omega, by omega, by omega⟩) (by rw [hq, zQ_nm (by omega) hlt9 b216f]) (hfa.tr zFa_kp2) (hW) (lv_sub hl [5, 6, 1, 2, 0] rfl)
                    · skip
                      have b189f := h26
                      refine ln_iinc (k := 4) (n := 1) (lv' := [(1, .int (nI (op + 1))), (3, .int (nI (i + 1))), (6, .int (nI (zCh tx n (i + 1)))), (5, .int (nI (zCh tx n i))), (0, .ref (ad 0)), (2, .int (bI true)), (4, .int (nI k))]) hx hb dX9_cut_192 hl rfl (by decide) rfl (fun ls hl => ?_)
                      refine lv_aload_n hx hb dX9_cut_195 rfl (lv_at hl 4 rfl) ?_
                      refine lv_iconst (v := nI 4) hx hb dX9_cut_196 (by decide) ?_
                      refine lv_iconst (v := nI 0) hx hb dX9_cut_197 (by decide) ?_
                      refine lv_iconst (v := nI 0) hx hb dX9_cut_198 (by decide) ?_
                      refine ar_callV (q0 := 0) (ci := 7) (T9 := TX9) (N9 := 27) (As := [.int (nI 4), .int (nI 0), .int (nI 0)]) (rest := []) C hW (c_X9_keep hl9 (zGq g sy nu) a2 d sy (by omega) rfl (nI 4) (nI 0) (nI 0)) (rfl) rfl q740 q742 qs5 q6 q743 hd_X9_keep ⟨Nat.le_of_ble_eq_true rfl, Nat.le_of_ble_eq_true rfl⟩ hl.1 (Nat.le_of_ble_eq_true rfl) rfl dX9_cut_199 (fun _ _ _ _ _ _ hp => hp.elim) (fun v9 u9 H locs hp hW => ?_)
                      obtain ⟨rfl, hu9⟩ := hp
                      rw [hu9] at hW
                      rw [zGq_8] at hW
                      refine W.eq (g2 := F0 m 202 ls []) rfl ?_
                      refine lv_goto (tgt := 282) hx hb dX9_cut_202 (by decide) ?_
                      refine ln_iinc (k := 6) (n := 1) (lv' := [(4, .int (nI (k + 1))), (1, .int (nI (op + 1))), (3, .int (nI (i + 1))), (6, .int (nI (zCh tx n (i + 1)))), (5, .int (nI (zCh tx n i))), (0, .ref (ad 0)), (2, .int (bI true))]) hx hb dX9_cut_282 hl rfl (by decide) rfl (fun ls hl => ?_)
                      refine lv_goto (tgt := 19) hx hb dX9_cut_285 (by decide) ?_
                      exact ihlp (k + 1) (i + 1) true (op + 1) (sy + 1) nu (zKp a2 sy (nI 4) (nI 0) (nI 0)) _ _ _ (by omega) (⟨by omega, by omega⟩) (⟨by omega, by omega, by omega⟩) (by rw [hq, zQ_op (by omega) hlt9 b189f]) (hfa.tr zFa_kp2) (hW) (lv_sub hl [5, 1, 6, 2, 0] rfl)
                  · skip
                    have b147f := h25
                    refine lv_iload hx hb dX9_cut_150 (lv_at hl 1 rfl) ?_
                    refine ar_callS (As := [.int (nI (zCh tx n (i + 1)))]) (rest := []) C hW (c_X9_reduces hl9 _ (zCh tx n (i + 1)) (by omega)) q747 q748 q6 q749 hd_X9_reduces ⟨Nat.le_of_ble_eq_true rfl, Nat.le_of_ble_eq_true rfl⟩ hl.1 (Nat.le_of_ble_eq_true rfl) rfl dX9_cut_152 (fun _ _ _ _ _ _ hp => hp.elim) (fun v9 u9 H locs hp hW => ?_)
                    obtain ⟨rfl, hu9⟩ := hp
                    rw [hu9] at hW
                    refine W.eq (g2 := F0 m 155 ls [.int (bI (zRd (zCh tx n (i + 1))))]) rfl ?_
                    refine lb_if_eq (tgt := 185) hx hb dX9_cut_155 (by decide) (fun h38 => ?_) (fun h38 => ?_)
                    · skip
                      have b155t := h38
                      refine lv_iload hx hb dX9_cut_185 (lv_at hl 2 rfl) ?_
                      refine lv_bipush (v := nI 40) hx hb dX9_cut_187 (by decide) ?_
                      refine ln_icmp_ne (tgt := 205) hx hb dX9_cut_189 (by decide) (by omega) (by first | decide | omega) (fun h39 => ?_) (fun h39 => ?_)
                      · skip
                        have b189t := h39
                        refine lv_iconst (v := nI 0) hx hb dX9_cut_205 (by decide) ?_
                        refine lv_istore_n (lv' := [(2, .int (nI 0)), (3, .int (nI (i + 1))), (6, .int (nI (zCh tx n (i + 1)))), (5, .int (nI (zCh tx n i))), (0, .ref (ad 0)), (1, .int (nI op)), (4, .int (nI k))]) hx hb dX9_cut_206 rfl hl (by decide) rfl (fun ls hl => ?_)
                        refine lv_iload hx hb dX9_cut_207 (lv_at hl 3 rfl) ?_
                        refine lv_bipush (v := nI 97) hx hb dX9_cut_209 (by decide) ?_
                        refine lv_bipush (v := nI 104) hx hb dX9_cut_211 (by decide) ?_
                        refine ar_callS (As := [.int (nI (zCh tx n i)), .int (nI 97), .int (nI 104)]) (rest := []) C hW (c_X9_within hl9 _ (nI (zCh tx n i)) (nI 97) (nI 104)) q686 q687 q6 q688 hd_X9_within ⟨Nat.le_of_ble_eq_true rfl, Nat.le_of_ble_eq_true rfl⟩ hl.1 (Nat.le_of_ble_eq_true rfl) rfl dX9_cut_213 (fun _ _ _ _ _ _ hp => hp.elim) (fun v9 u9 H locs hp hW => ?_)
                        obtain ⟨rfl, hu9⟩ := hp
                        rw [hu9] at hW
                        refine W.eq (g2 := F0 m 216 ls [.int (bI (zIn (nI (zCh tx n i)) (nI 97) (nI 104)))]) rfl ?_
                        refine lb_if_eq (tgt := 233) hx hb dX9_cut_216 (by decide) (fun h40 => ?_) (fun h40 => ?_)
                        · skip
                          rw [zIn_nat (by omega) (by decide) (by decide)] at h40
                          have b216t := of_decide_eq_false h40
                          refine lv_iload hx hb dX9_cut_233 (lv_at hl 3 rfl) ?_
                          refine lv_bipush (v := nI 105) hx hb dX9_cut_235 (by decide) ?_
                          refine ln_icmp_ne (tgt := 261) hx hb dX9_cut_237 (by decide) (by omega) (by first | decide | omega) (fun h41 => ?_) (fun h41 => ?_)
                          · skip
                            have b237t := h41
                            refine lv_iload hx hb dX9_cut_261 (lv_at hl 3 rfl) ?_
                            refine ar_callS (As := [.int (nI (zCh tx n i))]) (rest := []) C hW (c_X9_isDigit hl9 _ (nI (zCh tx n i))) q754 q755 q6 q756 hd_X9_isDigit ⟨Nat.le_of_ble_eq_true rfl, Nat.le_of_ble_eq_true rfl⟩ hl.1 (Nat.le_of_ble_eq_true rfl) rfl dX9_cut_263 (fun _ _ _ _ _ _ hp => hp.elim) (fun v9 u9 H locs hp hW => ?_)
                            obtain ⟨rfl, hu9⟩ := hp
                            rw [hu9] at hW
                            refine W.eq (g2 := F0 m 266 ls [.int (bI (zIn (nI (zCh tx n i)) (nI 48) (nI 57)))]) rfl ?_
                            refine lb_if_eq (tgt := 280) hx hb dX9_cut_266 (by decide) (fun h42 => ?_) (fun h42 => ?_)
                            · skip
                              rw [zIn_nat (by omega) (by decide) (by decide)] at h42
                              have b266t : zDg (zCh tx n i) = false := h42
                              refine lv_iconst (v := nI 0) hx hb dX9_cut_280 (by decide) ?_
                              exact ar_zret C hr (nI_z0.1) hW dX9_cut_281 ((fun hz : zQ (zCh tx n) n 41 0 true 0 0 0 a = none => ⟨congrArg (fun z => some (Value.int z)) (bI_f (by rw [hz]; rfl)), fun sy9 nu9 a9 h => absurd (hz.symm.trans h) (by intro q; cases q), fun _ => ⟨_, _, zGq_fg, hfa, rfl⟩⟩) (by rw [hq, zQ_un (by omega) hlt9 (by omega) (by rintro ⟨q1, q2⟩; first | omega | (rw [b155t] at q2; cases q2)) b189t b216t b237t b266t]))
                            · skip
                              rw [zIn_nat (by omega) (by decide) (by decide)] at h42
                              have hdg : zDg (zCh tx n i) = true := h42
                              refine lv_aload_n hx hb dX9_cut_269 rfl (lv_at hl 4 rfl) ?_
                              refine lv_iload_n hx hb dX9_cut_270 rfl (lv_at hl 1 rfl) ?_
                              refine lv_iconst (v := nI 1) hx hb dX9_cut_271 (by decide) ?_
                              refine ln_isub hx hb dX9_cut_272 (by omega) ?_
                              refine ar_callV (q0 := 0) (ci := 7) (T9 := TX9) (N9 := 27) (As := [.int (nI ((i + 1) - 1))]) (rest := []) C hW (c_X9_constant hl9 (zGq g sy nu) a2 d n tx hn hlen htx2 hcx i (by omega) hdg nu (by omega) rfl sy (by omega) rfl) (rfl) rfl q757 q759 qs7 q6 q760 hd_X9_constant ⟨Nat.le_of_ble_eq_true rfl, Nat.le_of_ble_eq_true rfl⟩ hl.1 (Nat.le_of_ble_eq_true rfl) rfl dX9_cut_273 (fun _ _ _ _ _ _ hp => hp.elim) (fun v9 u9 H locs hp hW => ?_)
                              rcases hp with ⟨e9, vs, hz1, hz2, hz3, hz4, hz6, rfl, hu9⟩ | ⟨hz1, rfl, g3, a3, hg3, ha3, hu9⟩
                              · skip
                                rw [hu9, zGq_9, zGq_8] at hW
                                refine W.eq (g2 := F0 m 276 ls [.int (nI e9)]) rfl ?_
                                refine lv_istore_n (lv' := [(3, .int (nI e9)), (2, .int (nI 0)), (6, .int (nI (zCh tx n (i + 1)))), (5, .int (nI (zCh tx n i))), (0, .ref (ad 0)), (1, .int (nI op)), (4, .int (nI k))]) hx hb dX9_cut_276 rfl hl (by decide) rfl (fun ls hl => ?_)
                                refine lv_goto (tgt := 282) hx hb dX9_cut_277 (by decide) ?_
                                refine ln_iinc (k := 6) (n := 1) (lv' := [(4, .int (nI (k + 1))), (3, .int (nI e9)), (2, .int (nI 0)), (6, .int (nI (zCh tx n (i + 1)))), (5, .int (nI (zCh tx n i))), (0, .ref (ad 0)), (1, .int (nI op))]) hx hb dX9_cut_282 hl rfl (by decide) rfl (fun ls hl => ?_)
                                refine lv_goto (tgt := 19) hx hb dX9_cut_285 (by decide) ?_
                                exact ihlp (k + 1) e9 false op (sy + 1) (nu + vs.length) (zKp (va_up a2 7 (zNr (a2 7) nu vs)) sy (nI 2) (nI nu) (nI vs.length)) _ _ _ (by omega) (⟨by omega, by omega⟩) (⟨by omega, by omega, by omega⟩) (by rw [hq, zQ_cs (by omega) hlt9 hdg hz1]) (hfa.tr zFa_kp) (hW) (lv_sub hl [5, 6, 2, 1, 0] rfl)
                              · skip
                                rw [hu9] at hW
                                refine W.eq (g2 := F0 m 276 ls [.int ((-1))]) rfl ?_
                                refine lv_istore_n (lv' := [(3, .int ((-1))), (2, .int (nI 0)), (6, .int (nI (zCh tx n (i + 1)))), (5, .int (nI (zCh tx n i))), (0, .ref (ad 0)), (1, .int (nI op)), (4, .int (nI k))]) hx hb dX9_cut_276 rfl hl (by decide) rfl (fun ls hl => ?_)
                                refine lv_goto (tgt := 282) hx hb dX9_cut_277 (by decide) ?_
                                refine ln_iinc (k := 6) (n := 1) (lv' := [(4, .int (nI (k + 1))), (3, .int ((-1))), (2, .int (nI 0)), (6, .int (nI (zCh tx n (i + 1)))), (5, .int (nI (zCh tx n i))), (0, .ref (ad 0)), (1, .int (nI op))]) hx hb dX9_cut_282 hl rfl (by decide) rfl (fun ls hl => ?_)
                                refine lv_goto (tgt := 19) hx hb dX9_cut_285 (by decide) ?_
                                refine lv_iload hx hb dX9_cut_19 (lv_at hl 0 rfl) ?_
                                refine lv_bipush (v := nI 41) hx hb dX9_cut_21 (by decide) ?_
                                refine ln_icmp_ge (tgt := 288) hx hb dX9_cut_23 (by decide) (by omega) (by first | decide | omega) (fun h43 => ?_) (fun h43 => ?_)
                                · skip
                                  refine lv_iload_n hx hb dX9_cut_288 rfl (lv_at hl 1 rfl) ?_
                                  refine lv_if_lt (tgt := 304) hx hb dX9_cut_289 (by decide) (fun h44 => ?_) (fun h44 => ?_)
                                  · skip
                                    refine lv_iconst (v := nI 0) hx hb dX9_cut_304 (by decide) ?_
                                    exact ar_zret C hr (nI_z0.1) hW dX9_cut_305 ((fun hz : zQ (zCh tx n) n 41 0 true 0 0 0 a = none => ⟨congrArg (fun z => some (Value.int z)) (bI_f (by rw [hz]; rfl)), fun sy9 nu9 a9 h => absurd (hz.symm.trans h) (by intro q; cases q), fun _ => ⟨_, _, zGq_fg.tr hg3, hfa.tr ha3, rfl⟩⟩) (by rw [hq, zQ_cy (by omega) hlt9 hdg hz1]))
                                  · skip
                                    exact absurd (by decide) h44
                                · skip
                                  refine lv_iload_n hx hb dX9_cut_26 rfl (lv_at hl 1 rfl) ?_
                                  refine lv_if_lt (tgt := 288) hx hb dX9_cut_27 (by decide) (fun h45 => ?_) (fun h45 => ?_)
                                  · skip
                                    refine lv_iload_n hx hb dX9_cut_288 rfl (lv_at hl 1 rfl) ?_
                                    refine lv_if_lt (tgt := 304) hx hb dX9_cut_289 (by decide) (fun h46 => ?_) (fun h46 => ?_)
                                    · skip
                                      refine lv_iconst (v := nI 0) hx hb dX9_cut_304 (by decide) ?_
                                      exact ar_zret C hr (nI_z0.1) hW dX9_cut_305 ((fun hz : zQ (zCh tx n) n 41 0 true 0 0 0 a = none => ⟨congrArg (fun z => some (Value.int z)) (bI_f (by rw [hz]; rfl)), fun sy9 nu9 a9 h => absurd (hz.symm.trans h) (by intro q; cases q), fun _ => ⟨_, _, zGq_fg.tr hg3, hfa.tr ha3, rfl⟩⟩) (by rw [hq, zQ_cy (by omega) hlt9 hdg hz1]))
                                    · skip
                                      exact absurd (by decide) h46
                                  · skip
                                    exact absurd (by decide) h45
                          · skip
                            have b237f := h41
                            refine lv_aload_n hx hb dX9_cut_240 rfl (lv_at hl 4 rfl) ?_
                            refine lv_iload_n hx hb dX9_cut_241 rfl (lv_at hl 1 rfl) ?_
                            refine ar_callV (q0 := 0) (ci := 7) (T9 := TX9) (N9 := 27) (As := [.int (nI (i + 1))]) (rest := []) C hW (c_X9_number hl9 (zGq g sy nu) a2 d n tx hn hlen htx2 hcx (i + 1) (by omega) nu (by omega) rfl) (rfl) rfl q750 q752 qs6 q6 q753 hd_X9_number ⟨Nat.le_of_ble_eq_true rfl, Nat.le_of_ble_eq_true rfl⟩ hl.1 (Nat.le_of_ble_eq_true rfl) rfl dX9_cut_242 (fun _ _ _ _ _ _ hp => hp.elim) (fun v9 u9 H locs hp hW => ?_)
                            rcases hp with ⟨hz0, hz5, rfl, hu9⟩ | ⟨hz5, rfl, hu9⟩
                            · skip
                              rw [hu9, zGq_9] at hW
                              have hzi := zDr_in (tx := tx) (n := n) (q := i + 1) (k := 5) (by omega)
                              refine W.eq (g2 := F0 m 245 ls [.int (nI ((i + 1) + zDr (zCh tx n) 5 (i + 1)))]) rfl ?_
                              refine lv_istore_n (lv' := [(3, .int (nI ((i + 1) + zDr (zCh tx n) 5 (i + 1)))), (2, .int (nI 0)), (6, .int (nI (zCh tx n (i + 1)))), (5, .int (nI (zCh tx n i))), (0, .ref (ad 0)), (1, .int (nI op)), (4, .int (nI k))]) hx hb dX9_cut_245 rfl hl (by decide) rfl (fun ls hl => ?_)
                              refine lv_aload_n hx hb dX9_cut_246 rfl (lv_at hl 4 rfl) ?_
                              refine lv_iconst (v := nI 3) hx hb dX9_cut_247 (by decide) ?_
                              refine lv_aload_n hx hb dX9_cut_248 rfl (lv_at hl 4 rfl) ?_
                              refine mg_numberCount C hW q596 dX9_cut_249 ?_
                              refine ln_top (rfl) ?_
                              refine lv_iconst (v := nI 1) hx hb dX9_cut_252 (by decide) ?_
                              refine ln_isub hx hb dX9_cut_253 (by omega) ?_
                              refine lv_iconst (v := nI 0) hx hb dX9_cut_254 (by decide) ?_
                              refine ar_callV (q0 := 0) (ci := 7) (T9 := TX9) (N9 := 27) (As := [.int (nI 3), .int (nI ((nu + 1) - 1)), .int (nI 0)]) (rest := []) C hW (c_X9_keep hl9 (zGq g sy (nu + 1)) (va_up a2 7 (va_up (a2 7) nu (nI (zNm (zCh tx n) (i + 1) (zDr (zCh tx n) 5 (i + 1)))))) d sy (by omega) rfl (nI 3) (nI ((nu + 1) - 1)) (nI 0)) (rfl) rfl q740 q742 qs5 q6 q743 hd_X9_keep ⟨Nat.le_of_ble_eq_true rfl, Nat.le_of_ble_eq_true rfl⟩ hl.1 (Nat.le_of_ble_eq_true rfl) rfl dX9_cut_255 (fun _ _ _ _ _ _ hp => hp.elim) (fun v9 u9 H locs hp hW => ?_)
                              obtain ⟨rfl, hu9⟩ := hp
                              rw [hu9] at hW
                              rw [zGq_8] at hW
                              refine W.eq (g2 := F0 m 258 ls []) rfl ?_
                              refine lv_goto (tgt := 282) hx hb dX9_cut_258 (by decide) ?_
                              refine ln_iinc (k := 6) (n := 1) (lv' := [(4, .int (nI (k + 1))), (3, .int (nI ((i + 1) + zDr (zCh tx n) 5 (i + 1)))), (2, .int (nI 0)), (6, .int (nI (zCh tx n (i + 1)))), (5, .int (nI (zCh tx n i))), (0, .ref (ad 0)), (1, .int (nI op))]) hx hb dX9_cut_282 hl rfl (by decide) rfl (fun ls hl => ?_)
                              refine lv_goto (tgt := 19) hx hb dX9_cut_285 (by decide) ?_
                              exact ihlp (k + 1) ((i + 1) + zDr (zCh tx n) 5 (i + 1)) false op (sy + 1) (nu + 1) (zKp (va_up a2 7 (va_up (a2 7) nu (nI (zNm (zCh tx n) (i + 1) (zDr (zCh tx n) 5 (i + 1)))))) sy (nI 3) (nI ((nu + 1) - 1)) (nI 0)) _ _ _ (by omega) (⟨by omega, by omega⟩) (⟨by omega, by omega, by omega⟩) (by rw [hq, zQ_ct (by omega) hlt9 b237f hz0 hz5]; rfl) (hfa.tr zFa_kp) (hW) (lv_sub hl [5, 6, 2, 1, 0] rfl)
                            · skip
                              rw [hu9] at hW
                              refine W.eq (g2 := F0 m 245 ls [.int ((-1))]) rfl ?_
                              refine lv_istore_n (lv' := [(3, .int ((-1))), (2, .int (nI 0)), (6, .int (nI (zCh tx n (i + 1)))), (5, .int (nI (zCh tx n i))), (0, .ref (ad 0)), (1, .int (nI op)), (4, .int (nI k))]) hx hb dX9_cut_245 rfl hl (by decide) rfl (fun ls hl => ?_)
                              refine lv_aload_n hx hb dX9_cut_246 rfl (lv_at hl 4 rfl) ?_
                              refine lv_iconst (v := nI 3) hx hb dX9_cut_247 (by decide) ?_
                              refine lv_aload_n hx hb dX9_cut_248 rfl (lv_at hl 4 rfl) ?_
                              refine mg_numberCount C hW q596 dX9_cut_249 ?_
                              refine ln_top (rfl) ?_
                              refine lv_iconst (v := nI 1) hx hb dX9_cut_252 (by decide) ?_
                              refine lv_isub hx hb dX9_cut_253 ?_
                              refine lv_iconst (v := nI 0) hx hb dX9_cut_254 (by decide) ?_
                              refine ar_callV (q0 := 0) (ci := 7) (T9 := TX9) (N9 := 27) (As := [.int (nI 3), .int ((nI nu) - nI 1), .int (nI 0)]) (rest := []) C hW (c_X9_keep hl9 (zGq g sy nu) a2 d sy (by omega) rfl (nI 3) ((nI nu) - nI 1) (nI 0)) (rfl) rfl q740 q742 qs5 q6 q743 hd_X9_keep ⟨Nat.le_of_ble_eq_true rfl, Nat.le_of_ble_eq_true rfl⟩ hl.1 (Nat.le_of_ble_eq_true rfl) rfl dX9_cut_255 (fun _ _ _ _ _ _ hp => hp.elim) (fun v9 u9 H locs hp hW => ?_)
                              obtain ⟨rfl, hu9⟩ := hp
                              rw [hu9] at hW
                              rw [zGq_8] at hW
                              refine W.eq (g2 := F0 m 258 ls []) rfl ?_
                              refine lv_goto (tgt := 282) hx hb dX9_cut_258 (by decide) ?_
                              refine ln_iinc (k := 6) (n := 1) (lv' := [(4, .int (nI (k + 1))), (3, .int ((-1))), (2, .int (nI 0)), (6, .int (nI (zCh tx n (i + 1)))), (5, .int (nI (zCh tx n i))), (0, .ref (ad 0)), (1, .int (nI op))]) hx hb dX9_cut_282 hl rfl (by decide) rfl (fun ls hl => ?_)
                              refine lv_goto (tgt := 19) hx hb dX9_cut_285 (by decide) ?_
                              refine lv_iload hx hb dX9_cut_19 (lv_at hl 0 rfl) ?_
                              refine lv_bipush (v := nI 41) hx hb dX9_cut_21 (by decide) ?_
                              refine ln_icmp_ge (tgt := 288) hx hb dX9_cut_23 (by decide) (by omega) (by first | decide | omega) (fun h47 => ?_) (fun h47 => ?_)
                              · skip
                                refine lv_iload_n hx hb dX9_cut_288 rfl (lv_at hl 1 rfl) ?_
                                refine lv_if_lt (tgt := 304) hx hb dX9_cut_289 (by decide) (fun h48 => ?_) (fun h48 => ?_)
                                · skip
                                  refine lv_iconst (v := nI 0) hx hb dX9_cut_304 (by decide) ?_
                                  exact ar_zret C hr (nI_z0.1) hW dX9_cut_305 ((fun hz : zQ (zCh tx n) n 41 0 true 0 0 0 a = none => ⟨congrArg (fun z => some (Value.int z)) (bI_f (by rw [hz]; rfl)), fun sy9 nu9 a9 h => absurd (hz.symm.trans h) (by intro q; cases q), fun _ => ⟨_, _, zGq_fg, hfa.tr zFa_kp2, rfl⟩⟩) (by rw [hq, zQ_cx (by omega) hlt9 b237f hz5]))
                                · skip
                                  exact absurd (by decide) h48
                              · skip
                                refine lv_iload_n hx hb dX9_cut_26 rfl (lv_at hl 1 rfl) ?_
                                refine lv_if_lt (tgt := 288) hx hb dX9_cut_27 (by decide) (fun h49 => ?_) (fun h49 => ?_)
                                · skip
                                  refine lv_iload_n hx hb dX9_cut_288 rfl (lv_at hl 1 rfl) ?_
                                  refine lv_if_lt (tgt := 304) hx hb dX9_cut_289 (by decide) (fun h50 => ?_) (fun h50 => ?_)
                                  · skip
                                    refine lv_iconst (v := nI 0) hx hb dX9_cut_304 (by decide) ?_
                                    exact ar_zret C hr (nI_z0.1) hW dX9_cut_305 ((fun hz : zQ (zCh tx n) n 41 0 true 0 0 0 a = none => ⟨congrArg (fun z => some (Value.int z)) (bI_f (by rw [hz]; rfl)), fun sy9 nu9 a9 h => absurd (hz.symm.trans h) (by intro q; cases q), fun _ => ⟨_, _, zGq_fg, hfa.tr zFa_kp2, rfl⟩⟩) (by rw [hq, zQ_cx (by omega) hlt9 b237f hz5]))
                                  · skip
                                    exact absurd (by decide) h50
                                · skip
                                  exact absurd (by decide) h49
                        · skip
                          rw [zIn_nat (by omega) (by decide) (by decide)] at h40
                          have b216f := of_decide_eq_true h40
                          refine lv_aload_n hx hb dX9_cut_219 rfl (lv_at hl 4 rfl) ?_
                          refine lv_iconst (v := nI 1) hx hb dX9_cut_220 (by decide) ?_
                          refine lv_iload hx hb dX9_cut_221 (lv_at hl 3 rfl) ?_
                          refine lv_bipush (v := nI 97) hx hb dX9_cut_223 (by decide) ?_
                          refine ln_isub hx hb dX9_cut_225 (by omega) ?_
                          refine lv_iconst (v := nI 0) hx hb dX9_cut_226 (by decide) ?_
                          refine ar_callV (q0 := 0) (ci := 7) (T9 := TX9) (N9 := 27) (As := [.int (nI 1), .int (nI ((zCh tx n i) - 97)), .int (nI 0)]) (rest := []) C hW (c_X9_keep hl9 (zGq g sy nu) a2 d sy (by omega) rfl (nI 1) (nI ((zCh tx n i) - 97)) (nI 0)) (rfl) rfl q740 q742 qs5 q6 q743 hd_X9_keep ⟨Nat.le_of_ble_eq_true rfl, Nat.le_of_ble_eq_true rfl⟩ hl.1 (Nat.le_of_ble_eq_true rfl) rfl dX9_cut_227 (fun _ _ _ _ _ _ hp => hp.elim) (fun v9 u9 H locs hp hW => ?_)
                          obtain ⟨rfl, hu9⟩ := hp
                          rw [hu9] at hW
                          rw [zGq_8] at hW
                          refine W.eq (g2 := F0 m 230 ls []) rfl ?_
                          refine lv_goto (tgt := 282) hx hb dX9_cut_230 (by decide) ?_
                          refine ln_iinc (k := 6) (n := 1) (lv' := [(4, .int (nI (k + 1))), (2, .int (nI 0)), (3, .int (nI (i + 1))), (6, .int (nI (zCh tx n (i + 1)))), (5, .int (nI (zCh tx n i))), (0, .ref (ad 0)), (1, .int (nI op))]) hx hb dX9_cut_282 hl rfl (by decide) rfl (fun ls hl => ?_)
                          refine lv_goto (tgt := 19) hx hb dX9_cut_285 (by decide) ?_
                          exact ihlp (k + 1) (i + 1) false op (sy + 1) nu (zKp a2 sy (nI 1) (nI ((zCh tx n i) - 97)) (nI 0)) _ _ _ (by omega) (⟨by omega, by omega⟩) (⟨by omega, by omega, by omega⟩) (by rw [hq, zQ_nm (by omega) hlt9 b216f]) (hfa.tr zFa_kp2) (hW) (lv_sub hl [5, 6, 1, 2, 0] rfl)
                      · skip
                        have b189f := h39
                        refine ln_iinc (k := 4) (n := 1) (lv' := [(1, .int (nI (op + 1))), (3, .int (nI (i + 1))), (6, .int (nI (zCh tx n (i + 1)))), (5, .int (nI (zCh tx n i))), (0, .ref (ad 0)), (2, .int (bI true)), (4, .int (nI k))]) hx hb dX9_cut_192 hl rfl (by decide) rfl (fun ls hl => ?_)
                        refine lv_aload_n hx hb dX9_cut_195 rfl (lv_at hl 4 rfl) ?_
                        refine lv_iconst (v := nI 4) hx hb dX9_cut_196 (by decide) ?_
                        refine lv_iconst (v := nI 0) hx hb dX9_cut_197 (by decide) ?_
                        refine lv_iconst (v := nI 0) hx hb dX9_cut_198 (by decide) ?_
                        refine ar_callV (q0 := 0) (ci := 7) (T9 := TX9) (N9 := 27) (As := [.int (nI 4), .int (nI 0), .int (nI 0)]) (rest := []) C hW (c_X9_keep hl9 (zGq g sy nu) a2 d sy (by omega) rfl (nI 4) (nI 0) (nI 0)) (rfl) rfl q740 q742 qs5 q6 q743 hd_X9_keep ⟨Nat.le_of_ble_eq_true rfl, Nat.le_of_ble_eq_true rfl⟩ hl.1 (Nat.le_of_ble_eq_true rfl) rfl dX9_cut_199 (fun _ _ _ _ _ _ hp => hp.elim) (fun v9 u9 H locs hp hW => ?_)
                        obtain ⟨rfl, hu9⟩ := hp
                        rw [hu9] at hW
                        rw [zGq_8] at hW
                        refine W.eq (g2 := F0 m 202 ls []) rfl ?_
                        refine lv_goto (tgt := 282) hx hb dX9_cut_202 (by decide) ?_
                        refine ln_iinc (k := 6) (n := 1) (lv' := [(4, .int (nI (k + 1))), (1, .int (nI (op + 1))), (3, .int (nI (i + 1))), (6, .int (nI (zCh tx n (i + 1)))), (5, .int (nI (zCh tx n i))), (0, .ref (ad 0)), (2, .int (bI true))]) hx hb dX9_cut_282 hl rfl (by decide) rfl (fun ls hl => ?_)
                        refine lv_goto (tgt := 19) hx hb dX9_cut_285 (by decide) ?_
                        exact ihlp (k + 1) (i + 1) true (op + 1) (sy + 1) nu (zKp a2 sy (nI 4) (nI 0) (nI 0)) _ _ _ (by omega) (⟨by omega, by omega⟩) (⟨by omega, by omega, by omega⟩) (by rw [hq, zQ_op (by omega) hlt9 b189f]) (hfa.tr zFa_kp2) (hW) (lv_sub hl [5, 1, 6, 2, 0] rfl)
                    · skip
                      have b155f := h38
                      have hi2 : i + 1 < n := zCh_pos (tx := tx) (by intro h77; rw [h77] at b155f; cases b155f)
                      refine lv_aload_n hx hb dX9_cut_158 rfl (lv_at hl 3 rfl) ?_
                      refine lv_iload hx hb dX9_cut_159 (lv_at hl 2 rfl) ?_
                      refine lv_bipush (v := nI 47) hx hb dX9_cut_161 (by decide) ?_
                      refine ln_icmp_ne (tgt := 171) hx hb dX9_cut_163 (by decide) (by omega) (by first | decide | omega) (fun h51 => ?_) (fun h51 => ?_)
                      · skip
                        have b163t := h51
                        refine lv_bipush (v := nI 9) hx hb dX9_cut_171 (by decide) ?_
                        refine lv_iload hx hb dX9_cut_173 (lv_at hl 1 rfl) ?_
                        refine lv_iconst (v := nI 0) hx hb dX9_cut_175 (by decide) ?_
                        refine ar_callV (q0 := 0) (ci := 7) (T9 := TX9) (N9 := 27) (As := [.int (nI 9), .int (nI (zCh tx n (i + 1))), .int (nI 0)]) (rest := []) C hW (c_X9_keep hl9 (zGq g sy nu) a2 d sy (by omega) rfl (nI 9) (nI (zCh tx n (i + 1))) (nI 0)) (rfl) rfl q740 q742 qs5 q6 q743 hd_X9_keep ⟨Nat.le_of_ble_eq_true rfl, Nat.le_of_ble_eq_true rfl⟩ hl.1 (Nat.le_of_ble_eq_true rfl) rfl dX9_cut_176 (fun _ _ _ _ _ _ hp => hp.elim) (fun v9 u9 H locs hp hW => ?_)
                        obtain ⟨rfl, hu9⟩ := hp
                        rw [hu9] at hW
                        rw [zGq_8] at hW
                        refine W.eq (g2 := F0 m 179 ls []) rfl ?_
                        refine ln_iinc (k := 0) (n := 1) (lv' := [(3, .int (nI ((i + 1) + 1))), (6, .int (nI (zCh tx n (i + 1)))), (5, .int (nI (zCh tx n i))), (0, .ref (ad 0)), (1, .int (nI op)), (2, .int (bI true)), (4, .int (nI k))]) hx hb dX9_cut_179 hl rfl (by decide) rfl (fun ls hl => ?_)
                        refine lv_goto (tgt := 282) hx hb dX9_cut_182 (by decide) ?_
                        refine ln_iinc (k := 6) (n := 1) (lv' := [(4, .int (nI (k + 1))), (3, .int (nI ((i + 1) + 1))), (6, .int (nI (zCh tx n (i + 1)))), (5, .int (nI (zCh tx n i))), (0, .ref (ad 0)), (1, .int (nI op)), (2, .int (bI true))]) hx hb dX9_cut_282 hl rfl (by decide) rfl (fun ls hl => ?_)
                        refine lv_goto (tgt := 19) hx hb dX9_cut_285 (by decide) ?_
                        exact ihlp (k + 1) ((i + 1) + 1) true op (sy + 1) nu (zKp a2 sy (nI 9) (nI (zCh tx n (i + 1))) (nI 0)) _ _ _ (by omega) (⟨by omega, by omega⟩) (⟨by omega, by omega, by omega⟩) (by rw [hq, zQ_rd (by omega) hlt9 (by omega) b155f, if_neg b163t]) (hfa.tr zFa_kp2) (hW) (lv_sub hl [4, 5, 6, 1, 0] rfl)
                      · skip
                        have b163f := h51
                        refine lv_bipush (v := nI 8) hx hb dX9_cut_166 (by decide) ?_
                        refine lv_goto (tgt := 173) hx hb dX9_cut_168 (by decide) ?_
                        refine lv_iload hx hb dX9_cut_173 (lv_at hl 1 rfl) ?_
                        refine lv_iconst (v := nI 0) hx hb dX9_cut_175 (by decide) ?_
                        refine ar_callV (q0 := 0) (ci := 7) (T9 := TX9) (N9 := 27) (As := [.int (nI 8), .int (nI (zCh tx n (i + 1))), .int (nI 0)]) (rest := []) C hW (c_X9_keep hl9 (zGq g sy nu) a2 d sy (by omega) rfl (nI 8) (nI (zCh tx n (i + 1))) (nI 0)) (rfl) rfl q740 q742 qs5 q6 q743 hd_X9_keep ⟨Nat.le_of_ble_eq_true rfl, Nat.le_of_ble_eq_true rfl⟩ hl.1 (Nat.le_of_ble_eq_true rfl) rfl dX9_cut_176 (fun _ _ _ _ _ _ hp => hp.elim) (fun v9 u9 H locs hp hW => ?_)
                        obtain ⟨rfl, hu9⟩ := hp
                        rw [hu9] at hW
                        rw [zGq_8] at hW
                        refine W.eq (g2 := F0 m 179 ls []) rfl ?_
                        refine ln_iinc (k := 0) (n := 1) (lv' := [(3, .int (nI ((i + 1) + 1))), (6, .int (nI (zCh tx n (i + 1)))), (5, .int (nI (zCh tx n i))), (0, .ref (ad 0)), (1, .int (nI op)), (2, .int (bI true)), (4, .int (nI k))]) hx hb dX9_cut_179 hl rfl (by decide) rfl (fun ls hl => ?_)
                        refine lv_goto (tgt := 282) hx hb dX9_cut_182 (by decide) ?_
                        refine ln_iinc (k := 6) (n := 1) (lv' := [(4, .int (nI (k + 1))), (3, .int (nI ((i + 1) + 1))), (6, .int (nI (zCh tx n (i + 1)))), (5, .int (nI (zCh tx n i))), (0, .ref (ad 0)), (1, .int (nI op)), (2, .int (bI true))]) hx hb dX9_cut_282 hl rfl (by decide) rfl (fun ls hl => ?_)
                        refine lv_goto (tgt := 19) hx hb dX9_cut_285 (by decide) ?_
                        exact ihlp (k + 1) ((i + 1) + 1) true op (sy + 1) nu (zKp a2 sy (nI 8) (nI (zCh tx n (i + 1))) (nI 0)) _ _ _ (by omega) (⟨by omega, by omega⟩) (⟨by omega, by omega, by omega⟩) (by rw [hq, zQ_rd (by omega) hlt9 (by omega) b155f, if_pos b163f]) (hfa.tr zFa_kp2) (hW) (lv_sub hl [4, 5, 6, 1, 0] rfl)
              · skip
                have b121f := h9
                refine lv_aload_n hx hb dX9_cut_124 rfl (lv_at hl 3 rfl) ?_
                refine lv_bipush (v := nI 7) hx hb dX9_cut_125 (by decide) ?_
                refine lv_iload hx hb dX9_cut_127 (lv_at hl 2 rfl) ?_
                refine lv_iconst (v := nI 0) hx hb dX9_cut_129 (by decide) ?_
                refine ar_callV (q0 := 0) (ci := 7) (T9 := TX9) (N9 := 27) (As := [.int (nI 7), .int (nI (zCh tx n i)), .int (nI 0)]) (rest := []) C hW (c_X9_keep hl9 (zGq g sy nu) a2 d sy (by omega) rfl (nI 7) (nI (zCh tx n i)) (nI 0)) (rfl) rfl q740 q742 qs5 q6 q743 hd_X9_keep ⟨Nat.le_of_ble_eq_true rfl, Nat.le_of_ble_eq_true rfl⟩ hl.1 (Nat.le_of_ble_eq_true rfl) rfl dX9_cut_130 (fun _ _ _ _ _ _ hp => hp.elim) (fun v9 u9 H locs hp hW => ?_)
                obtain ⟨rfl, hu9⟩ := hp
                rw [hu9] at hW
                rw [zGq_8] at hW
                refine W.eq (g2 := F0 m 133 ls []) rfl ?_
                refine lv_goto (tgt := 282) hx hb dX9_cut_133 (by decide) ?_
                refine ln_iinc (k := 6) (n := 1) (lv' := [(4, .int (nI (k + 1))), (3, .int (nI (i + 1))), (6, .int (nI (zCh tx n (i + 1)))), (5, .int (nI (zCh tx n i))), (0, .ref (ad 0)), (1, .int (nI op)), (2, .int (bI true))]) hx hb dX9_cut_282 hl rfl (by decide) rfl (fun ls hl => ?_)
                refine lv_goto (tgt := 19) hx hb dX9_cut_285 (by decide) ?_
                exact ihlp (k + 1) (i + 1) true op (sy + 1) nu (zKp a2 sy (nI 7) (nI (zCh tx n i)) (nI 0)) _ _ _ (by omega) (⟨by omega, by omega⟩) (⟨by omega, by omega, by omega⟩) (by rw [hq, zQ_fr (by omega) hlt9 (by omega)]) (hfa.tr zFa_kp2) (hW) (lv_sub hl [4, 5, 6, 1, 0] rfl)
          · skip
            subst h7
            refine lv_iload hx hb dX9_cut_62 (lv_at hl 2 rfl) ?_
            refine lv_bipush (v := nI 41) hx hb dX9_cut_64 (by decide) ?_
            refine ln_icmp_ne (tgt := 86) hx hb dX9_cut_66 (by decide) (by omega) (by first | decide | omega) (fun h52 => ?_) (fun h52 => ?_)
            · skip
              have b66t := h52
              refine lv_iload hx hb dX9_cut_86 (lv_at hl 2 rfl) ?_
              refine ar_callS (As := [.int (nI (zCh tx n i))]) (rest := []) C hW (c_X9_isSign hl9 _ (zCh tx n i) (by omega)) q744 q745 q6 q746 hd_X9_isSign ⟨Nat.le_of_ble_eq_true rfl, Nat.le_of_ble_eq_true rfl⟩ hl.1 (Nat.le_of_ble_eq_true rfl) rfl dX9_cut_88 (fun _ _ _ _ _ _ hp => hp.elim) (fun v9 u9 H locs hp hW => ?_)
              obtain ⟨rfl, hu9⟩ := hp
              rw [hu9] at hW
              refine W.eq (g2 := F0 m 91 ls [.int (bI (zSgn (zCh tx n i)))]) rfl ?_
              refine lb_if_eq (tgt := 108) hx hb dX9_cut_91 (by decide) (fun h53 => ?_) (fun h53 => ?_)
              · skip
                have b91t := h53
                refine lv_iconst (v := nI 0) hx hb dX9_cut_108 (by decide) ?_
                exact ar_zret C hr (nI_z0.1) hW dX9_cut_109 ((fun hz : zQ (zCh tx n) n 41 0 true 0 0 0 a = none => ⟨congrArg (fun z => some (Value.int z)) (bI_f (by rw [hz]; rfl)), fun sy9 nu9 a9 h => absurd (hz.symm.trans h) (by intro q; cases q), fun _ => ⟨_, _, zGq_fg, hfa, rfl⟩⟩) (by rw [hq, zQ_no (by omega) hlt9 (by omega) b91t]))
              · skip
                have b91f := h53
                refine lv_iconst (v := nI 1) hx hb dX9_cut_94 (by decide) ?_
                refine lv_istore_n (lv' := [(2, .int (nI 1)), (3, .int (nI (i + 1))), (6, .int (nI (zCh tx n (i + 1)))), (5, .int (nI (zCh tx n i))), (0, .ref (ad 0)), (1, .int (nI op)), (4, .int (nI k))]) hx hb dX9_cut_95 rfl hl (by decide) rfl (fun ls hl => ?_)
                refine lv_aload_n hx hb dX9_cut_96 rfl (lv_at hl 4 rfl) ?_
                refine lv_bipush (v := nI 6) hx hb dX9_cut_97 (by decide) ?_
                refine lv_iload hx hb dX9_cut_99 (lv_at hl 3 rfl) ?_
                refine lv_iconst (v := nI 0) hx hb dX9_cut_101 (by decide) ?_
                refine ar_callV (q0 := 0) (ci := 7) (T9 := TX9) (N9 := 27) (As := [.int (nI 6), .int (nI (zCh tx n i)), .int (nI 0)]) (rest := []) C hW (c_X9_keep hl9 (zGq g sy nu) a2 d sy (by omega) rfl (nI 6) (nI (zCh tx n i)) (nI 0)) (rfl) rfl q740 q742 qs5 q6 q743 hd_X9_keep ⟨Nat.le_of_ble_eq_true rfl, Nat.le_of_ble_eq_true rfl⟩ hl.1 (Nat.le_of_ble_eq_true rfl) rfl dX9_cut_102 (fun _ _ _ _ _ _ hp => hp.elim) (fun v9 u9 H locs hp hW => ?_)
                obtain ⟨rfl, hu9⟩ := hp
                rw [hu9] at hW
                rw [zGq_8] at hW
                refine W.eq (g2 := F0 m 105 ls []) rfl ?_
                refine lv_goto (tgt := 282) hx hb dX9_cut_105 (by decide) ?_
                refine ln_iinc (k := 6) (n := 1) (lv' := [(4, .int (nI (k + 1))), (2, .int (nI 1)), (3, .int (nI (i + 1))), (6, .int (nI (zCh tx n (i + 1)))), (5, .int (nI (zCh tx n i))), (0, .ref (ad 0)), (1, .int (nI op))]) hx hb dX9_cut_282 hl rfl (by decide) rfl (fun ls hl => ?_)
                refine lv_goto (tgt := 19) hx hb dX9_cut_285 (by decide) ?_
                exact ihlp (k + 1) (i + 1) true op (sy + 1) nu (zKp a2 sy (nI 6) (nI (zCh tx n i)) (nI 0)) _ _ _ (by omega) (⟨by omega, by omega⟩) (⟨by omega, by omega, by omega⟩) (by rw [hq, zQ_sg (by omega) hlt9 (by omega) b91f]) (hfa.tr zFa_kp2) (hW) (lv_sub hl [5, 6, 1, 2, 0] rfl)
            · skip
              have b66f := h52
              refine lv_iload_n hx hb dX9_cut_69 rfl (lv_at hl 4 rfl) ?_
              refine ln_if_le (tgt := 86) hx hb dX9_cut_70 (by decide) (by omega) (fun h54 => ?_) (fun h54 => ?_)
              · skip
                have b70t := h54
                refine lv_iload hx hb dX9_cut_86 (lv_at hl 2 rfl) ?_
                refine ar_callS (As := [.int (nI (zCh tx n i))]) (rest := []) C hW (c_X9_isSign hl9 _ (zCh tx n i) (by omega)) q744 q745 q6 q746 hd_X9_isSign ⟨Nat.le_of_ble_eq_true rfl, Nat.le_of_ble_eq_true rfl⟩ hl.1 (Nat.le_of_ble_eq_true rfl) rfl dX9_cut_88 (fun _ _ _ _ _ _ hp => hp.elim) (fun v9 u9 H locs hp hW => ?_)
                obtain ⟨rfl, hu9⟩ := hp
                rw [hu9] at hW
                refine W.eq (g2 := F0 m 91 ls [.int (bI (zSgn (zCh tx n i)))]) rfl ?_
                refine lb_if_eq (tgt := 108) hx hb dX9_cut_91 (by decide) (fun h55 => ?_) (fun h55 => ?_)
                · skip
                  have b91t := h55
                  refine lv_iconst (v := nI 0) hx hb dX9_cut_108 (by decide) ?_
                  exact ar_zret C hr (nI_z0.1) hW dX9_cut_109 ((fun hz : zQ (zCh tx n) n 41 0 true 0 0 0 a = none => ⟨congrArg (fun z => some (Value.int z)) (bI_f (by rw [hz]; rfl)), fun sy9 nu9 a9 h => absurd (hz.symm.trans h) (by intro q; cases q), fun _ => ⟨_, _, zGq_fg, hfa, rfl⟩⟩) (by rw [hq, zQ_no (by omega) hlt9 (by omega) b91t]))
                · skip
                  have b91f := h55
                  refine lv_iconst (v := nI 1) hx hb dX9_cut_94 (by decide) ?_
                  refine lv_istore_n (lv' := [(2, .int (nI 1)), (3, .int (nI (i + 1))), (6, .int (nI (zCh tx n (i + 1)))), (5, .int (nI (zCh tx n i))), (0, .ref (ad 0)), (1, .int (nI op)), (4, .int (nI k))]) hx hb dX9_cut_95 rfl hl (by decide) rfl (fun ls hl => ?_)
                  refine lv_aload_n hx hb dX9_cut_96 rfl (lv_at hl 4 rfl) ?_
                  refine lv_bipush (v := nI 6) hx hb dX9_cut_97 (by decide) ?_
                  refine lv_iload hx hb dX9_cut_99 (lv_at hl 3 rfl) ?_
                  refine lv_iconst (v := nI 0) hx hb dX9_cut_101 (by decide) ?_
                  refine ar_callV (q0 := 0) (ci := 7) (T9 := TX9) (N9 := 27) (As := [.int (nI 6), .int (nI (zCh tx n i)), .int (nI 0)]) (rest := []) C hW (c_X9_keep hl9 (zGq g sy nu) a2 d sy (by omega) rfl (nI 6) (nI (zCh tx n i)) (nI 0)) (rfl) rfl q740 q742 qs5 q6 q743 hd_X9_keep ⟨Nat.le_of_ble_eq_true rfl, Nat.le_of_ble_eq_true rfl⟩ hl.1 (Nat.le_of_ble_eq_true rfl) rfl dX9_cut_102 (fun _ _ _ _ _ _ hp => hp.elim) (fun v9 u9 H locs hp hW => ?_)
                  obtain ⟨rfl, hu9⟩ := hp
                  rw [hu9] at hW
                  rw [zGq_8] at hW
                  refine W.eq (g2 := F0 m 105 ls []) rfl ?_
                  refine lv_goto (tgt := 282) hx hb dX9_cut_105 (by decide) ?_
                  refine ln_iinc (k := 6) (n := 1) (lv' := [(4, .int (nI (k + 1))), (2, .int (nI 1)), (3, .int (nI (i + 1))), (6, .int (nI (zCh tx n (i + 1)))), (5, .int (nI (zCh tx n i))), (0, .ref (ad 0)), (1, .int (nI op))]) hx hb dX9_cut_282 hl rfl (by decide) rfl (fun ls hl => ?_)
                  refine lv_goto (tgt := 19) hx hb dX9_cut_285 (by decide) ?_
                  exact ihlp (k + 1) (i + 1) true op (sy + 1) nu (zKp a2 sy (nI 6) (nI (zCh tx n i)) (nI 0)) _ _ _ (by omega) (⟨by omega, by omega⟩) (⟨by omega, by omega, by omega⟩) (by rw [hq, zQ_sg (by omega) hlt9 (by omega) b91f]) (hfa.tr zFa_kp2) (hW) (lv_sub hl [5, 6, 1, 2, 0] rfl)
              · skip
                have b70f := h54
                refine lv_iinc (k := 4) (v := nI (op - 1)) (lv' := [(1, .int (nI (op - 1))), (3, .int (nI (i + 1))), (6, .int (nI (zCh tx n (i + 1)))), (5, .int (nI (zCh tx n i))), (0, .ref (ad 0)), (2, .int (bI false)), (4, .int (nI k))]) hx hb dX9_cut_73 hl rfl ((zPr_d op).trans (nI_dec b70f)) (by decide) rfl (fun ls hl => ?_)
                refine lv_aload_n hx hb dX9_cut_76 rfl (lv_at hl 4 rfl) ?_
                refine lv_iconst (v := nI 5) hx hb dX9_cut_77 (by decide) ?_
                refine lv_iconst (v := nI 0) hx hb dX9_cut_78 (by decide) ?_
                refine lv_iconst (v := nI 0) hx hb dX9_cut_79 (by decide) ?_
                refine ar_callV (q0 := 0) (ci := 7) (T9 := TX9) (N9 := 27) (As := [.int (nI 5), .int (nI 0), .int (nI 0)]) (rest := []) C hW (c_X9_keep hl9 (zGq g sy nu) a2 d sy (by omega) rfl (nI 5) (nI 0) (nI 0)) (rfl) rfl q740 q742 qs5 q6 q743 hd_X9_keep ⟨Nat.le_of_ble_eq_true rfl, Nat.le_of_ble_eq_true rfl⟩ hl.1 (Nat.le_of_ble_eq_true rfl) rfl dX9_cut_80 (fun _ _ _ _ _ _ hp => hp.elim) (fun v9 u9 H locs hp hW => ?_)
                obtain ⟨rfl, hu9⟩ := hp
                rw [hu9] at hW
                rw [zGq_8] at hW
                refine W.eq (g2 := F0 m 83 ls []) rfl ?_
                refine lv_goto (tgt := 282) hx hb dX9_cut_83 (by decide) ?_
                refine ln_iinc (k := 6) (n := 1) (lv' := [(4, .int (nI (k + 1))), (1, .int (nI (op - 1))), (3, .int (nI (i + 1))), (6, .int (nI (zCh tx n (i + 1)))), (5, .int (nI (zCh tx n i))), (0, .ref (ad 0)), (2, .int (bI false))]) hx hb dX9_cut_282 hl rfl (by decide) rfl (fun ls hl => ?_)
                refine lv_goto (tgt := 19) hx hb dX9_cut_285 (by decide) ?_
                exact ihlp (k + 1) (i + 1) false (op - 1) (sy + 1) nu (zKp a2 sy (nI 5) (nI 0) (nI 0)) _ _ _ (by omega) (⟨by omega, by omega⟩) (⟨by omega, by omega, by omega⟩) (by rw [hq, zQ_cl (by omega) hlt9 b66f b70f]) (hfa.tr zFa_kp2) (hW) (lv_sub hl [5, 1, 6, 2, 0] rfl)
  exact lp _ 0 0 true 0 0 0 a _ _ _ (Nat.lt_succ_self _) (⟨Nat.le_refl _, Nat.zero_le _⟩) (⟨Nat.le_refl _, Nat.le_refl _, Nat.le_refl _⟩) (rfl) (zFa.rf a) (hW) (lv_sub hl [4, 3, 2, 1, 0] rfl)
