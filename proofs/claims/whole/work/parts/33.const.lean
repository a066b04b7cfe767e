/-- behind a number of a constant, as the other side reads -/
def zMd (c : Nat → Nat) : Nat → Nat → Option (Nat × List Nat)
  | 0, e => some (e, [])
  | f + 1, e => if c e = 32 ∧ zDg (c (e + 1)) = true then (if zDr c 5 (e + 1) = 5 then none else (zMd c f (e + 1 + zDr c 5 (e + 1))).map (fun r => (r.1, zNm c (e + 1) (zDr c 5 (e + 1)) :: r.2))) else some (e, [])
def zMc (c : Nat → Nat) (i : Nat) : Option (Nat × List Nat) := if zDr c 5 i = 5 then none else (zMd c 24 (i + zDr c 5 i)).map (fun r => (r.1, [zNm c i (zDr c 5 i)] ++ r.2))
theorem zMd_s {c : Nat → Nat} {k e : Nat} (hk : k < 24) (h1 : c e = 32) (h2 : zDg (c (e + 1)) = true) (h : zDr c 5 (e + 1) ≠ 5) : zMd c (24 - k) e = (zMd c (24 - (k + 1)) (e + 1 + zDr c 5 (e + 1))).map (fun r => (r.1, zNm c (e + 1) (zDr c 5 (e + 1)) :: r.2)) := by
  rw [show 24 - k = (24 - (k + 1)) + 1 by omega, zMd, if_pos ⟨h1, h2⟩, if_neg h]
theorem zMd_n {c : Nat → Nat} {k e : Nat} (hk : k < 24) (h1 : c e = 32) (h2 : zDg (c (e + 1)) = true) (h : zDr c 5 (e + 1) = 5) : zMd c (24 - k) e = none := by
  rw [show 24 - k = (24 - (k + 1)) + 1 by omega, zMd, if_pos ⟨h1, h2⟩, if_pos h]
theorem zMd_e {c : Nat → Nat} {k e : Nat} (h : ¬ (c e = 32 ∧ zDg (c (e + 1)) = true)) : zMd c k e = some (e, []) := by
  cases k with
  | zero => rfl
  | succ k => rw [zMd, if_neg h]
theorem zNm_5 {c : Nat → Nat} {q : Nat} (h : zDr c 5 q ≠ 5) : zNm c q (zDr c 5 q) < 10000 := by
  rw [← zDr_45 h]
  exact zNm_4
theorem zDr_pos {c : Nat → Nat} {q k : Nat} (h : zDg (c q) = true) : zDr c (k + 1) q ≠ 0 := by
  rw [zDr, if_pos h]
  omega
def zFa (a a2 : Nat → Nat → Int32) : Prop := ∀ k, (k < 4 ∨ 7 < k) → a2 k = a k
def zFg (g g2 : Nat → Int32) : Prop := ∀ k, k ≠ 8 → k ≠ 9 → g2 k = g k
theorem zFa_kp {a : Nat → Nat → Int32} {i : Nat} {x y z : Int32} {f : Nat → Int32} : zFa a (zKp (va_up a 7 f) i x y z) := by
  intro k hk
  unfold zKp
  rw [va_up_ne _ _ (by omega), va_up_ne _ _ (by omega), va_up_ne _ _ (by omega), va_up_ne _ _ (by omega)]
theorem zFg_98 {g : Nat → Int32} {x y : Int32} : zFg g (va_up (va_up g 9 x) 8 y) := by
  intro k h8 h9
  rw [va_up_ne _ _ h8, va_up_ne _ _ h9]
theorem zFa.rf (a : Nat → Nat → Int32) : zFa a a := fun _ _ => rfl
theorem zFg.rf (g : Nat → Int32) : zFg g g := fun _ _ _ => rfl
theorem zFa.tr {a b c : Nat → Nat → Int32} (h : zFa a b) (k : zFa b c) : zFa a c := fun i hi => (k i hi).trans (h i hi)
theorem zFg.tr {a b c : Nat → Int32} (h : zFg a b) (k : zFg b c) : zFg a c := fun i h1 h2 => (k i h1 h2).trans (h i h1 h2)
def zNr (f : Nat → Int32) (nu : Nat) (v : List Nat) : Nat → Int32 := fun q => if nu ≤ q ∧ q < nu + v.length then nI (v.getD (q - nu) 0) else f q
theorem zNr_s {f : Nat → Int32} {nu v : Nat} {acc : List Nat} : va_up (zNr f nu acc) (nu + acc.length) (nI v) = zNr f nu (acc ++ [v]) := by
  funext q
  unfold va_up zNr
  rw [List.length_append, gD_app]
  show (if q = nu + acc.length then nI v else _) = if nu ≤ q ∧ q < nu + (acc.length + 1) then _ else _
  by_cases h : q = nu + acc.length
  · rw [if_pos h, if_pos (by omega), if_neg (by omega), if_pos (by omega)]
  · rw [if_neg h]
    by_cases h2 : nu ≤ q ∧ q < nu + acc.length
    · rw [if_pos h2, if_pos (by omega), if_pos (by omega)]
    · rw [if_neg h2, if_neg (by omega)]
theorem zNr_0 {f : Nat → Int32} {nu v : Nat} : va_up f nu (nI v) = zNr f nu [v] := by
  funext q
  unfold va_up zNr
  show (if q = nu then nI v else _) = if nu ≤ q ∧ q < nu + 1 then _ else _
  by_cases h : q = nu
  · rw [if_pos h, if_pos (by omega), h, Nat.sub_self]
    rfl
  · rw [if_neg h, if_neg (by omega)]
theorem hd_X9_constant : yX9_constant.cls ≠ "java/lang/invoke/MethodHandle" ∧ yX9_constant.cls ≠ "java/lang/invoke/VarHandle" ∧ (parseMethodDescriptor yX9_constant.desc).map (fun d => d.parameters.length) = some 1 := by decide +kernel
set_option maxHeartbeats 4000000 in
set_option maxRecDepth 100000 in
theorem c_X9_constant {l : Launch} (hl9 : l.stackTraces = false) {D : va_G} {ct : Nat → ClassId} {ad : Nat → Nat} (g : Nat → Int32) (a : Nat → Nat → Int32) (d : Nat → Nat → UInt64) (n : Nat) (tx : Nat → Nat) (hn : n ≤ 40) (hlen : g 1 = nI n) (htx : ∀ j, j < n → a 1 j = nI (tx j)) (hcx : ∀ j, j < n → 1 ≤ tx j ∧ tx j ≤ 127) (i : Nat) (hi9 : i < n) (hdg : zDg (zCh tx n i) = true) (nu : Nat) (hnu : nu ≤ i) (hnc : g 9 = nI nu) (sy : Nat) (hsl : sy < 40) (hsy : g 8 = nI sy) : ar_M l yX9_constant cX9_constant 5 (some .int) 3 65 D ct (mL ad ct) [.ref (ad 0), .int (nI i)] (g, a, d) (fun v9 u9 => (∃ (e9 : Nat) (vs : List Nat), zMc (zCh tx n) i = some (e9, vs) ∧ i < e9 ∧ e9 ≤ n ∧ 1 ≤ vs.length ∧ i + 2 * vs.length ≤ e9 + 1 ∧ v9 = some (.int (nI e9)) ∧ u9 = (va_up (va_up g 9 (nI (nu + vs.length))) 8 (nI (sy + 1)), zKp (va_up a 7 (zNr (a 7) nu vs)) sy (nI 2) (nI nu) (nI vs.length), d)) ∨ (zMc (zCh tx n) i = none ∧ v9 = some (.int (-1)) ∧ ∃ (g2 : Nat → Int32) (a2 : Nat → Nat → Int32), zFg g g2 ∧ zFa a a2 ∧ u9 = (g2, a2, d))) (fun _ _ => False) := by
  refine ar_ofW hl9 (by decide) (Nat.le_of_ble_eq_true rfl) ?_
  intro p e s m below meth c A ls C hr hnm hW hl
  have hx := C.1
  have hb := C.2.1
  have hown := C.2.2.2.1
  have hts := C.2.2.2.2.1
  have hl : lv_has ls 5 [(0, .ref (ad 0)), (1, .int (nI i))] := hl
  have hzp0 := zDr_pos (k := 4) hdg
  refine lv_aload_n hx hb dX9_constant_0 rfl (lv_at hl 0 rfl) ?_
  refine mg_numberCount C hW q596 dX9_constant_1 ?_
  refine ln_top (hnc) ?_
  refine lv_istore_n (lv' := [(2, .int (nI nu)), (0, .ref (ad 0)), (1, .int (nI i))]) hx hb dX9_constant_4 rfl hl (by decide) rfl (fun ls hl => ?_)
  refine lv_aload_n hx hb dX9_constant_5 rfl (lv_at hl 1 rfl) ?_
  refine lv_iload_n hx hb dX9_constant_6 rfl (lv_at hl 2 rfl) ?_
  refine ar_callV (q0 := 0) (ci := 7) (T9 := TX9) (N9 := 27) (As := [.int (nI i)]) (rest := []) C hW (c_X9_number hl9 g a d n tx hn hlen htx hcx i (by omega) nu (by omega) hnc) (rfl) rfl q750 q752 qs6 q6 q753 hd_X9_number ⟨Nat.le_of_ble_eq_true rfl, Nat.le_of_ble_eq_true rfl⟩ hl.1 (Nat.le_of_ble_eq_true rfl) rfl dX9_constant_7 (fun _ _ _ _ _ _ hp => hp.elim) (fun v9 u9 H locs hp hW => ?_)
  rcases hp with ⟨hz0, hz5, rfl, hu9⟩ | ⟨hz5, rfl, hu9⟩
  · skip
    rw [hu9] at hW
    try simp only [bx_uu, va_up_self] at hW
    refine W.eq (g2 := F0 m 10 ls [.int (nI (i + zDr (zCh tx n) 5 i))]) rfl ?_
    refine lv_istore_n (lv' := [(3, .int (nI (i + zDr (zCh tx n) 5 i))), (2, .int (nI nu)), (0, .ref (ad 0)), (1, .int (nI i))]) hx hb dX9_constant_10 rfl hl (by decide) rfl (fun ls hl => ?_)
    refine lv_iconst (v := nI 0) hx hb dX9_constant_11 (by decide) ?_
    refine lv_istore (lv' := [(4, .int (nI 0)), (3, .int (nI (i + zDr (zCh tx n) 5 i))), (2, .int (nI nu)), (0, .ref (ad 0)), (1, .int (nI i))]) hx hb dX9_constant_12 hl (by decide) rfl (fun ls hl => ?_)
    have lp : ∀ (N9 : Nat) (k : Nat) (e9 : Nat) (f : Nat → Int32) (acc : List Nat) (H : Heap) (locs : List Loc) (ls : Array Slot), 24 - k < N9 → (acc.length = k + 1) → (i + 2 * k + 1 ≤ e9 ∧ e9 ≤ n) → (zMc (zCh tx n) i = (zMd (zCh tx n) (24 - k) e9).map (fun r => (r.1, acc ++ r.2))) → (f = zNr (a 7) nu acc) → ar_W D A s.heap H locs (mL ad ct (va_up g 9 (nI (nu + (k + 1))), va_up a 7 f, d)) → lv_has ls 5 [(0, .ref (ad 0)), (1, .int (nI i)), (2, .int (nI nu)), (3, .int (nI e9)), (4, .int (nI k))] → W p l e (ar_rm 3 65) s m [.ref (ad 0), .int (nI i)].toArray below meth c H locs 0 0 (ar_E below (ar_Q D ct (mL ad ct) A (fun v9 u9 => (∃ (e9 : Nat) (vs : List Nat), zMc (zCh tx n) i = some (e9, vs) ∧ i < e9 ∧ e9 ≤ n ∧ 1 ≤ vs.length ∧ i + 2 * vs.length ≤ e9 + 1 ∧ v9 = some (.int (nI e9)) ∧ u9 = (va_up (va_up g 9 (nI (nu + vs.length))) 8 (nI (sy + 1)), zKp (va_up a 7 (zNr (a 7) nu vs)) sy (nI 2) (nI nu) (nI vs.length), d)) ∨ (zMc (zCh tx n) i = none ∧ v9 = some (.int (-1)) ∧ ∃ (g2 : Nat → Int32) (a2 : Nat → Nat → Int32), zFg g g2 ∧ zFa a a2 ∧ u9 = (g2, a2, d))) (fun _ _ => False)) [.ref (ad 0), .int (nI i)].toArray s) (F0 m 14 ls []) := by
      intro N9
      induction N9 with
      | zero =>
        intro k e9 f acc H locs ls hN9
        exact absurd hN9 (Nat.not_lt_zero _)
      | succ N9 ihlp =>
        intro k e9 f acc H locs ls hN9 hk hp9 hz hf hW hl
        refine lv_iload hx hb dX9_constant_14 (lv_at hl 4 rfl) ?_
        refine lv_bipush (v := nI 24) hx hb dX9_constant_16 (by decide) ?_
        refine ln_icmp_ge (tgt := 62) hx hb dX9_constant_18 (by decide) (by omega) (by omega) (fun h1 => ?_) (fun h1 => ?_)
        · skip
          exfalso; omega
        · skip
          refine lv_iload_n hx hb dX9_constant_21 rfl (lv_at hl 3 rfl) ?_
          refine ln_if_le (tgt := 62) hx hb dX9_constant_22 (by decide) (by omega) (fun h2 => ?_) (fun h2 => ?_)
          · skip
            exfalso; omega
          · skip
            refine lv_aload_n hx hb dX9_constant_25 rfl (lv_at hl 0 rfl) ?_
            refine lv_iload_n hx hb dX9_constant_26 rfl (lv_at hl 3 rfl) ?_
            refine ar_callV (q0 := 0) (ci := 7) (T9 := TX9) (N9 := 27) (As := [.int (nI e9)]) (rest := []) C hW (c_X9_charAt hl9 (va_up g 9 (nI (nu + (k + 1)))) (va_up a 7 f) d n tx hn hlen htx hcx e9 (by omega)) (rfl) rfl q736 q738 qs4 q6 q739 hd_X9_charAt ⟨Nat.le_of_ble_eq_true rfl, Nat.le_of_ble_eq_true rfl⟩ hl.1 (Nat.le_of_ble_eq_true rfl) rfl dX9_constant_27 (fun _ _ _ _ _ _ hp => hp.elim) (fun v9 u9 H locs hp hW => ?_)
            obtain ⟨rfl, hu9⟩ := hp
            rw [hu9] at hW
            refine W.eq (g2 := F0 m 30 ls [.int (nI (zCh tx n e9))]) rfl ?_
            refine lv_bipush (v := nI 32) hx hb dX9_constant_30 (by decide) ?_
            refine ln_icmp_ne (tgt := 62) hx hb dX9_constant_32 (by decide) (by have := zCh_lt (q := e9) hcx; omega) (by decide) (fun h3 => ?_) (fun h3 => ?_)
            · skip
              refine lv_aload_n hx hb dX9_constant_62 rfl (lv_at hl 0 rfl) ?_
              refine lv_iconst (v := nI 2) hx hb dX9_constant_63 (by decide) ?_
              refine lv_iload_n hx hb dX9_constant_64 rfl (lv_at hl 2 rfl) ?_
              refine lv_aload_n hx hb dX9_constant_65 rfl (lv_at hl 0 rfl) ?_
              refine mg_numberCount C hW q596 dX9_constant_66 ?_
              rw [va_up_self]
              refine lv_iload_n hx hb dX9_constant_69 rfl (lv_at hl 2 rfl) ?_
              refine ln_isub hx hb dX9_constant_70 (by omega) ?_
              refine ar_callV (q0 := 0) (ci := 7) (T9 := TX9) (N9 := 27) (As := [.int (nI 2), .int (nI nu), .int (nI ((nu + (k + 1)) - nu))]) (rest := []) C hW (c_X9_keep hl9 (va_up g 9 (nI (nu + (k + 1)))) (va_up a 7 f) d sy (by omega) hsy (nI 2) (nI nu) (nI ((nu + (k + 1)) - nu))) (rfl) rfl q740 q742 qs5 q6 q743 hd_X9_keep ⟨Nat.le_of_ble_eq_true rfl, Nat.le_of_ble_eq_true rfl⟩ hl.1 (Nat.le_of_ble_eq_true rfl) rfl dX9_constant_71 (fun _ _ _ _ _ _ hp => hp.elim) (fun v9 u9 H locs hp hW => ?_)
              obtain ⟨rfl, hu9⟩ := hp
              rw [hu9] at hW
              refine W.eq (g2 := F0 m 74 ls []) rfl ?_
              refine lv_iload_n hx hb dX9_constant_74 rfl (lv_at hl 3 rfl) ?_
              exact ar_iret C hr hW dX9_constant_75 (Or.inl ⟨e9, acc, by rw [hz, zMd_e (fun q => h3 q.1)]; simp, by omega, by omega, by omega, by omega, rfl, by rw [hf, hk, show nu + (k + 1) - nu = k + 1 by omega]⟩)
            · skip
              refine lv_aload_n hx hb dX9_constant_35 rfl (lv_at hl 0 rfl) ?_
              refine lv_iload_n hx hb dX9_constant_36 rfl (lv_at hl 3 rfl) ?_
              refine lv_iconst (v := nI 1) hx hb dX9_constant_37 (by decide) ?_
              refine ln_iadd hx hb dX9_constant_38 ?_
              refine ar_callV (q0 := 0) (ci := 7) (T9 := TX9) (N9 := 27) (As := [.int (nI (e9 + 1))]) (rest := []) C hW (c_X9_charAt hl9 (va_up g 9 (nI (nu + (k + 1)))) (va_up a 7 f) d n tx hn hlen htx hcx (e9 + 1) (by omega)) (rfl) rfl q736 q738 qs4 q6 q739 hd_X9_charAt ⟨Nat.le_of_ble_eq_true rfl, Nat.le_of_ble_eq_true rfl⟩ hl.1 (Nat.le_of_ble_eq_true rfl) rfl dX9_constant_39 (fun _ _ _ _ _ _ hp => hp.elim) (fun v9 u9 H locs hp hW => ?_)
              obtain ⟨rfl, hu9⟩ := hp
              rw [hu9] at hW
              refine W.eq (g2 := F0 m 42 ls [.int (nI (zCh tx n (e9 + 1)))]) rfl ?_
              refine ar_callS (As := [.int (nI (zCh tx n (e9 + 1)))]) (rest := []) C hW (c_X9_isDigit hl9 _ (nI (zCh tx n (e9 + 1)))) q754 q755 q6 q756 hd_X9_isDigit ⟨Nat.le_of_ble_eq_true rfl, Nat.le_of_ble_eq_true rfl⟩ hl.1 (Nat.le_of_ble_eq_true rfl) rfl dX9_constant_42 (fun _ _ _ _ _ _ hp => hp.elim) (fun v9 u9 H locs hp hW => ?_)
              obtain ⟨rfl, hu9⟩ := hp
              rw [hu9] at hW
              refine W.eq (g2 := F0 m 45 ls [.int (bI (zIn (nI (zCh tx n (e9 + 1))) (nI 48) (nI 57)))]) rfl ?_
              refine lb_if_eq (tgt := 62) hx hb dX9_constant_45 (by decide) (fun h4 => ?_) (fun h4 => ?_)
              · skip
                rw [zIn_nat (by have := zCh_lt (q := e9 + 1) hcx; omega) (by decide) (by decide)] at h4
                have h4d : zDg (zCh tx n (e9 + 1)) = false := h4
                refine lv_aload_n hx hb dX9_constant_62 rfl (lv_at hl 0 rfl) ?_
                refine lv_iconst (v := nI 2) hx hb dX9_constant_63 (by decide) ?_
                refine lv_iload_n hx hb dX9_constant_64 rfl (lv_at hl 2 rfl) ?_
                refine lv_aload_n hx hb dX9_constant_65 rfl (lv_at hl 0 rfl) ?_
                refine mg_numberCount C hW q596 dX9_constant_66 ?_
                rw [va_up_self]
                refine lv_iload_n hx hb dX9_constant_69 rfl (lv_at hl 2 rfl) ?_
                refine ln_isub hx hb dX9_constant_70 (by omega) ?_
                refine ar_callV (q0 := 0) (ci := 7) (T9 := TX9) (N9 := 27) (As := [.int (nI 2), .int (nI nu), .int (nI ((nu + (k + 1)) - nu))]) (rest := []) C hW (c_X9_keep hl9 (va_up g 9 (nI (nu + (k + 1)))) (va_up a 7 f) d sy (by omega) hsy (nI 2) (nI nu) (nI ((nu + (k + 1)) - nu))) (rfl) rfl q740 q742 qs5 q6 q743 hd_X9_keep ⟨Nat.le_of_ble_eq_true rfl, Nat.le_of_ble_eq_true rfl⟩ hl.1 (Nat.le_of_ble_eq_true rfl) rfl dX9_constant_71 (fun _ _ _ _ _ _ hp => hp.elim) (fun v9 u9 H locs hp hW => ?_)
                obtain ⟨rfl, hu9⟩ := hp
                rw [hu9] at hW
                refine W.eq (g2 := F0 m 74 ls []) rfl ?_
                refine lv_iload_n hx hb dX9_constant_74 rfl (lv_at hl 3 rfl) ?_
                exact ar_iret C hr hW dX9_constant_75 (Or.inl ⟨e9, acc, by rw [hz, zMd_e (fun q => by rw [h4d] at q; cases q.2)]; simp, by omega, by omega, by omega, by omega, rfl, by rw [hf, hk, show nu + (k + 1) - nu = k + 1 by omega]⟩)
              · skip
                rw [zIn_nat (by have := zCh_lt (q := e9 + 1) hcx; omega) (by decide) (by decide)] at h4
                have h4d : zDg (zCh tx n (e9 + 1)) = true := h4
                have hin : e9 + 1 < n := zCh_pos (tx := tx) (by have := (zDg_iff.mp h4d).1; omega)
                have hzp := zDr_pos (k := 4) h4d
                refine lv_aload_n hx hb dX9_constant_48 rfl (lv_at hl 0 rfl) ?_
                refine lv_iload_n hx hb dX9_constant_49 rfl (lv_at hl 3 rfl) ?_
                refine lv_iconst (v := nI 1) hx hb dX9_constant_50 (by decide) ?_
                refine ln_iadd hx hb dX9_constant_51 ?_
                refine ar_callV (q0 := 0) (ci := 7) (T9 := TX9) (N9 := 27) (As := [.int (nI (e9 + 1))]) (rest := []) C hW (c_X9_number hl9 (va_up g 9 (nI (nu + (k + 1)))) (va_up a 7 f) d n tx hn hlen htx hcx (e9 + 1) (by omega) (nu + (k + 1)) (by omega) (va_up_self _ _ _)) (rfl) rfl q750 q752 qs6 q6 q753 hd_X9_number ⟨Nat.le_of_ble_eq_true rfl, Nat.le_of_ble_eq_true rfl⟩ hl.1 (Nat.le_of_ble_eq_true rfl) rfl dX9_constant_52 (fun _ _ _ _ _ _ hp => hp.elim) (fun v9 u9 H locs hp hW => ?_)
                rcases hp with ⟨hz0, hz5, rfl, hu9⟩ | ⟨hz5, rfl, hu9⟩
                · skip
                  rw [hu9] at hW
                  try simp only [bx_uu, va_up_self] at hW
                  refine W.eq (g2 := F0 m 55 ls [.int (nI ((e9 + 1) + zDr (zCh tx n) 5 (e9 + 1)))]) rfl ?_
                  refine lv_istore_n (lv' := [(3, .int (nI ((e9 + 1) + zDr (zCh tx n) 5 (e9 + 1)))), (0, .ref (ad 0)), (1, .int (nI i)), (2, .int (nI nu)), (4, .int (nI k))]) hx hb dX9_constant_55 rfl hl (by decide) rfl (fun ls hl => ?_)
                  refine ln_iinc (k := 4) (n := 1) (lv' := [(4, .int (nI (k + 1))), (3, .int (nI ((e9 + 1) + zDr (zCh tx n) 5 (e9 + 1)))), (0, .ref (ad 0)), (1, .int (nI i)), (2, .int (nI nu))]) hx hb dX9_constant_56 hl rfl (by decide) rfl (fun ls hl => ?_)
                  refine lv_goto (tgt := 14) hx hb dX9_constant_59 (by decide) ?_
                  exact ihlp (k + 1) (e9 + 1 + zDr (zCh tx n) 5 (e9 + 1)) (va_up f (nu + (k + 1)) (nI (zNm (zCh tx n) (e9 + 1) (zDr (zCh tx n) 5 (e9 + 1))))) (acc ++ [zNm (zCh tx n) (e9 + 1) (zDr (zCh tx n) 5 (e9 + 1))]) _ _ _ (by omega) (by rw [List.length_append, hk]; rfl) (⟨by omega, zDr_in (by omega)⟩) (by rw [hz, zMd_s h1 h3 h4d hz5, Option.map_map]; congr 1; funext r; simp) (by rw [hf, ← hk]; exact zNr_s) (hW) (lv_sub hl [2, 3, 4, 1, 0] rfl)
                · skip
                  rw [hu9] at hW
                  refine W.eq (g2 := F0 m 55 ls [.int ((-1))]) rfl ?_
                  refine lv_istore_n (lv' := [(3, .int ((-1))), (0, .ref (ad 0)), (1, .int (nI i)), (2, .int (nI nu)), (4, .int (nI k))]) hx hb dX9_constant_55 rfl hl (by decide) rfl (fun ls hl => ?_)
                  refine ln_iinc (k := 4) (n := 1) (lv' := [(4, .int (nI (k + 1))), (3, .int ((-1))), (0, .ref (ad 0)), (1, .int (nI i)), (2, .int (nI nu))]) hx hb dX9_constant_56 hl rfl (by decide) rfl (fun ls hl => ?_)
                  refine lv_goto (tgt := 14) hx hb dX9_constant_59 (by decide) ?_
                  refine lv_iload hx hb dX9_constant_14 (lv_at hl 0 rfl) ?_
                  refine lv_bipush (v := nI 24) hx hb dX9_constant_16 (by decide) ?_
                  refine ln_icmp_ge (tgt := 62) hx hb dX9_constant_18 (by decide) (by omega) (by omega) (fun h5 => ?_) (fun h5 => ?_)
                  · skip
                    refine lv_aload_n hx hb dX9_constant_62 rfl (lv_at hl 2 rfl) ?_
                    refine lv_iconst (v := nI 2) hx hb dX9_constant_63 (by decide) ?_
                    refine lv_iload_n hx hb dX9_constant_64 rfl (lv_at hl 4 rfl) ?_
                    refine lv_aload_n hx hb dX9_constant_65 rfl (lv_at hl 2 rfl) ?_
                    refine mg_numberCount C hW q596 dX9_constant_66 ?_
                    rw [va_up_self]
                    refine lv_iload_n hx hb dX9_constant_69 rfl (lv_at hl 4 rfl) ?_
                    refine ln_isub hx hb dX9_constant_70 (by omega) ?_
                    refine ar_callV (q0 := 0) (ci := 7) (T9 := TX9) (N9 := 27) (As := [.int (nI 2), .int (nI nu), .int (nI ((nu + (k + 1)) - nu))]) (rest := []) C hW (c_X9_keep hl9 (va_up g 9 (nI (nu + (k + 1)))) (va_up a 7 f) d sy (by omega) hsy (nI 2) (nI nu) (nI ((nu + (k + 1)) - nu))) (rfl) rfl q740 q742 qs5 q6 q743 hd_X9_keep ⟨Nat.le_of_ble_eq_true rfl, Nat.le_of_ble_eq_true rfl⟩ hl.1 (Nat.le_of_ble_eq_true rfl) rfl dX9_constant_71 (fun _ _ _ _ _ _ hp => hp.elim) (fun v9 u9 H locs hp hW => ?_)
                    obtain ⟨rfl, hu9⟩ := hp
                    rw [hu9] at hW
                    refine W.eq (g2 := F0 m 74 ls []) rfl ?_
                    refine lv_iload_n hx hb dX9_constant_74 rfl (lv_at hl 1 rfl) ?_
                    exact ar_iret C hr hW dX9_constant_75 (Or.inr ⟨by rw [hz, zMd_n h1 h3 h4d (hz5.resolve_left hzp)]; rfl, rfl, _, _, zFg_98, zFa_kp, rfl⟩)
                  · skip
                    refine lv_iload_n hx hb dX9_constant_21 rfl (lv_at hl 1 rfl) ?_
                    refine lv_if_le (tgt := 62) hx hb dX9_constant_22 (by decide) (fun h6 => ?_) (fun h6 => ?_)
                    · skip
                      refine lv_aload_n hx hb dX9_constant_62 rfl (lv_at hl 2 rfl) ?_
                      refine lv_iconst (v := nI 2) hx hb dX9_constant_63 (by decide) ?_
                      refine lv_iload_n hx hb dX9_constant_64 rfl (lv_at hl 4 rfl) ?_
                      refine lv_aload_n hx hb dX9_constant_65 rfl (lv_at hl 2 rfl) ?_
                      refine mg_numberCount C hW q596 dX9_constant_66 ?_
                      rw [va_up_self]
                      refine lv_iload_n hx hb dX9_constant_69 rfl (lv_at hl 4 rfl) ?_
                      refine ln_isub hx hb dX9_constant_70 (by omega) ?_
                      refine ar_callV (q0 := 0) (ci := 7) (T9 := TX9) (N9 := 27) (As := [.int (nI 2), .int (nI nu), .int (nI ((nu + (k + 1)) - nu))]) (rest := []) C hW (c_X9_keep hl9 (va_up g 9 (nI (nu + (k + 1)))) (va_up a 7 f) d sy (by omega) hsy (nI 2) (nI nu) (nI ((nu + (k + 1)) - nu))) (rfl) rfl q740 q742 qs5 q6 q743 hd_X9_keep ⟨Nat.le_of_ble_eq_true rfl, Nat.le_of_ble_eq_true rfl⟩ hl.1 (Nat.le_of_ble_eq_true rfl) rfl dX9_constant_71 (fun _ _ _ _ _ _ hp => hp.elim) (fun v9 u9 H locs hp hW => ?_)
                      obtain ⟨rfl, hu9⟩ := hp
                      rw [hu9] at hW
                      refine W.eq (g2 := F0 m 74 ls []) rfl ?_
                      refine lv_iload_n hx hb dX9_constant_74 rfl (lv_at hl 1 rfl) ?_
                      exact ar_iret C hr hW dX9_constant_75 (Or.inr ⟨by rw [hz, zMd_n h1 h3 h4d (hz5.resolve_left hzp)]; rfl, rfl, _, _, zFg_98, zFa_kp, rfl⟩)
                    · skip
                      exact absurd (by decide) h6
    exact lp _ 0 (i + zDr (zCh tx n) 5 i) (va_up (a 7) nu (nI (zNm (zCh tx n) i (zDr (zCh tx n) 5 i)))) ([zNm (zCh tx n) i (zDr (zCh tx n) 5 i)]) _ _ _ (Nat.lt_succ_self _) (rfl) (⟨by omega, zDr_in (by omega)⟩) (by unfold zMc; rw [if_neg hz5]) (zNr_0) (hW) (lv_sub hl [3, 4, 2, 1, 0] rfl)
  · skip
    rw [hu9] at hW
    refine W.eq (g2 := F0 m 10 ls [.int ((-1))]) rfl ?_
    refine lv_istore_n (lv' := [(3, .int ((-1))), (2, .int (nI nu)), (0, .ref (ad 0)), (1, .int (nI i))]) hx hb dX9_constant_10 rfl hl (by decide) rfl (fun ls hl => ?_)
    refine lv_iconst (v := nI 0) hx hb dX9_constant_11 (by decide) ?_
    refine lv_istore (lv' := [(4, .int (nI 0)), (3, .int ((-1))), (2, .int (nI nu)), (0, .ref (ad 0)), (1, .int (nI i))]) hx hb dX9_constant_12 hl (by decide) rfl (fun ls hl => ?_)
    refine lv_iload hx hb dX9_constant_14 (lv_at hl 0 rfl) ?_
    refine lv_bipush (v := nI 24) hx hb dX9_constant_16 (by decide) ?_
    refine ln_icmp_ge (tgt := 62) hx hb dX9_constant_18 (by decide) (by decide) (by decide) (fun h7 => absurd h7 (by decide)) (fun _ => ?_)
    refine lv_iload_n hx hb dX9_constant_21 rfl (lv_at hl 1 rfl) ?_
    refine lv_if_le (tgt := 62) hx hb dX9_constant_22 (by decide) (fun h8 => ?_) (fun h8 => ?_)
    · skip
      rw [show g = va_up g 9 (nI nu) from (va_up_s hnc).symm, show a = va_up a 7 (a 7) from (va_up_id a 7).symm] at hW
      refine lv_aload_n hx hb dX9_constant_62 rfl (lv_at hl 3 rfl) ?_
      refine lv_iconst (v := nI 2) hx hb dX9_constant_63 (by decide) ?_
      refine lv_iload_n hx hb dX9_constant_64 rfl (lv_at hl 2 rfl) ?_
      refine lv_aload_n hx hb dX9_constant_65 rfl (lv_at hl 3 rfl) ?_
      refine mg_numberCount C hW q596 dX9_constant_66 ?_
      rw [va_up_self]
      refine lv_iload_n hx hb dX9_constant_69 rfl (lv_at hl 2 rfl) ?_
      refine ln_isub hx hb dX9_constant_70 (by omega) ?_
      refine ar_callV (q0 := 0) (ci := 7) (T9 := TX9) (N9 := 27) (As := [.int (nI 2), .int (nI nu), .int (nI (nu - nu))]) (rest := []) C hW (c_X9_keep hl9 (va_up g 9 (nI nu)) (va_up a 7 (a 7)) d sy (by omega) hsy (nI 2) (nI nu) (nI (nu - nu))) (rfl) rfl q740 q742 qs5 q6 q743 hd_X9_keep ⟨Nat.le_of_ble_eq_true rfl, Nat.le_of_ble_eq_true rfl⟩ hl.1 (Nat.le_of_ble_eq_true rfl) rfl dX9_constant_71 (fun _ _ _ _ _ _ hp => hp.elim) (fun v9 u9 H locs hp hW => ?_)
      obtain ⟨rfl, hu9⟩ := hp
      rw [hu9] at hW
      refine W.eq (g2 := F0 m 74 ls []) rfl ?_
      refine lv_iload_n hx hb dX9_constant_74 rfl (lv_at hl 1 rfl) ?_
      exact ar_iret C hr hW dX9_constant_75 (Or.inr ⟨by unfold zMc; rw [if_pos (hz5.resolve_left (zDr_pos (k := 4) hdg))], rfl, _, _, zFg_98, zFa_kp, rfl⟩)
    · skip
      exact absurd (by decide) h8
