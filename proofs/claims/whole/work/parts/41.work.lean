theorem zSf_le {x num : Nat} {sv : Nat → Nat} {sl sr so : Nat} {cl : Bool} {v0 v1 : Nat} : (zSf x num sv sl sr so cl v0 v1).1 ≤ 2 := by
  have c1 : ∀ n, (zCou n).1 ≤ 2 := fun n => by unfold zCou; by_cases h : zFit 1 n = true; (rw [if_pos h]; exact Nat.zero_le _); (rw [if_neg h]; decide)
  have c2 : ∀ a b, (zEach a b).1 ≤ 2 := fun a b => by unfold zEach; by_cases h : a ≠ b ∧ a ≠ 0 ∧ b ≠ 0; (rw [if_pos h]; decide); (rw [if_neg h]; exact Nat.zero_le _)
  have c3 : ∀ a b, (zJoi a b).1 ≤ 2 := fun a b => by
    unfold zJoi
    by_cases h : zTb a = true ∨ zTb b = true
    · rw [if_pos h]; decide
    · rw [if_neg h]
      by_cases h2 : zFit 1 (zCt a + zCt b) = true
      · rw [if_pos h2]; exact Nat.zero_le _
      · rw [if_neg h2]; decide
  have c4 : ∀ cl s v0 v1 n, (zAnw cl s v0 v1 n).1 ≤ 2 := fun cl s v0 v1 n => by
    unfold zAnw
    by_cases h : cl = false ∨ 2 < zCt s
    · rw [if_pos h]; decide
    rw [if_neg h]
    by_cases h2 : zFit (if s = 0 then 1 else v0) (if s = 0 then v0 else v1) = false
    · rw [if_pos h2]; decide
    rw [if_neg h2]
    by_cases h3 : (if s = 0 then 1 else v0) * (if s = 0 then v0 else v1) < n
    · rw [if_pos h3]; decide
    rw [if_neg h3]
    exact Nat.zero_le _
  unfold zSf
  by_cases h1 : x = 1
  · rw [if_pos h1]; exact Nat.zero_le _
  rw [if_neg h1]
  by_cases h2 : x = 3
  · rw [if_pos h2]; exact c1 _
  rw [if_neg h2]
  by_cases h3 : x = 4 ∨ x = 7
  · rw [if_pos h3]; exact Nat.zero_le _
  rw [if_neg h3]
  by_cases h4 : x = 5
  · rw [if_pos h4]; exact Nat.zero_le _
  rw [if_neg h4]
  by_cases h5 : x = 6
  · rw [if_pos h5]; exact Nat.zero_le _
  rw [if_neg h5]
  by_cases h6 : x = 8
  · rw [if_pos h6]; exact c2 _ _
  rw [if_neg h6]
  by_cases h7 : x = 9
  · rw [if_pos h7]; exact c3 _ _
  rw [if_neg h7]
  by_cases h8 : x = 10
  · rw [if_pos h8]; exact c4 _ _ _ _ _
  rw [if_neg h8]
  exact Nat.zero_le _
theorem zTs_le {sv : Nat → Nat} : ∀ x : zTr, (zTs sv x).1 ≤ 2 := by
  intro x
  induction x with
  | leaf y => exact zSf_le
  | branch n l r ihl ihr =>
    rw [zTs]
    split
    · exact ihr
    · split
      · exact ihr
      · split
        · exact zSf_le
        · split
          · exact ihl
          · exact zSf_le
theorem zVl_pt {gs gc gk : Int32} {row row2 x : Nat → UInt64} {oo mk : Bool} {s : Nat} {cv : Option (List Nat)} (h : zVl gs gc gk row oo s x cv mk) (hf : ∀ q, q < 24 → row2 q = row q) : zVl (nI s) (bI cv.isSome) (bI mk) row2 oo s x cv mk := by
  have h24 := (zOk_num h.2.1).2.2.1
  refine ⟨rfl, h.2.1, fun ho q hq => by rw [hf q (by omega)]; exact h.2.2.1 ho q hq, rfl, fun v hv => ?_, rfl⟩
  obtain ⟨g1, g2, g3, g4⟩ := h.2.2.2.2.1 v hv
  exact ⟨g1, g2, g3, fun q hq => by rw [hf q (by omega)]; exact g4 q hq⟩
theorem zFm_12 {g : Nat → Int32} {a : Nat → Nat → Int32} {d : Nat → Nat → UInt64} {e : Nat} {v : Int32} : zFm e (g, a, d) (g, va_up a 12 (va_up (a 12) e v), d) :=
  ⟨fun r _ h2 => va_up_ne _ _ h2, rfl, fun _ _ => rfl, fun k hk => ⟨by show va_up a 12 (va_up (a 12) e v) 12 k = a 12 k; rw [va_up_self, va_up_ne _ _ (by omega)], by show va_up a 12 (va_up (a 12) e v) 11 k = a 11 k; rw [va_up_ne _ _ (by decide)], fun _ _ => rfl⟩⟩
theorem zFm_sg {g : Nat → Int32} {a : Nat → Nat → Int32} {d : Nat → Nat → UInt64} {f : Nat → UInt64} {e : Nat} {v w : Int32} (hf : ∀ j, j < 24 * e → f j = d 10 j) : zFm e (g, a, d) (g, va_up (va_up a 12 (va_up (a 12) e v)) 11 (va_up (a 11) e w), va_up d 10 f) :=
  ⟨fun r h1 h2 => by show va_up (va_up a 12 _) 11 _ r = a r; rw [va_up_ne _ _ h1, va_up_ne _ _ h2], (by show va_up d 10 f 3 = d 3; rw [va_up_ne _ _ (by decide)]), fun _ _ => rfl, fun k hk => ⟨by show va_up (va_up a 12 (va_up (a 12) e v)) 11 (va_up (a 11) e w) 12 k = a 12 k; rw [va_up_ne _ _ (by decide), va_up_self, va_up_ne _ _ (by omega)], by show va_up (va_up a 12 (va_up (a 12) e v)) 11 (va_up (a 11) e w) 11 k = a 11 k; rw [va_up_self, va_up_ne _ _ (by omega)], fun q hq => by show va_up d 10 f 10 _ = d 10 _; rw [va_up_self]; exact hf _ (by omega)⟩⟩
theorem zFill10 {f e y : Nat → UInt64} {m k : Nat} (h : (∀ q, q < k → f (m + q) = y q) ∧ ∀ j, (j < m ∨ m + k ≤ j) → f j = e j) : (∀ q, q < k + 1 → va_up f (m + k) (y k) (m + q) = y q) ∧ ∀ j, (j < m ∨ m + (k + 1) ≤ j) → va_up f (m + k) (y k) j = e j := by
  refine ⟨fun q hq => ?_, fun j hj => by rw [va_up_ne _ _ (by omega)]; exact h.2 j (by omega)⟩
  by_cases h1 : q = k
  · rw [h1, va_up_self]
  · rw [va_up_ne _ _ (by omega)]
    exact h.1 q (by omega)
/-- what the work leaves as it was -/
def zFw (u w : zM3) : Prop := (∀ r, r < 4 → w.2.1 r = u.2.1 r) ∧ w.2.2 3 = u.2.2 3 ∧ ∀ k, (k < 8 ∨ (9 < k ∧ k < 15) ∨ 23 < k) → w.1 k = u.1 k
def zWo (sv : Nat → Nat) (xv : Nat → Nat → UInt64) (o : Option zTr) (u : zM3) (v9 : Option Value) (w : zM3) : Prop := zFw u w ∧ (o = none → v9 = some (.int (nI 1))) ∧ ∀ t, o = some t → ((zTs sv t).1 ≠ 0 → v9 = some (.int (nI (1 + (zTs sv t).1)))) ∧ ((zTs sv t).1 = 0 → ∃ b : Bool, (b = false ↔ zTg sv xv t) ∧ v9 = some (.int (nI (if b = true then 4 else 0))) ∧ w.1 22 = nI (zAr t) ∧ zVl (w.1 15) (w.1 17) (w.1 19) (w.2.2 8) b (zTs sv t).2 (zTx sv xv t) (zCv t) (zMr t))
theorem hd_X9_work : yX9_work.cls ≠ "java/lang/invoke/MethodHandle" ∧ yX9_work.cls ≠ "java/lang/invoke/VarHandle" ∧ (parseMethodDescriptor yX9_work.desc).map (fun d => d.parameters.length) = some 0 := by decide +kernel
set_option maxHeartbeats 4000000 in
set_option maxRecDepth 100000 in
theorem c_X9_work {l : Launch} (hl9 : l.stackTraces = false) {D : va_G} {ct : Nat → ClassId} {ad : Nat → Nat} (g : Nat → Int32) (a : Nat → Nat → Int32) (d : Nat → Nat → UInt64) (n : Nat) (tx : Nat → Nat) (hn : n ≤ 40) (hlen : g 1 = nI n) (htx : ∀ j, j < n → a 1 j = nI (tx j)) (hcx : ∀ j, j < n → 1 ≤ tx j ∧ tx j ≤ 127) (sv : Nat → Nat) (hsv : ∀ j, j < 8 → a 2 j = nI (sv j) ∧ zOk (sv j) = true) (hvr : ∀ j, j < 8 → ∀ q, q < zCt (sv j) → zRg (d 3 (24 * j + q)) = true) : ar_M l yX9_work cX9_work 5 (some .int) 5 115 D ct (mL ad ct) [.ref (ad 0)] (g, a, d) (fun v9 u9 => zWo sv (fun j q => d 3 (24 * j + q)) (zTree (zCh tx n) n) (g, a, d) v9 u9) (fun _ _ => False) := by
  refine ar_ofW hl9 (by decide) (Nat.le_of_ble_eq_true rfl) ?_
  intro p e s m below meth c A ls C hr hnm hW hl
  have hx := C.1
  have hb := C.2.1
  have hown := C.2.2.2.1
  have hts := C.2.2.2.2.1
  have hl : lv_has ls 5 [(0, .ref (ad 0))] := hl
  refine lv_aload_n hx hb dX9_work_0 rfl (lv_at hl 0 rfl) ?_
  refine ar_callV (q0 := 0) (ci := 7) (T9 := TX9) (N9 := 27) (As := []) (rest := []) C hW (c_X9_cut hl9 g a d n tx hn hlen htx hcx) (rfl) rfl q732 q734 qs3 q6 q735 hd_X9_cut ⟨Nat.le_of_ble_eq_true rfl, Nat.le_of_ble_eq_true rfl⟩ hl.1 (Nat.le_of_ble_eq_true rfl) rfl dX9_work_1 (fun _ _ _ _ _ _ hp => hp.elim) (fun v9 u9 H locs hp hW => ?_)
  obtain ⟨rfl, hs1, hs2⟩ := hp
  have hc0 : ∀ i, n ≤ i → zCh tx n i = 0 := fun i hi => zCh_out hi
  obtain hZ | ⟨t, hZ⟩ : zTree (zCh tx n) n = none ∨ ∃ t, zTree (zCh tx n) n = some t := by
    rcases zTree (zCh tx n) n with _ | t
    · exact Or.inl rfl
    · exact Or.inr ⟨t, rfl⟩
  · skip
    have hq := (zQ_tree hn hc0 a).1 hZ
    obtain ⟨g3, a3, hg3, ha3, hu9⟩ := hs2 hq
    rw [hu9] at hW
    rw [hq]
    refine W.eq (g2 := F0 m 4 ls [.int (bI false)]) rfl ?_
    refine lb_if_ne (tgt := 9) hx hb dX9_work_4 (by decide) (fun h1 => absurd h1 (by decide)) (fun _ => ?_)
    refine lv_iconst (v := nI 1) hx hb dX9_work_7 (by decide) ?_
    exact ar_iret C hr hW dX9_work_8 (⟨⟨fun r hr => ha3 r (Or.inl hr), rfl, fun k hk => hg3 k (by omega) (by omega)⟩, fun _ => rfl, fun t h => by rw [hZ] at h; cases h⟩)
  · skip
    obtain ⟨a9, hq, hto⟩ := (zQ_tree hn hc0 a).2 t hZ
    obtain ⟨hu9, hfa, hsy, hnu⟩ := hs1 _ _ _ hq
    rw [hu9] at hW
    rw [hq]
    have hwf := zTree_wf hZ
    refine W.eq (g2 := F0 m 4 ls [.int (bI true)]) rfl ?_
    refine lb_if_ne (tgt := 9) hx hb dX9_work_4 (by decide) (fun _ => ?_) (fun h2 => absurd h2 (by decide))
    refine lv_iconst (v := nI 0) hx hb dX9_work_9 (by decide) ?_
    refine lv_istore_n (lv' := [(1, .int (nI 0)), (0, .ref (ad 0))]) hx hb dX9_work_10 rfl hl (by decide) rfl (fun ls hl => ?_)
    refine lv_aload_n hx hb dX9_work_11 rfl (lv_at hl 1 rfl) ?_
    refine lv_iconst (v := nI 0) hx hb dX9_work_12 (by decide) ?_
    refine mp_arrays C hW q609 dX9_work_13 (fun H locs hW => ?_)
    refine lv_aload_n hx hb dX9_work_16 rfl (lv_at hl 1 rfl) ?_
    refine lv_iconst (v := nI 0) hx hb dX9_work_17 (by decide) ?_
    refine mp_error C hW q610 dX9_work_18 (fun H locs hW => ?_)
    refine lv_aload_n hx hb dX9_work_21 rfl (lv_at hl 1 rfl) ?_
    refine lv_iconst (v := nI 0) hx hb dX9_work_22 (by decide) ?_
    refine mp_outOfRange (nI_z0) C hW q608 dX9_work_23 (fun H locs hW => ?_)
    refine lv_aload_n hx hb dX9_work_26 rfl (lv_at hl 1 rfl) ?_
    refine mg_waiting C hW q601 dX9_work_27 ?_
    refine lv_iconst (v := nI 0) hx hb dX9_work_30 (by decide) ?_
    refine lv_iconst (v := nI 0) hx hb dX9_work_31 (by decide) ?_
    refine ms_waiting (j := 0) C hW (by omega) dX9_work_32 (fun H locs hW => ?_)
    refine lv_aload_n hx hb dX9_work_33 rfl (lv_at hl 1 rfl) ?_
    refine mg_symbols C hW q595 dX9_work_34 ?_
    rw [va_up_ne _ _ (by decide)]
    rw [va_up_ne _ _ (by decide)]
    rw [va_up_ne _ _ (by decide)]
    refine ln_top (rfl) ?_
    refine lv_iconst (v := nI 1) hx hb dX9_work_37 (by decide) ?_
    refine lv_isub hx hb dX9_work_38 ?_
    refine W.eq (g2 := F0 m 39 ls [.int (zPr (zTl t))]) rfl ?_
    refine lv_istore_n (lv' := [(2, .int (zPr (zTl t))), (1, .int (nI 0)), (0, .ref (ad 0))]) hx hb dX9_work_39 rfl hl (by decide) rfl (fun ls hl => ?_)
    have hto2 : zTo (va_up a9 12 (va_up (a9 12) 0 (nI 0))) t 0 0 := zTo_cg (a := a9) (b := va_up a9 12 (va_up (a9 12) 0 (nI 0))) t 0 0 (fun _ _ _ => ⟨rfl, rfl, rfl⟩) (fun _ _ _ => rfl) hto
    refine (zTR (Hd := fun i dp u => ∀ (H : Heap) (locs : List Loc) (ls : Array Slot), ar_W D A s.heap H locs (mL ad ct u) → lv_has ls 5 [(0, .ref (ad 0)), (1, .int (nI dp)), (2, .int (zPr i))] → W p l e (ar_rm 5 115) s m [.ref (ad 0)].toArray below meth c H locs 0 0 (ar_E below (ar_Q D ct (mL ad ct) A (fun v9 u9 => zWo sv (fun j q => d 3 (24 * j + q)) (zTree (zCh tx n) n) (g, a, d) v9 u9) (fun _ _ => False)) [.ref (ad 0)].toArray s) (F0 m 40 ls [])) (sv := sv) (xv := (fun j q => d 3 (24 * j + q))) (a0 := va_up a9 12 (va_up (a9 12) 0 (nI 0))) (d3 := d 3) ?_ ?_ ?_ ?_ ?_ t).1 (zTree_fo hZ) hwf 0 0 0 (va_up (va_up (va_up (zGq g (zTl t) (zNl t)) 22 (nI 0)) 23 (nI 0)) 21 (nI 0), va_up a9 12 (va_up (a9 12) 0 (nI 0)), d) false 0 hto2 (by omega) (by omega) (by omega) ⟨fun _ _ _ => rfl, rfl⟩ rfl rfl rfl (by show (va_up a9 12 (va_up (a9 12) 0 (nI 0))) 12 0 = nI 0; rw [va_up_self, va_up_self]) ?_ ?_ _ _ _ hW (by rw [Nat.zero_add]; exact lv_sub hl [2, 1, 0] rfl)
    · skip
      rintro i dp ⟨g2, a2, d2⟩ x v oo ar ch rs rx hbs hi9 hd9 hwx hto9 hv9 her hoo har h12 hch hrt Ke K H locs ls hW hl
      have her : g2 23 = nI 0 := her
      have hoo : g2 21 = bI oo := hoo
      have har : g2 22 = nI ar := har
      have h12 : a2 12 dp = nI ch := h12
      rw [zTo] at hto9
      have hb4 : a2 4 = a9 4 := hbs.1 4 (by decide) (by decide)
      have hb5 : a2 5 = a9 5 := hbs.1 5 (by decide) (by decide)
      have hb6 : a2 6 = a9 6 := hbs.1 6 (by decide) (by decide)
      have hb7 : a2 7 = a9 7 := hbs.1 7 (by decide) (by decide)
      have hb2 : a2 2 = a 2 := (hbs.1 2 (by decide) (by decide)).trans (hfa 2 (Or.inl (by decide)))
      have hd3 : d2 3 = d 3 := hbs.2
      have k4 : a2 4 i = nI x.1 := by rw [hb4]; exact hto9.1
      have k5 : x.1 = 1 → a2 5 i = nI (x.2.getD 0 0) := fun q => by rw [hb5]; exact hto9.2.1 q
      have k7 : x.1 ≠ 1 → a2 5 i = nI v ∧ ∀ j, j < x.2.length → a2 7 (v + j) = nI (x.2.getD j 0) := fun q => by rw [hb5, hb7]; exact hto9.2.2.1 q
      have k6 : x.1 = 2 → a2 6 i = nI x.2.length := fun q => by rw [hb6]; exact hto9.2.2.2 q
      have hx3 : x.1 ≤ 3 := by rcases hwx with q | q | q <;> omega
      rw [zPr_s] at hl
      refine lv_iload_n hx hb dX9_work_40 rfl (lv_at hl 2 rfl) ?_
      refine ln_if_lt (tgt := 244) hx hb dX9_work_41 (by decide) (by omega) ?_
      refine lv_aload_n hx hb dX9_work_44 rfl (lv_at hl 0 rfl) ?_
      refine mg_error C hW q610 dX9_work_45 ?_
      refine ln_top (her) ?_
      refine ln_if_ne (tgt := 244) hx hb dX9_work_48 (by decide) (by decide) (fun h4 => absurd h4 (by decide)) (fun _ => ?_)
      refine lv_aload_n hx hb dX9_work_51 rfl (lv_at hl 0 rfl) ?_
      refine mg_symbol C hW q591 dX9_work_52 ?_
      refine lv_iload_n hx hb dX9_work_55 rfl (lv_at hl 2 rfl) ?_
      refine ml_symbol (j := i) C hW (by omega) dX9_work_56 ?_
      refine ln_top (k4) ?_
      refine lv_istore_n (lv' := [(3, .int (nI x.1)), (0, .ref (ad 0)), (1, .int (nI dp)), (2, .int (nI i))]) hx hb dX9_work_57 rfl hl (by decide) rfl (fun ls hl => ?_)
      refine lv_iload_n hx hb dX9_work_58 rfl (lv_at hl 0 rfl) ?_
      refine lv_iconst (v := nI 5) hx hb dX9_work_59 (by decide) ?_
      refine ln_icmp_ne (tgt := 76) hx hb dX9_work_60 (by decide) (by omega) (by first | decide | omega) (fun h5 => ?_) (fun h5 => ?_)
      · skip
        refine lv_iload_n hx hb dX9_work_76 rfl (lv_at hl 0 rfl) ?_
        refine lv_bipush (v := nI 6) hx hb dX9_work_77 (by decide) ?_
        refine ln_icmp_ne (tgt := 142) hx hb dX9_work_79 (by decide) (by omega) (by first | decide | omega) (fun h6 => ?_) (fun h6 => ?_)
        · skip
          refine lv_iload_n hx hb dX9_work_142 rfl (lv_at hl 0 rfl) ?_
          refine lv_bipush (v := nI 7) hx hb dX9_work_143 (by decide) ?_
          refine ln_icmp_lt (tgt := 156) hx hb dX9_work_145 (by decide) (by omega) (by first | decide | omega) (fun h7 => ?_) (fun h7 => ?_)
          · skip
            refine lv_iload_n hx hb dX9_work_156 rfl (lv_at hl 0 rfl) ?_
            refine lv_iconst (v := nI 4) hx hb dX9_work_157 (by decide) ?_
            refine ln_icmp_ne (tgt := 221) hx hb dX9_work_158 (by decide) (by omega) (by first | decide | omega) (fun h8 => ?_) (fun h8 => ?_)
            · skip
              refine lv_aload_n hx hb dX9_work_221 rfl (lv_at hl 1 rfl) ?_
              refine lv_iload_n hx hb dX9_work_222 rfl (lv_at hl 3 rfl) ?_
              refine ar_callV (q0 := 0) (ci := 7) (T9 := TX9) (N9 := 27) (As := [.int (nI i)]) (rest := []) C hW (c_X9_load hl9 g2 a2 d2 i hi9 v x (fun q => by have h66 := hv9; rw [zNl, if_neg q] at h66; exact h66) hwx k4 k5 k7 k6 sv (fun j hj => ⟨by rw [hb2]; exact (hsv j hj).1, (hsv j hj).2⟩) (fun j hj q hq => by rw [hd3]; exact hvr j hj q hq) oo her) (rfl) rfl q780 q782 qs12 q6 q783 hd_X9_load ⟨Nat.le_of_ble_eq_true rfl, Nat.le_of_ble_eq_true rfl⟩ hl.1 (Nat.le_of_ble_eq_true rfl) rfl dX9_work_223 (fun _ _ _ _ _ _ hp => hp.elim) (fun v9 u9 H locs hp hW => ?_)
              obtain ⟨rfl, hld⟩ := hp
              obtain ⟨g3, a3, d3⟩ := u9
              rw [hd3] at hld
              have ha3 : a3 = a2 := hld.2.1
              rw [ha3] at hW hld
              by_cases hz : (zTs sv (.leaf x)).1 = 0
              · skip
                have her3 : g3 23 = nI 0 := (hld.2.2.2.2.2.2 hz).1
                refine W.eq (g2 := F0 m 226 ls []) rfl ?_
                refine lv_aload_n hx hb dX9_work_226 rfl (lv_at hl 1 rfl) ?_
                refine mg_error C hW q610 dX9_work_227 ?_
                refine ln_top (her3) ?_
                refine ln_if_ne (tgt := 238) hx hb dX9_work_230 (by decide) (by decide) (fun h9 => absurd h9 (by decide)) (fun _ => ?_)
                refine lv_aload_n hx hb dX9_work_233 rfl (lv_at hl 1 rfl) ?_
                refine lv_iload_n hx hb dX9_work_234 rfl (lv_at hl 2 rfl) ?_
                refine ar_callV (q0 := 0) (ci := 7) (T9 := TX9) (N9 := 27) (As := [.int (nI dp)]) (rest := []) C hW (c_X9_deliver hl9 g3 a2 d3 dp hd9 ch hch h12 sv oo (hld.2.2.2.1.trans hoo) ar (hld.2.2.2.2.1.trans har) her3 (zTs sv (.leaf x)).2 (zTx sv (fun j q => d 3 (24 * j + q)) (.leaf x)) (zCv (.leaf x)) false (hld.2.2.2.2.2.2 hz).2 rs rx (fun q => ⟨(hrt q).1, (hrt q).2.1, (hrt q).2.2.1, fun ho z hz9 => by have h67 : d3 10 = d2 10 := hld.2.2.1; rw [h67]; exact (hrt q).2.2.2 ho z hz9⟩)) (rfl) rfl q784 q786 qs13 q6 q787 hd_X9_deliver ⟨Nat.le_of_ble_eq_true rfl, Nat.le_of_ble_eq_true rfl⟩ hl.1 (Nat.le_of_ble_eq_true rfl) rfl dX9_work_235 (fun _ _ _ _ _ _ hp => hp.elim) (fun v9 u9 H locs hp hW => ?_)
                obtain ⟨rfl, hdl⟩ := hp
                refine W.eq (g2 := F0 m 238 ls []) rfl ?_
                refine lv_iinc (k := 3) (v := zPr i) (lv' := [(2, .int (zPr i)), (3, .int (nI x.1)), (0, .ref (ad 0)), (1, .int (nI dp))]) hx hb dX9_work_238 hl rfl (zPr_d _) (by decide) rfl (fun ls hl => ?_)
                refine lv_goto (tgt := 40) hx hb dX9_work_241 (by decide) ?_
                exact K _ hz (zDl_fm (hld.1 dp) hdl) _ _ _ hW (lv_sub hl [2, 3, 0] rfl)
              · skip
                have her3 : g3 23 = nI (zTs sv (.leaf x)).1 := hld.2.2.2.2.2.1 hz
                have hzl := zTs_le (sv := sv) (.leaf x)
                refine W.eq (g2 := F0 m 226 ls []) rfl ?_
                refine lv_aload_n hx hb dX9_work_226 rfl (lv_at hl 1 rfl) ?_
                refine mg_error C hW q610 dX9_work_227 ?_
                refine ln_top (her3) ?_
                refine ln_if_ne (tgt := 238) hx hb dX9_work_230 (by decide) (by omega) (fun h10 => ?_) (fun h10 => ?_)
                · skip
                  refine lv_iinc (k := 3) (v := zPr i) (lv' := [(2, .int (zPr i)), (3, .int (nI x.1)), (0, .ref (ad 0)), (1, .int (nI dp))]) hx hb dX9_work_238 hl rfl (zPr_d _) (by decide) rfl (fun ls hl => ?_)
                  refine lv_goto (tgt := 40) hx hb dX9_work_241 (by decide) ?_
                  exact Ke _ hz (hld.1 0) her3 _ _ _ hW (lv_sub hl [2, 3, 0] rfl)
                · skip
                  exfalso; omega
            · skip
              exfalso; omega
          · skip
            exfalso; omega
        · skip
          exfalso; omega
      · skip
        exfalso; omega
    · skip
      rintro i dp ⟨g2, a2, d2⟩ oo ar ch rs rx s9 y cv mk hbs hi9 hd9 hk4 her hoo har h12 hch hrt hv9 K H locs ls hW hl
      have her : g2 23 = nI 0 := her
      have hoo : g2 21 = bI oo := hoo
      have har : g2 22 = nI ar := har
      have h12 : a2 12 dp = nI ch := h12
      have hv9 : zVl (g2 15) (g2 17) (g2 19) (d2 8) oo s9 y cv mk := hv9
      have hb4 : a2 4 = a9 4 := hbs.1 4 (by decide) (by decide)
      have k4 : a2 4 i = nI 4 := by rw [hb4]; exact hk4
      rw [zPr_s] at hl
      refine lv_iload_n hx hb dX9_work_40 rfl (lv_at hl 2 rfl) ?_
      refine ln_if_lt (tgt := 244) hx hb dX9_work_41 (by decide) (by omega) ?_
      refine lv_aload_n hx hb dX9_work_44 rfl (lv_at hl 0 rfl) ?_
      refine mg_error C hW q610 dX9_work_45 ?_
      refine ln_top (her) ?_
      refine ln_if_ne (tgt := 244) hx hb dX9_work_48 (by decide) (by decide) (fun h12 => absurd h12 (by decide)) (fun _ => ?_)
      refine lv_aload_n hx hb dX9_work_51 rfl (lv_at hl 0 rfl) ?_
      refine mg_symbol C hW q591 dX9_work_52 ?_
      refine lv_iload_n hx hb dX9_work_55 rfl (lv_at hl 2 rfl) ?_
      refine ml_symbol (j := i) C hW (by omega) dX9_work_56 ?_
      refine ln_top (k4) ?_
      refine lv_istore_n (lv' := [(3, .int (nI 4)), (0, .ref (ad 0)), (1, .int (nI (dp + 1))), (2, .int (nI i))]) hx hb dX9_work_57 rfl hl (by decide) rfl (fun ls hl => ?_)
      refine lv_iload_n hx hb dX9_work_58 rfl (lv_at hl 0 rfl) ?_
      refine lv_iconst (v := nI 5) hx hb dX9_work_59 (by decide) ?_
      refine ln_icmp_ne (tgt := 76) hx hb dX9_work_60 (by decide) (by decide) (by decide) (fun _ => ?_) (fun h13 => absurd h13 (by decide))
      refine lv_iload_n hx hb dX9_work_76 rfl (lv_at hl 0 rfl) ?_
      refine lv_bipush (v := nI 6) hx hb dX9_work_77 (by decide) ?_
      refine ln_icmp_ne (tgt := 142) hx hb dX9_work_79 (by decide) (by decide) (by decide) (fun _ => ?_) (fun h14 => absurd h14 (by decide))
      refine lv_iload_n hx hb dX9_work_142 rfl (lv_at hl 0 rfl) ?_
      refine lv_bipush (v := nI 7) hx hb dX9_work_143 (by decide) ?_
      refine ln_icmp_lt (tgt := 156) hx hb dX9_work_145 (by decide) (by decide) (by decide) (fun _ => ?_) (fun h15 => absurd h15 (by decide))
      refine lv_iload_n hx hb dX9_work_156 rfl (lv_at hl 0 rfl) ?_
      refine lv_iconst (v := nI 4) hx hb dX9_work_157 (by decide) ?_
      refine ln_icmp_ne (tgt := 221) hx hb dX9_work_158 (by decide) (by decide) (by decide) (fun h16 => absurd h16 (by decide)) (fun _ => ?_)
      refine lv_aload_n hx hb dX9_work_161 rfl (lv_at hl 1 rfl) ?_
      refine lv_aload_n hx hb dX9_work_162 rfl (lv_at hl 1 rfl) ?_
      refine mg_nowShape C hW q602 dX9_work_163 ?_
      refine ln_top (hv9.1) ?_
      refine mp_partShape C hW q603 dX9_work_166 (fun H locs hW => ?_)
      refine lv_aload_n hx hb dX9_work_169 rfl (lv_at hl 1 rfl) ?_
      refine lv_aload_n hx hb dX9_work_170 rfl (lv_at hl 1 rfl) ?_
      refine mg_nowConstant C hW q604 dX9_work_171 ?_
      rw [va_up_ne _ _ (by decide)]
      refine ln_topb (hv9.2.2.2.1) ?_
      refine mp_partConstant (bI_z _) C hW q605 dX9_work_174 (fun H locs hW => ?_)
      refine lv_aload_n hx hb dX9_work_177 rfl (lv_at hl 1 rfl) ?_
      refine lv_aload_n hx hb dX9_work_178 rfl (lv_at hl 1 rfl) ?_
      refine mg_nowCounts C hW q606 dX9_work_179 ?_
      rw [va_up_ne _ _ (by decide)]
      rw [va_up_ne _ _ (by decide)]
      refine ln_topb (hv9.2.2.2.2.2) ?_
      refine mp_partCounts (bI_z _) C hW q607 dX9_work_182 (fun H locs hW => ?_)
      refine lv_iconst (v := nI 0) hx hb dX9_work_185 (by decide) ?_
      refine lv_istore (lv' := [(4, .int (nI 0)), (3, .int (nI 4)), (0, .ref (ad 0)), (1, .int (nI (dp + 1))), (2, .int (nI i))]) hx hb dX9_work_186 hl (by decide) rfl (fun ls hl => ?_)
      have lp : ∀ (N9 : Nat) (k : Nat) (f : Nat → UInt64) (H : Heap) (locs : List Loc) (ls : Array Slot), 24 - k < N9 → (k ≤ 24) → (∀ q, q < k → f q = d2 8 q) → ar_W D A s.heap H locs (mL ad ct (va_up (va_up (va_up g2 16 (nI s9)) 18 (bI cv.isSome)) 20 (bI mk), a2, va_up d2 9 f)) → lv_has ls 5 [(0, .ref (ad 0)), (1, .int (nI (dp + 1))), (2, .int (nI i)), (3, .int (nI 4)), (4, .int (nI k))] → W p l e (ar_rm 5 115) s m [.ref (ad 0)].toArray below meth c H locs 0 0 (ar_E below (ar_Q D ct (mL ad ct) A (fun v9 u9 => zWo sv (fun j q => d 3 (24 * j + q)) (zTree (zCh tx n) n) (g, a, d) v9 u9) (fun _ _ => False)) [.ref (ad 0)].toArray s) (F0 m 188 ls []) := by
        intro N9
        induction N9 with
        | zero =>
          intro k f H locs ls hN9
          exact absurd hN9 (Nat.not_lt_zero _)
        | succ N9 ihlp =>
          intro k f H locs ls hN9 hk hf hW hl
          refine lv_iload hx hb dX9_work_188 (lv_at hl 4 rfl) ?_
          refine lv_bipush (v := nI 24) hx hb dX9_work_190 (by decide) ?_
          refine ln_icmp_ge (tgt := 215) hx hb dX9_work_192 (by decide) (by omega) (by first | decide | omega) (fun h17 => ?_) (fun h17 => ?_)
          · skip
            refine ln_idec (k := 1) (lv' := [(1, .int (nI dp)), (0, .ref (ad 0)), (2, .int (nI i)), (3, .int (nI 4)), (4, .int (nI k))]) hx hb dX9_work_215 hl rfl (by decide) rfl (fun ls hl => ?_)
            refine lv_goto (tgt := 226) hx hb dX9_work_218 (by decide) ?_
            refine lv_aload_n hx hb dX9_work_226 rfl (lv_at hl 1 rfl) ?_
            refine mg_error C hW q610 dX9_work_227 ?_
            rw [va_up_ne _ _ (by decide)]
            rw [va_up_ne _ _ (by decide)]
            rw [va_up_ne _ _ (by decide)]
            refine ln_top (her) ?_
            refine ln_if_ne (tgt := 238) hx hb dX9_work_230 (by decide) (by decide) (fun h18 => absurd h18 (by decide)) (fun _ => ?_)
            refine lv_aload_n hx hb dX9_work_233 rfl (lv_at hl 1 rfl) ?_
            refine lv_iload_n hx hb dX9_work_234 rfl (lv_at hl 0 rfl) ?_
            refine ar_callV (q0 := 0) (ci := 7) (T9 := TX9) (N9 := 27) (As := [.int (nI dp)]) (rest := []) C hW (c_X9_deliver hl9 (va_up (va_up (va_up g2 16 (nI s9)) 18 (bI cv.isSome)) 20 (bI mk)) a2 (va_up d2 9 f) dp (by omega) ch hch h12 sv oo hoo ar har her s9 y cv mk (zVl_pt hv9 (fun q hq => (congrFun (va_up_self d2 9 f) q).trans (hf q (by omega)))) rs rx hrt) (rfl) rfl q784 q786 qs13 q6 q787 hd_X9_deliver ⟨Nat.le_of_ble_eq_true rfl, Nat.le_of_ble_eq_true rfl⟩ hl.1 (Nat.le_of_ble_eq_true rfl) rfl dX9_work_235 (fun _ _ _ _ _ _ hp => hp.elim) (fun v9 u9 H locs hp hW => ?_)
            obtain ⟨rfl, hdl⟩ := hp
            refine W.eq (g2 := F0 m 238 ls []) rfl ?_
            refine lv_iinc (k := 2) (v := zPr i) (lv' := [(2, .int (zPr i)), (1, .int (nI dp)), (0, .ref (ad 0)), (3, .int (nI 4)), (4, .int (nI k))]) hx hb dX9_work_238 hl rfl (zPr_d _) (by decide) rfl (fun ls hl => ?_)
            refine lv_goto (tgt := 40) hx hb dX9_work_241 (by decide) ?_
            exact K _ (zDl_fm (zFm_g (fun k hk => by rw [va_up_ne _ _ (by omega), va_up_ne _ _ (by omega), va_up_ne _ _ (by omega)]) (va_up_ne _ _ (by decide)) (va_up_ne _ _ (by decide))) hdl) _ _ _ hW (lv_sub hl [2, 1, 0] rfl)
          · skip
            refine lv_aload_n hx hb dX9_work_195 rfl (lv_at hl 0 rfl) ?_
            refine mg_part C hW q598 dX9_work_196 ?_
            refine lv_iload hx hb dX9_work_199 (lv_at hl 4 rfl) ?_
            refine lv_aload_n hx hb dX9_work_201 rfl (lv_at hl 0 rfl) ?_
            refine mg_now C hW q597 dX9_work_202 ?_
            refine lv_iload hx hb dX9_work_205 (lv_at hl 4 rfl) ?_
            refine ml_now (j := k) C hW (by omega) dX9_work_207 ?_
            rw [va_up_ne _ _ (by omega)]
            refine ms_part (j := k) C hW (by omega) dX9_work_208 (fun H locs hW => ?_)
            simp only [bx_uu, va_up_self] at hW
            refine ln_iinc (k := 4) (n := 1) (lv' := [(4, .int (nI (k + 1))), (0, .ref (ad 0)), (1, .int (nI (dp + 1))), (2, .int (nI i)), (3, .int (nI 4))]) hx hb dX9_work_209 hl rfl (by decide) rfl (fun ls hl => ?_)
            refine lv_goto (tgt := 188) hx hb dX9_work_212 (by decide) ?_
            exact ihlp (k + 1) (va_up f k (d2 8 k)) _ _ _ (by omega) (by omega) (fill_p hf) (hW) (lv_sub hl [1, 2, 3, 4, 0] rfl)
      exact lp _ 0 (d2 9) _ _ _ (Nat.lt_succ_self _) (Nat.zero_le _) (fun q hq => absurd hq (Nat.not_lt_zero _)) (by rw [va_up_id]; exact hW) (lv_sub hl [2, 3, 4, 1, 0] rfl)
    · skip
      rintro i dp ⟨g2, a2, d2⟩ hbs hi9 hd9 hk4 her K H locs ls hW hl
      have her : g2 23 = nI 0 := her
      have hb4 : a2 4 = a9 4 := hbs.1 4 (by decide) (by decide)
      have k4 : a2 4 i = nI 5 := by rw [hb4]; exact hk4
      rw [zPr_s] at hl
      refine lv_iload_n hx hb dX9_work_40 rfl (lv_at hl 2 rfl) ?_
      refine ln_if_lt (tgt := 244) hx hb dX9_work_41 (by decide) (by omega) ?_
      refine lv_aload_n hx hb dX9_work_44 rfl (lv_at hl 0 rfl) ?_
      refine mg_error C hW q610 dX9_work_45 ?_
      refine ln_top (her) ?_
      refine ln_if_ne (tgt := 244) hx hb dX9_work_48 (by decide) (by decide) (fun h20 => absurd h20 (by decide)) (fun _ => ?_)
      refine lv_aload_n hx hb dX9_work_51 rfl (lv_at hl 0 rfl) ?_
      refine mg_symbol C hW q591 dX9_work_52 ?_
      refine lv_iload_n hx hb dX9_work_55 rfl (lv_at hl 2 rfl) ?_
      refine ml_symbol (j := i) C hW (by omega) dX9_work_56 ?_
      refine ln_top (k4) ?_
      refine lv_istore_n (lv' := [(3, .int (nI 5)), (0, .ref (ad 0)), (1, .int (nI dp)), (2, .int (nI i))]) hx hb dX9_work_57 rfl hl (by decide) rfl (fun ls hl => ?_)
      refine lv_iload_n hx hb dX9_work_58 rfl (lv_at hl 0 rfl) ?_
      refine lv_iconst (v := nI 5) hx hb dX9_work_59 (by decide) ?_
      refine ln_icmp_ne (tgt := 76) hx hb dX9_work_60 (by decide) (by decide) (by decide) (fun h21 => absurd h21 (by decide)) (fun _ => ?_)
      refine ln_iinc (k := 2) (n := 1) (lv' := [(1, .int (nI (dp + 1))), (3, .int (nI 5)), (0, .ref (ad 0)), (2, .int (nI i))]) hx hb dX9_work_63 hl rfl (by decide) rfl (fun ls hl => ?_)
      refine lv_aload_n hx hb dX9_work_66 rfl (lv_at hl 2 rfl) ?_
      refine mg_waiting C hW q601 dX9_work_67 ?_
      refine lv_iload_n hx hb dX9_work_70 rfl (lv_at hl 0 rfl) ?_
      refine lv_iconst (v := nI 0) hx hb dX9_work_71 (by decide) ?_
      refine ms_waiting (j := dp + 1) C hW (by omega) dX9_work_72 (fun H locs hW => ?_)
      refine lv_goto (tgt := 238) hx hb dX9_work_73 (by decide) ?_
      refine lv_iinc (k := 3) (v := zPr i) (lv' := [(2, .int (zPr i)), (1, .int (nI (dp + 1))), (3, .int (nI 5)), (0, .ref (ad 0))]) hx hb dX9_work_238 hl rfl (zPr_d _) (by decide) rfl (fun ls hl => ?_)
      refine lv_goto (tgt := 40) hx hb dX9_work_241 (by decide) ?_
      exact K (g2, va_up a2 12 (va_up (a2 12) (dp + 1) (nI 0)), d2) zFm_12 rfl (by show va_up a2 12 (va_up (a2 12) (dp + 1) (nI 0)) 12 (dp + 1) = nI 0; rw [va_up_self, va_up_self]) _ _ _ hW (lv_sub hl [3, 1, 0] rfl)
    · skip
      rintro i dp ⟨g2, a2, d2⟩ ch s9 hbs hi9 hd9 hk4 hk5 her hns K H locs ls hW hl
      have her : g2 23 = nI 0 := her
      have hns : g2 15 = nI s9 := hns
      have hb4 : a2 4 = a9 4 := hbs.1 4 (by decide) (by decide)
      have hb5 : a2 5 = a9 5 := hbs.1 5 (by decide) (by decide)
      have k4 : a2 4 i = nI 6 := by rw [hb4]; exact hk4
      have k5 : a2 5 i = nI ch := by rw [hb5]; exact hk5
      rw [zPr_s] at hl
      refine lv_iload_n hx hb dX9_work_40 rfl (lv_at hl 2 rfl) ?_
      refine ln_if_lt (tgt := 244) hx hb dX9_work_41 (by decide) (by omega) ?_
      refine lv_aload_n hx hb dX9_work_44 rfl (lv_at hl 0 rfl) ?_
      refine mg_error C hW q610 dX9_work_45 ?_
      refine ln_top (her) ?_
      refine ln_if_ne (tgt := 244) hx hb dX9_work_48 (by decide) (by decide) (fun h23 => absurd h23 (by decide)) (fun _ => ?_)
      refine lv_aload_n hx hb dX9_work_51 rfl (lv_at hl 0 rfl) ?_
      refine mg_symbol C hW q591 dX9_work_52 ?_
      refine lv_iload_n hx hb dX9_work_55 rfl (lv_at hl 2 rfl) ?_
      refine ml_symbol (j := i) C hW (by omega) dX9_work_56 ?_
      refine ln_top (k4) ?_
      refine lv_istore_n (lv' := [(3, .int (nI 6)), (0, .ref (ad 0)), (1, .int (nI dp)), (2, .int (nI i))]) hx hb dX9_work_57 rfl hl (by decide) rfl (fun ls hl => ?_)
      refine lv_iload_n hx hb dX9_work_58 rfl (lv_at hl 0 rfl) ?_
      refine lv_iconst (v := nI 5) hx hb dX9_work_59 (by decide) ?_
      refine ln_icmp_ne (tgt := 76) hx hb dX9_work_60 (by decide) (by decide) (by decide) (fun _ => ?_) (fun h24 => absurd h24 (by decide))
      refine lv_iload_n hx hb dX9_work_76 rfl (lv_at hl 0 rfl) ?_
      refine lv_bipush (v := nI 6) hx hb dX9_work_77 (by decide) ?_
      refine ln_icmp_ne (tgt := 142) hx hb dX9_work_79 (by decide) (by decide) (by decide) (fun h25 => absurd h25 (by decide)) (fun _ => ?_)
      refine lv_aload_n hx hb dX9_work_82 rfl (lv_at hl 1 rfl) ?_
      refine mg_waiting C hW q601 dX9_work_83 ?_
      refine lv_iload_n hx hb dX9_work_86 rfl (lv_at hl 2 rfl) ?_
      refine lv_aload_n hx hb dX9_work_87 rfl (lv_at hl 1 rfl) ?_
      refine mg_about C hW q592 dX9_work_88 ?_
      refine lv_iload_n hx hb dX9_work_91 rfl (lv_at hl 3 rfl) ?_
      refine ml_about (j := i) C hW (by omega) dX9_work_92 ?_
      refine ln_top (k5) ?_
      refine ms_waiting (j := dp) C hW (by omega) dX9_work_93 (fun H locs hW => ?_)
      refine lv_aload_n hx hb dX9_work_94 rfl (lv_at hl 1 rfl) ?_
      refine mg_rightShape C hW q600 dX9_work_95 ?_
      refine lv_iload_n hx hb dX9_work_98 rfl (lv_at hl 2 rfl) ?_
      refine lv_aload_n hx hb dX9_work_99 rfl (lv_at hl 1 rfl) ?_
      refine mg_nowShape C hW q602 dX9_work_100 ?_
      refine ln_top (hns) ?_
      refine ms_rightShape (j := dp) C hW (by omega) dX9_work_103 (fun H locs hW => ?_)
      refine lv_iconst (v := nI 0) hx hb dX9_work_104 (by decide) ?_
      refine lv_istore (lv' := [(4, .int (nI 0)), (3, .int (nI 6)), (0, .ref (ad 0)), (1, .int (nI dp)), (2, .int (nI i))]) hx hb dX9_work_105 hl (by decide) rfl (fun ls hl => ?_)
      have lp : ∀ (N9 : Nat) (k : Nat) (f : Nat → UInt64) (H : Heap) (locs : List Loc) (ls : Array Slot), 24 - k < N9 → (k ≤ 24) → ((∀ q, q < k → f (24 * dp + q) = d2 8 q) ∧ ∀ j, (j < 24 * dp ∨ 24 * dp + k ≤ j) → f j = d2 10 j) → ar_W D A s.heap H locs (mL ad ct (g2, va_up (va_up a2 12 (va_up (a2 12) dp (nI ch))) 11 (va_up ((va_up a2 12 (va_up (a2 12) dp (nI ch))) 11) dp (nI s9)), va_up d2 10 f)) → lv_has ls 5 [(0, .ref (ad 0)), (1, .int (nI dp)), (2, .int (nI i)), (3, .int (nI 6)), (4, .int (nI k))] → W p l e (ar_rm 5 115) s m [.ref (ad 0)].toArray below meth c H locs 0 0 (ar_E below (ar_Q D ct (mL ad ct) A (fun v9 u9 => zWo sv (fun j q => d 3 (24 * j + q)) (zTree (zCh tx n) n) (g, a, d) v9 u9) (fun _ _ => False)) [.ref (ad 0)].toArray s) (F0 m 107 ls []) := by
        intro N9
        induction N9 with
        | zero =>
          intro k f H locs ls hN9
          exact absurd hN9 (Nat.not_lt_zero _)
        | succ N9 ihlp =>
          intro k f H locs ls hN9 hk hf hW hl
          refine lv_iload hx hb dX9_work_107 (lv_at hl 4 rfl) ?_
          refine lv_bipush (v := nI 24) hx hb dX9_work_109 (by decide) ?_
          refine ln_icmp_ge (tgt := 139) hx hb dX9_work_111 (by decide) (by omega) (by first | decide | omega) (fun h26 => ?_) (fun h26 => ?_)
          · skip
            refine lv_goto (tgt := 238) hx hb dX9_work_139 (by decide) ?_
            refine lv_iinc (k := 2) (v := zPr i) (lv' := [(2, .int (zPr i)), (0, .ref (ad 0)), (1, .int (nI dp)), (3, .int (nI 6)), (4, .int (nI k))]) hx hb dX9_work_238 hl rfl (zPr_d _) (by decide) rfl (fun ls hl => ?_)
            refine lv_goto (tgt := 40) hx hb dX9_work_241 (by decide) ?_
            exact K (g2, va_up (va_up a2 12 (va_up (a2 12) dp (nI ch))) 11 (va_up (a2 11) dp (nI s9)), va_up d2 10 f) (zFm_sg (fun j hj => hf.2 j (Or.inl hj))) rfl (by show va_up (va_up a2 12 (va_up (a2 12) dp (nI ch))) 11 (va_up (a2 11) dp (nI s9)) 12 dp = nI ch; rw [va_up_ne _ _ (by decide), va_up_self, va_up_self]) (by show va_up (va_up a2 12 (va_up (a2 12) dp (nI ch))) 11 (va_up (a2 11) dp (nI s9)) 11 dp = nI s9; rw [va_up_self, va_up_self]) (fun q hq => by show va_up d2 10 f 10 (24 * dp + q) = d2 8 q; rw [va_up_self]; exact hf.1 q (by omega)) _ _ _ hW (lv_sub hl [1, 2, 0] rfl)
          · skip
            refine lv_aload_n hx hb dX9_work_114 rfl (lv_at hl 0 rfl) ?_
            refine mg_right C hW q599 dX9_work_115 ?_
            refine lv_bipush (v := nI 24) hx hb dX9_work_118 (by decide) ?_
            refine lv_iload_n hx hb dX9_work_120 rfl (lv_at hl 1 rfl) ?_
            refine ln_imul hx hb dX9_work_121 ?_
            refine lv_iload hx hb dX9_work_122 (lv_at hl 4 rfl) ?_
            refine ln_iadd hx hb dX9_work_124 ?_
            refine lv_aload_n hx hb dX9_work_125 rfl (lv_at hl 0 rfl) ?_
            refine mg_now C hW q597 dX9_work_126 ?_
            refine lv_iload hx hb dX9_work_129 (lv_at hl 4 rfl) ?_
            refine ml_now (j := k) C hW (by omega) dX9_work_131 ?_
            rw [va_up_ne _ _ (by omega)]
            refine ms_right (j := (24 * dp) + k) C hW (by omega) dX9_work_132 (fun H locs hW => ?_)
            simp only [bx_uu, va_up_self] at hW
            refine ln_iinc (k := 4) (n := 1) (lv' := [(4, .int (nI (k + 1))), (0, .ref (ad 0)), (1, .int (nI dp)), (2, .int (nI i)), (3, .int (nI 6))]) hx hb dX9_work_133 hl rfl (by decide) rfl (fun ls hl => ?_)
            refine lv_goto (tgt := 107) hx hb dX9_work_136 (by decide) ?_
            exact ihlp (k + 1) (va_up f (24 * dp + k) (d2 8 k)) _ _ _ (by omega) (by omega) (zFill10 hf) (hW) (lv_sub hl [1, 2, 3, 4, 0] rfl)
      exact lp _ 0 (d2 10) _ _ _ (Nat.lt_succ_self _) (Nat.zero_le _) (⟨fun q hq => absurd hq (Nat.not_lt_zero _), fun _ _ => rfl⟩) (by rw [va_up_id]; exact hW) (lv_sub hl [2, 3, 4, 1, 0] rfl)
    · skip
      rintro i dp ⟨g2, a2, d2⟩ x9 ch oo ar s9 y cv mk hbs hi9 hd9 hx4 hcs hch hk4 hk5 her hoo har hv9 K H locs ls hW hl
      have her : g2 23 = nI 0 := her
      have hoo : g2 21 = bI oo := hoo
      have har : g2 22 = nI ar := har
      have hb4 : a2 4 = a9 4 := hbs.1 4 (by decide) (by decide)
      have hb5 : a2 5 = a9 5 := hbs.1 5 (by decide) (by decide)
      obtain ⟨kk, k4, hk7⟩ : ∃ kk : Nat, a2 4 i = nI kk ∧ 7 ≤ kk ∧ kk ≤ 9 := ⟨_, by rw [hb4]; exact hk4, by (repeat' split) <;> omega, by (repeat' split) <;> omega⟩
      rw [zPr_s] at hl
      refine lv_iload_n hx hb dX9_work_40 rfl (lv_at hl 2 rfl) ?_
      refine ln_if_lt (tgt := 244) hx hb dX9_work_41 (by decide) (by omega) ?_
      refine lv_aload_n hx hb dX9_work_44 rfl (lv_at hl 0 rfl) ?_
      refine mg_error C hW q610 dX9_work_45 ?_
      refine ln_top (her) ?_
      refine ln_if_ne (tgt := 244) hx hb dX9_work_48 (by decide) (by decide) (fun h28 => absurd h28 (by decide)) (fun _ => ?_)
      refine lv_aload_n hx hb dX9_work_51 rfl (lv_at hl 0 rfl) ?_
      refine mg_symbol C hW q591 dX9_work_52 ?_
      refine lv_iload_n hx hb dX9_work_55 rfl (lv_at hl 2 rfl) ?_
      refine ml_symbol (j := i) C hW (by omega) dX9_work_56 ?_
      refine ln_top (k4) ?_
      refine lv_istore_n (lv' := [(3, .int (nI kk)), (0, .ref (ad 0)), (1, .int (nI dp)), (2, .int (nI i))]) hx hb dX9_work_57 rfl hl (by decide) rfl (fun ls hl => ?_)
      refine lv_iload_n hx hb dX9_work_58 rfl (lv_at hl 0 rfl) ?_
      refine lv_iconst (v := nI 5) hx hb dX9_work_59 (by decide) ?_
      refine ln_icmp_ne (tgt := 76) hx hb dX9_work_60 (by decide) (by omega) (by first | decide | omega) (fun h29 => ?_) (fun h29 => ?_)
      · skip
        refine lv_iload_n hx hb dX9_work_76 rfl (lv_at hl 0 rfl) ?_
        refine lv_bipush (v := nI 6) hx hb dX9_work_77 (by decide) ?_
        refine ln_icmp_ne (tgt := 142) hx hb dX9_work_79 (by decide) (by omega) (by first | decide | omega) (fun h30 => ?_) (fun h30 => ?_)
        · skip
          refine lv_iload_n hx hb dX9_work_142 rfl (lv_at hl 0 rfl) ?_
          refine lv_bipush (v := nI 7) hx hb dX9_work_143 (by decide) ?_
          refine ln_icmp_lt (tgt := 156) hx hb dX9_work_145 (by decide) (by omega) (by first | decide | omega) (fun h31 => ?_) (fun h31 => ?_)
          · skip
            exfalso; omega
          · skip
            refine lv_aload_n hx hb dX9_work_148 rfl (lv_at hl 1 rfl) ?_
            refine lv_iload_n hx hb dX9_work_149 rfl (lv_at hl 3 rfl) ?_
            refine ar_callV (q0 := 0) (ci := 7) (T9 := TX9) (N9 := 27) (As := [.int (nI i)]) (rest := []) C hW (c_X9_front hl9 g2 a2 d2 i hi9 x9 ch hx4 hcs hch (by rw [hb4]; exact hk4) (by rw [hb5]; exact hk5) oo hoo ar har s9 y cv mk hv9) (rfl) rfl q761 q763 qs8 q6 q764 hd_X9_front ⟨Nat.le_of_ble_eq_true rfl, Nat.le_of_ble_eq_true rfl⟩ hl.1 (Nat.le_of_ble_eq_true rfl) rfl dX9_work_150 (fun _ _ _ _ _ _ hp => hp.elim) (fun v9 u9 H locs hp hW => ?_)
            obtain ⟨rfl, hft⟩ := hp
            refine W.eq (g2 := F0 m 153 ls []) rfl ?_
            refine lv_goto (tgt := 238) hx hb dX9_work_153 (by decide) ?_
            refine lv_iinc (k := 3) (v := zPr i) (lv' := [(2, .int (zPr i)), (3, .int (nI kk)), (0, .ref (ad 0)), (1, .int (nI dp))]) hx hb dX9_work_238 hl rfl (zPr_d _) (by decide) rfl (fun ls hl => ?_)
            refine lv_goto (tgt := 40) hx hb dX9_work_241 (by decide) ?_
            exact K _ hft _ _ _ hW (lv_sub hl [2, 3, 0] rfl)
        · skip
          exfalso; omega
      · skip
        exfalso; omega
    · skip
      rintro ⟨g2, a2, d2⟩ hz hfm h12 her har hnw H locs ls hW hl
      have her : g2 23 = nI 0 := her
      obtain ⟨b, hb1, hb2, hb3⟩ := hnw
      have hb1 : g2 21 = bI b := hb1
      refine lv_iload_n hx hb dX9_work_40 rfl (lv_at hl 2 rfl) ?_
      refine lv_if_lt (tgt := 244) hx hb dX9_work_41 (by decide) (fun h32 => ?_) (fun h32 => ?_)
      · skip
        refine lv_aload_n hx hb dX9_work_244 rfl (lv_at hl 0 rfl) ?_
        refine mg_error C hW q610 dX9_work_245 ?_
        refine ln_top (her) ?_
        refine ln_if_le (tgt := 258) hx hb dX9_work_248 (by decide) (by decide) (fun _ => ?_) (fun h33 => absurd h33 (by decide))
        refine lv_aload_n hx hb dX9_work_258 rfl (lv_at hl 0 rfl) ?_
        refine mg_outOfRange C hW q608 dX9_work_259 ?_
        refine ln_topb (hb1) ?_
        refine lb_if_eq (tgt := 269) hx hb dX9_work_262 (by decide) (fun h34 => ?_) (fun h34 => ?_)
        · skip
          refine lv_iconst (v := nI 0) hx hb dX9_work_269 (by decide) ?_
          exact ar_iret C hr hW dX9_work_270 (⟨⟨fun r hr => (hfm.1 r (by omega) (by omega)).trans ((va_up_ne _ _ (by omega)).trans (hfa r (Or.inl hr))), hfm.2.1, fun k hk => (hfm.2.2.1 k (by omega)).trans (by show va_up (va_up (va_up (zGq g (zTl t) (zNl t)) 22 (nI 0)) 23 (nI 0)) 21 (nI 0) k = g k; rw [va_up_ne _ _ (by omega), va_up_ne _ _ (by omega), va_up_ne _ _ (by omega)]; exact zGq_fg k (by omega) (by omega))⟩, (fun h => by rw [hZ] at h; cases h), fun t2 h => by rw [hZ] at h; cases h; exact ⟨fun q => absurd hz q, fun _ => ⟨b, by rw [hb2]; exact ⟨fun q => q.2, fun q => ⟨rfl, q⟩⟩, by rw [h34]; rfl, by rw [Nat.zero_add] at har; exact har, hb3⟩⟩⟩)
        · skip
          refine lv_iconst (v := nI 4) hx hb dX9_work_265 (by decide) ?_
          refine lv_goto (tgt := 270) hx hb dX9_work_266 (by decide) ?_
          exact ar_iret C hr hW dX9_work_270 (⟨⟨fun r hr => (hfm.1 r (by omega) (by omega)).trans ((va_up_ne _ _ (by omega)).trans (hfa r (Or.inl hr))), hfm.2.1, fun k hk => (hfm.2.2.1 k (by omega)).trans (by show va_up (va_up (va_up (zGq g (zTl t) (zNl t)) 22 (nI 0)) 23 (nI 0)) 21 (nI 0) k = g k; rw [va_up_ne _ _ (by omega), va_up_ne _ _ (by omega), va_up_ne _ _ (by omega)]; exact zGq_fg k (by omega) (by omega))⟩, (fun h => by rw [hZ] at h; cases h), fun t2 h => by rw [hZ] at h; cases h; exact ⟨fun q => absurd hz q, fun _ => ⟨b, by rw [hb2]; exact ⟨fun q => q.2, fun q => ⟨rfl, q⟩⟩, by rw [h34]; rfl, by rw [Nat.zero_add] at har; exact har, hb3⟩⟩⟩)
      · skip
        exact absurd (by decide) h32
    · skip
      rintro j e9 ⟨g2, a2, d2⟩ hz hfm her H locs ls hW hl
      have her : g2 23 = nI (zTs sv t).1 := her
      have hzl := zTs_le (sv := sv) t
      refine lv_iload_n hx hb dX9_work_40 rfl (lv_at hl 2 rfl) ?_
      refine lv_if_lt (tgt := 244) hx hb dX9_work_41 (by decide) (fun h35 => ?_) (fun h35 => ?_)
      · skip
        refine lv_aload_n hx hb dX9_work_244 rfl (lv_at hl 0 rfl) ?_
        refine mg_error C hW q610 dX9_work_245 ?_
        refine ln_top (her) ?_
        refine ln_if_le (tgt := 258) hx hb dX9_work_248 (by decide) (by omega) (fun h36 => ?_) (fun h36 => ?_)
        · skip
          exfalso; omega
        · skip
          refine lv_iconst (v := nI 1) hx hb dX9_work_251 (by decide) ?_
          refine lv_aload_n hx hb dX9_work_252 rfl (lv_at hl 0 rfl) ?_
          refine mg_error C hW q610 dX9_work_253 ?_
          refine ln_top (her) ?_
          refine ln_iadd hx hb dX9_work_256 ?_
          exact ar_iret C hr hW dX9_work_257 (⟨⟨fun r hr => (hfm.1 r (by omega) (by omega)).trans ((va_up_ne _ _ (by omega)).trans (hfa r (Or.inl hr))), hfm.2.1, fun k hk => (hfm.2.2.1 k (by omega)).trans (by show va_up (va_up (va_up (zGq g (zTl t) (zNl t)) 22 (nI 0)) 23 (nI 0)) 21 (nI 0) k = g k; rw [va_up_ne _ _ (by omega), va_up_ne _ _ (by omega), va_up_ne _ _ (by omega)]; exact zGq_fg k (by omega) (by omega))⟩, (fun h => by rw [hZ] at h; cases h), fun t2 h => by rw [hZ] at h; cases h; exact ⟨fun _ => rfl, fun q => absurd q hz⟩⟩)
      · skip
        refine lv_aload_n hx hb dX9_work_44 rfl (lv_at hl 0 rfl) ?_
        refine mg_error C hW q610 dX9_work_45 ?_
        refine ln_top (her) ?_
        refine ln_if_ne (tgt := 244) hx hb dX9_work_48 (by decide) (by omega) (fun h37 => ?_) (fun h37 => ?_)
        · skip
          refine lv_aload_n hx hb dX9_work_244 rfl (lv_at hl 0 rfl) ?_
          refine mg_error C hW q610 dX9_work_245 ?_
          refine ln_top (her) ?_
          refine ln_if_le (tgt := 258) hx hb dX9_work_248 (by decide) (by omega) (fun h38 => ?_) (fun h38 => ?_)
          · skip
            exfalso; omega
          · skip
            refine lv_iconst (v := nI 1) hx hb dX9_work_251 (by decide) ?_
            refine lv_aload_n hx hb dX9_work_252 rfl (lv_at hl 0 rfl) ?_
            refine mg_error C hW q610 dX9_work_253 ?_
            refine ln_top (her) ?_
            refine ln_iadd hx hb dX9_work_256 ?_
            exact ar_iret C hr hW dX9_work_257 (⟨⟨fun r hr => (hfm.1 r (by omega) (by omega)).trans ((va_up_ne _ _ (by omega)).trans (hfa r (Or.inl hr))), hfm.2.1, fun k hk => (hfm.2.2.1 k (by omega)).trans (by show va_up (va_up (va_up (zGq g (zTl t) (zNl t)) 22 (nI 0)) 23 (nI 0)) 21 (nI 0) k = g k; rw [va_up_ne _ _ (by omega), va_up_ne _ _ (by omega), va_up_ne _ _ (by omega)]; exact zGq_fg k (by omega) (by omega))⟩, (fun h => by rw [hZ] at h; cases h), fun t2 h => by rw [hZ] at h; cases h; exact ⟨fun _ => rfl, fun q => absurd q hz⟩⟩)
        · skip
          exfalso; omega
