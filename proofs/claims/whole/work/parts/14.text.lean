def zCnI (o : Option Nat) : Int32 := match o with
  | none => -1
  | some k => nI k
theorem zCn_s {x : Int64} {k : Nat} (hk : k < 8) : zCn x (8 - k) k = if zBy x k = 0 then some k else if 127 < zBy x k then none else zCn x (8 - (k + 1)) (k + 1) := by
  obtain ⟨f, hf⟩ : ∃ f, 8 - k = f + 1 := ⟨7 - k, by omega⟩
  rw [hf, show 8 - (k + 1) = f by omega, zCn]
theorem zCn_ok {x : Int64} : ∀ (f k c : Nat), zCn x f k = some c → k ≤ c ∧ c ≤ k + f ∧ ∀ i, k ≤ i → i < c → 1 ≤ zBy x i ∧ zBy x i ≤ 127 := by
  intro f
  induction f with
  | zero =>
    intro k c h
    cases h
    exact ⟨Nat.le_refl _, Nat.le_refl _, fun i h1 h2 => by omega⟩
  | succ f ih =>
    intro k c h
    rw [zCn] at h
    split at h
    · cases h
      exact ⟨Nat.le_refl _, by omega, fun i h1 h2 => by omega⟩
    · split at h
      · cases h
      · obtain ⟨h1, h2, h3⟩ := ih (k + 1) c h
        refine ⟨by omega, by omega, fun i h4 h5 => ?_⟩
        by_cases h6 : i = k
        · subst h6
          omega
        · exact h3 i (by omega) h5
def zWr (x : Int64) (n : Nat) : Option Nat := match zCn x 8 0 with
  | none => none
  | some c => if n + c ≤ 40 then some c else none
def zAp (f : Nat → Int32) (x : Int64) (n c : Nat) : Nat → Int32 := fun i => if n ≤ i ∧ i < n + c then nI (zBy x (i - n)) else f i
theorem zAp_s {f g : Nat → Int32} {x : Int64} {n k : Nat} (hf : f = zAp g x n k) : va_up f (n + k) (nI (zBy x k)) = zAp g x n (k + 1) := by
  funext i
  rw [hf]
  unfold va_up zAp
  by_cases h : i = n + k
  · rw [if_pos h, if_pos (by omega), h, Nat.add_sub_cancel_left]
  · rw [if_neg h]
    by_cases h2 : n ≤ i ∧ i < n + k
    · rw [if_pos h2, if_pos (by omega)]
    · rw [if_neg h2, if_neg (by omega)]
theorem zAp_0 {f : Nat → Int32} {x : Int64} {n : Nat} : f = zAp f x n 0 := by
  funext i
  unfold zAp
  rw [if_neg (by omega)]
theorem i2c_nI {a : Nat} (h : a < 65536) : ((nI a).toUInt32 % 65536).toInt32 = nI a := by
  rw [pk_char, pk_tn (by omega), Nat.mod_eq_of_lt h]
theorem nar_nI {a : Nat} (h : a < 65536) : vp_nar .char (nI a) = nI a := by
  have := (pk_charN h).1
  unfold vp_nar
  rw [this]
theorem va_up_s {α : Type} {f : Nat → α} {k : Nat} {v : α} (h : f k = v) : va_up f k v = f := by rw [← h, va_up_id]
theorem hd_X5_startReading : yX5_startReading.cls ≠ "java/lang/invoke/MethodHandle" ∧ yX5_startReading.cls ≠ "java/lang/invoke/VarHandle" ∧ (parseMethodDescriptor yX5_startReading.desc).map (fun d => d.parameters.length) = some 0 := by decide +kernel
set_option maxHeartbeats 4000000 in
set_option maxRecDepth 100000 in
theorem c_X5_startReading {l : Launch} (hl9 : l.stackTraces = false) {D : va_G} {ct : Nat → ClassId} {ad : Nat → Nat} (sc sg sh : Nat → Int32) (el : Nat → Nat → UInt64) (nf : Nat → Nat → Int32) (lr : Nat → Nat → Option Nat)  : ar_M l yX5_startReading cX5_startReading 1 none 0 0 D ct (xL ad ct) [.ref (ad 2)] (sc, sg, sh, el, nf, lr) (fun v9 u9 => v9 = none ∧ u9 = (va_up sc 3 (nI 0), sg, sh, el, nf, lr)) (fun _ _ => False) := by
  refine ar_ofW hl9 (by decide) (Nat.le_of_ble_eq_true rfl) ?_
  intro p e s m below meth c A ls C hr hnm hW hl
  have hx := C.1
  have hb := C.2.1
  have hown := C.2.2.2.1
  have hts := C.2.2.2.2.1
  have hl : lv_has ls 1 [(0, .ref (ad 2))] := hl
  refine lv_aload_n hx hb dX5_startReading_0 rfl (lv_at hl 0 rfl) ?_
  refine lv_iconst (v := nI 0) hx hb dX5_startReading_1 (by decide) ?_
  refine xp_place C hW q60 dX5_startReading_2 (fun H locs hW => ?_)
  exact ar_vret C hr hW dX5_startReading_5 (⟨rfl, rfl⟩)
theorem hd_X5_clear : yX5_clear.cls ≠ "java/lang/invoke/MethodHandle" ∧ yX5_clear.cls ≠ "java/lang/invoke/VarHandle" ∧ (parseMethodDescriptor yX5_clear.desc).map (fun d => d.parameters.length) = some 0 := by decide +kernel
set_option maxHeartbeats 4000000 in
set_option maxRecDepth 100000 in
theorem c_X5_clear {l : Launch} (hl9 : l.stackTraces = false) {D : va_G} {ct : Nat → ClassId} {ad : Nat → Nat} (sc sg sh : Nat → Int32) (el : Nat → Nat → UInt64) (nf : Nat → Nat → Int32) (lr : Nat → Nat → Option Nat) (n : Nat) (hlen : sc 2 = nI n) : ar_M l yX5_clear cX5_clear 2 (some .int) 0 0 D ct (xL ad ct) [.ref (ad 2)] (sc, sg, sh, el, nf, lr) (fun v9 u9 => v9 = some (.int (nI n)) ∧ u9 = (va_up sc 2 (nI 0), sg, sh, el, nf, lr)) (fun _ _ => False) := by
  refine ar_ofW hl9 (by decide) (Nat.le_of_ble_eq_true rfl) ?_
  intro p e s m below meth c A ls C hr hnm hW hl
  have hx := C.1
  have hb := C.2.1
  have hown := C.2.2.2.1
  have hts := C.2.2.2.2.1
  have hl : lv_has ls 2 [(0, .ref (ad 2))] := hl
  refine lv_aload_n hx hb dX5_clear_0 rfl (lv_at hl 0 rfl) ?_
  refine xg_length C hW q59 dX5_clear_1 ?_
  refine ln_top (hlen) ?_
  refine lv_istore_n (lv' := [(1, .int (nI n)), (0, .ref (ad 2))]) hx hb dX5_clear_4 rfl hl (by decide) rfl (fun ls hl => ?_)
  refine lv_aload_n hx hb dX5_clear_5 rfl (lv_at hl 1 rfl) ?_
  refine lv_iconst (v := nI 0) hx hb dX5_clear_6 (by decide) ?_
  refine xp_length C hW q59 dX5_clear_7 (fun H locs hW => ?_)
  refine lv_iload_n hx hb dX5_clear_10 rfl (lv_at hl 0 rfl) ?_
  exact ar_iret C hr hW dX5_clear_11 (⟨rfl, rfl⟩)
theorem hd_X5_next : yX5_next.cls ≠ "java/lang/invoke/MethodHandle" ∧ yX5_next.cls ≠ "java/lang/invoke/VarHandle" ∧ (parseMethodDescriptor yX5_next.desc).map (fun d => d.parameters.length) = some 0 := by decide +kernel
set_option maxHeartbeats 4000000 in
set_option maxRecDepth 100000 in
theorem c_X5_next {l : Launch} (hl9 : l.stackTraces = false) {D : va_G} {ct : Nat → ClassId} {ad : Nat → Nat} (sc sg sh : Nat → Int32) (el : Nat → Nat → UInt64) (nf : Nat → Nat → Int32) (lr : Nat → Nat → Option Nat) (n q : Nat) (tx : Nat → Nat) (hn : n ≤ 40) (hlen : sc 2 = nI n) (hq : q ≤ n) (hpl : sc 3 = nI q) (htx : ∀ j, j < n → sg j = nI (tx j)) (hcx : ∀ j, j < n → 1 ≤ tx j ∧ tx j ≤ 127) : ar_M l yX5_next cX5_next 1 (some .char) 0 0 D ct (xL ad ct) [.ref (ad 2)] (sc, sg, sh, el, nf, lr) (fun v9 u9 => v9 = some (.int (nI (zCh tx n q))) ∧ u9 = (sc, sg, sh, el, nf, lr)) (fun _ _ => False) := by
  refine ar_ofW hl9 (by decide) (Nat.le_of_ble_eq_true rfl) ?_
  intro p e s m below meth c A ls C hr hnm hW hl
  have hx := C.1
  have hb := C.2.1
  have hown := C.2.2.2.1
  have hts := C.2.2.2.2.1
  have hl : lv_has ls 1 [(0, .ref (ad 2))] := hl
  refine lv_aload_n hx hb dX5_next_0 rfl (lv_at hl 0 rfl) ?_
  refine xg_place C hW q60 dX5_next_1 ?_
  refine ln_top (hpl) ?_
  refine lv_aload_n hx hb dX5_next_4 rfl (lv_at hl 0 rfl) ?_
  refine xg_length C hW q59 dX5_next_5 ?_
  refine ln_top (hlen) ?_
  refine ln_icmp_ge (tgt := 23) hx hb dX5_next_8 (by decide) (by omega) (by omega) (fun h1 => ?_) (fun h1 => ?_)
  · skip
    refine lv_iconst (v := nI 0) hx hb dX5_next_23 (by decide) ?_
    exact ar_zret C hr ((pk_charN (by first | decide | (have := hcx q (by omega); omega))).1) hW dX5_next_24 (⟨congrArg (fun z => some (Value.int (nI z))) ((zCh_out h1).symm), rfl⟩)
  · skip
    refine lv_aload_n hx hb dX5_next_11 rfl (lv_at hl 0 rfl) ?_
    refine xg_signs C hW q58 dX5_next_12 ?_
    refine lv_aload_n hx hb dX5_next_15 rfl (lv_at hl 0 rfl) ?_
    refine xg_place C hW q60 dX5_next_16 ?_
    refine ln_top (hpl) ?_
    refine xl_signs (j := q) C hW (by omega) dX5_next_19 ?_
    refine ln_top (htx q (by omega)) ?_
    refine lv_goto (tgt := 24) hx hb dX5_next_20 (by decide) ?_
    exact ar_zret C hr ((pk_charN (by first | decide | (have := hcx q (by omega); omega))).1) hW dX5_next_24 (⟨congrArg (fun z => some (Value.int (nI z))) ((zCh_in h1).symm), rfl⟩)
theorem hd_X5_pass : yX5_pass.cls ≠ "java/lang/invoke/MethodHandle" ∧ yX5_pass.cls ≠ "java/lang/invoke/VarHandle" ∧ (parseMethodDescriptor yX5_pass.desc).map (fun d => d.parameters.length) = some 0 := by decide +kernel
set_option maxHeartbeats 4000000 in
set_option maxRecDepth 100000 in
theorem c_X5_pass {l : Launch} (hl9 : l.stackTraces = false) {D : va_G} {ct : Nat → ClassId} {ad : Nat → Nat} (sc sg sh : Nat → Int32) (el : Nat → Nat → UInt64) (nf : Nat → Nat → Int32) (lr : Nat → Nat → Option Nat) (n q : Nat) (hn : n ≤ 40) (hlen : sc 2 = nI n) (hq : q ≤ n) (hpl : sc 3 = nI q) : ar_M l yX5_pass cX5_pass 1 none 0 0 D ct (xL ad ct) [.ref (ad 2)] (sc, sg, sh, el, nf, lr) (fun v9 u9 => v9 = none ∧ u9 = (va_up sc 3 (nI (if q < n then q + 1 else q)), sg, sh, el, nf, lr)) (fun _ _ => False) := by
  refine ar_ofW hl9 (by decide) (Nat.le_of_ble_eq_true rfl) ?_
  intro p e s m below meth c A ls C hr hnm hW hl
  have hx := C.1
  have hb := C.2.1
  have hown := C.2.2.2.1
  have hts := C.2.2.2.2.1
  have hl : lv_has ls 1 [(0, .ref (ad 2))] := hl
  refine lv_aload_n hx hb dX5_pass_0 rfl (lv_at hl 0 rfl) ?_
  refine xg_place C hW q60 dX5_pass_1 ?_
  refine ln_top (hpl) ?_
  refine lv_aload_n hx hb dX5_pass_4 rfl (lv_at hl 0 rfl) ?_
  refine xg_length C hW q59 dX5_pass_5 ?_
  refine ln_top (hlen) ?_
  refine ln_icmp_ge (tgt := 21) hx hb dX5_pass_8 (by decide) (by omega) (by omega) (fun h1 => ?_) (fun h1 => ?_)
  · skip
    exact ar_vret C hr hW dX5_pass_21 (⟨rfl, by rw [if_neg (by omega), va_up_s hpl]⟩)
  · skip
    refine lv_aload_n hx hb dX5_pass_11 rfl (lv_at hl 0 rfl) ?_
    refine lv_dup hx hb dX5_pass_12 rfl ?_
    refine xg_place C hW q60 dX5_pass_13 ?_
    refine ln_top (hpl) ?_
    refine lv_iconst (v := nI 1) hx hb dX5_pass_16 (by decide) ?_
    refine ln_iadd hx hb dX5_pass_17 ?_
    refine xp_place C hW q60 dX5_pass_18 (fun H locs hW => ?_)
    exact ar_vret C hr hW dX5_pass_21 (⟨rfl, by rw [if_pos h1]⟩)
theorem hd_X5_passIfNext : yX5_passIfNext.cls ≠ "java/lang/invoke/MethodHandle" ∧ yX5_passIfNext.cls ≠ "java/lang/invoke/VarHandle" ∧ (parseMethodDescriptor yX5_passIfNext.desc).map (fun d => d.parameters.length) = some 1 := by decide +kernel
set_option maxHeartbeats 4000000 in
set_option maxRecDepth 100000 in
theorem c_X5_passIfNext {l : Launch} (hl9 : l.stackTraces = false) {D : va_G} {ct : Nat → ClassId} {ad : Nat → Nat} (sc sg sh : Nat → Int32) (el : Nat → Nat → UInt64) (nf : Nat → Nat → Int32) (lr : Nat → Nat → Option Nat) (n q : Nat) (tx : Nat → Nat) (hn : n ≤ 40) (hlen : sc 2 = nI n) (hq : q ≤ n) (hpl : sc 3 = nI q) (htx : ∀ j, j < n → sg j = nI (tx j)) (hcx : ∀ j, j < n → 1 ≤ tx j ∧ tx j ≤ 127) (ch : Nat) (h0 : 0 < ch) (hc9 : ch < 65536) : ar_M l yX5_passIfNext cX5_passIfNext 2 (some .boolean) 1 20 D ct (xL ad ct) [.ref (ad 2), .int (nI ch)] (sc, sg, sh, el, nf, lr) (fun v9 u9 => v9 = some (.int (bI (decide (zCh tx n q = ch)))) ∧ u9 = (va_up sc 3 (nI (if zCh tx n q = ch then q + 1 else q)), sg, sh, el, nf, lr)) (fun _ _ => False) := by
  refine ar_ofW hl9 (by decide) (Nat.le_of_ble_eq_true rfl) ?_
  intro p e s m below meth c A ls C hr hnm hW hl
  have hx := C.1
  have hb := C.2.1
  have hown := C.2.2.2.1
  have hts := C.2.2.2.2.1
  have hl : lv_has ls 2 [(0, .ref (ad 2)), (1, .int (nI ch))] := hl
  refine lv_aload_n hx hb dX5_passIfNext_0 rfl (lv_at hl 0 rfl) ?_
  refine ar_callV (As := []) (rest := []) C hW (c_X5_next hl9 sc sg sh el nf lr n q tx hn hlen hq hpl htx hcx) (xl_at (by decide) rfl) rfl q423 q402 q403 q3 q404 hd_X5_next ⟨Nat.le_of_ble_eq_true rfl, Nat.le_of_ble_eq_true rfl⟩ hl.1 (Nat.le_of_ble_eq_true rfl) rfl dX5_passIfNext_1 (fun _ _ _ _ _ _ hp => hp.elim) (fun v9 u9 H locs hp hW => ?_)
  obtain ⟨rfl, hu9⟩ := hp
  rw [hu9] at hW
  refine W.eq (g2 := F0 m 4 ls [.int (nI (zCh tx n q))]) rfl ?_
  refine lv_iload_n hx hb dX5_passIfNext_4 rfl (lv_at hl 1 rfl) ?_
  refine ln_icmp_eq (tgt := 10) hx hb dX5_passIfNext_5 (by decide) (by have := zCh_lt (q := q) hcx; omega) (by omega) (fun h1 => ?_) (fun h1 => ?_)
  · skip
    refine lv_aload_n hx hb dX5_passIfNext_10 rfl (lv_at hl 0 rfl) ?_
    refine ar_callV (As := []) (rest := []) C hW (c_X5_pass hl9 sc sg sh el nf lr n q hn hlen hq hpl) (xl_at (by decide) rfl) rfl q424 q409 q410 q3 q411 hd_X5_pass ⟨Nat.le_of_ble_eq_true rfl, Nat.le_of_ble_eq_true rfl⟩ hl.1 (Nat.le_of_ble_eq_true rfl) rfl dX5_passIfNext_11 (fun _ _ _ _ _ _ hp => hp.elim) (fun v9 u9 H locs hp hW => ?_)
    obtain ⟨rfl, hu9⟩ := hp
    rw [hu9] at hW
    refine W.eq (g2 := F0 m 14 ls []) rfl ?_
    refine lv_iconst (v := nI 1) hx hb dX5_passIfNext_14 (by decide) ?_
    exact ar_zret C hr (nI_z1.1) hW dX5_passIfNext_15 (⟨congrArg (fun z => some (Value.int z)) (bI_t (by simp [h1])), by rw [if_pos h1, if_pos (zCh_pos (by rw [h1]; omega))]⟩)
  · skip
    refine lv_iconst (v := nI 0) hx hb dX5_passIfNext_8 (by decide) ?_
    exact ar_zret C hr (nI_z0.1) hW dX5_passIfNext_9 (⟨congrArg (fun z => some (Value.int z)) (bI_f (by simp [h1])), by rw [if_neg h1, va_up_s hpl]⟩)
theorem hd_X5_signOf : yX5_signOf.cls ≠ "java/lang/invoke/MethodHandle" ∧ yX5_signOf.cls ≠ "java/lang/invoke/VarHandle" ∧ (parseMethodDescriptor yX5_signOf.desc).map (fun d => d.parameters.length) = some 2 := by decide +kernel
set_option maxHeartbeats 4000000 in
set_option maxRecDepth 100000 in
theorem c_X5_signOf {l : Launch} (hl9 : l.stackTraces = false) {D : va_G} {ct : Nat → ClassId} {S : Type} {wl : S → va_W} (u0 : S) (x : Int64) (k : Nat) (hk : k < 8) : ar_M l yX5_signOf cX5_signOf 3 (some .int) 0 0 D ct wl [.long x, .int (nI k)] u0 (fun v9 u9 => v9 = some (.int (nI (zBy x k))) ∧ u9 = u0) (fun _ _ => False) := by
  refine ar_ofW hl9 (by decide) (Nat.le_of_ble_eq_true rfl) ?_
  intro p e s m below meth c A ls C hr hnm hW hl
  have hx := C.1
  have hb := C.2.1
  have hown := C.2.2.2.1
  have hts := C.2.2.2.2.1
  have hl : lv_has ls 3 [(0, .long x), (2, .int (nI k))] := hl
  refine lv_lload_n hx hb dX5_signOf_0 rfl (lv_at hl 0 rfl) ?_
  refine lv_bipush (v := nI 8) hx hb dX5_signOf_1 (by decide) ?_
  refine lv_iload_n hx hb dX5_signOf_3 rfl (lv_at hl 1 rfl) ?_
  refine ln_imul hx hb dX5_signOf_4 ?_
  refine lv_lushr hx hb dX5_signOf_5 rfl ?_
  refine lv_l2i hx hb dX5_signOf_6 rfl ?_
  refine lv_sipush (v := nI 255) hx hb dX5_signOf_7 (by decide) ?_
  refine lv_iand hx hb dX5_signOf_10 ?_
  rw [zBy_l x k (by omega)]
  exact ar_iret C hr hW dX5_signOf_11 (⟨rfl, rfl⟩)
theorem hd_X5_signsIn : yX5_signsIn.cls ≠ "java/lang/invoke/MethodHandle" ∧ yX5_signsIn.cls ≠ "java/lang/invoke/VarHandle" ∧ (parseMethodDescriptor yX5_signsIn.desc).map (fun d => d.parameters.length) = some 1 := by decide +kernel
set_option maxHeartbeats 4000000 in
set_option maxRecDepth 100000 in
theorem c_X5_signsIn {l : Launch} (hl9 : l.stackTraces = false) {D : va_G} {ct : Nat → ClassId} {S : Type} {wl : S → va_W} (u0 : S) (x : Int64) : ar_M l yX5_signsIn cX5_signsIn 4 (some .int) 1 22 D ct wl [.long x] u0 (fun v9 u9 => v9 = some (.int (zCnI (zCn x 8 0))) ∧ u9 = u0) (fun _ _ => False) := by
  refine ar_ofW hl9 (by decide) (Nat.le_of_ble_eq_true rfl) ?_
  intro p e s m below meth c A ls C hr hnm hW hl
  have hx := C.1
  have hb := C.2.1
  have hown := C.2.2.2.1
  have hts := C.2.2.2.2.1
  have hl : lv_has ls 4 [(0, .long x)] := hl
  refine lv_iconst (v := nI 0) hx hb dX5_signsIn_0 (by decide) ?_
  refine lv_istore_n (lv' := [(2, .int (nI 0)), (0, .long x)]) hx hb dX5_signsIn_1 rfl hl (by decide) rfl (fun ls hl => ?_)
  have lp : ∀ (N9 : Nat) (k : Nat) (H : Heap) (locs : List Loc) (ls : Array Slot), 8 - k < N9 → (k ≤ 8) → (zCn x 8 0 = zCn x (8 - k) k) → ar_W D A s.heap H locs (wl u0) → lv_has ls 4 [(0, .long x), (2, .int (nI k))] → W p l e (ar_rm 1 22) s m [.long x].toArray below meth c H locs 0 0 (ar_E below (ar_Q D ct (wl) A (fun v9 u9 => v9 = some (.int (zCnI (zCn x 8 0))) ∧ u9 = u0) (fun _ _ => False)) [.long x].toArray s) (F0 m 2 ls []) := by
    intro N9
    induction N9 with
    | zero =>
      intro k H locs ls hN9
      exact absurd hN9 (Nat.not_lt_zero _)
    | succ N9 ihlp =>
      intro k H locs ls hN9 hk hc hW hl
      refine lv_iload_n hx hb dX5_signsIn_2 rfl (lv_at hl 1 rfl) ?_
      refine lv_bipush (v := nI 8) hx hb dX5_signsIn_3 (by decide) ?_
      refine ln_icmp_ge (tgt := 34) hx hb dX5_signsIn_5 (by decide) (by have := zBy_lt x k; omega) (by have := zBy_lt x k; omega) (fun h1 => ?_) (fun h1 => ?_)
      · skip
        refine lv_bipush (v := nI 8) hx hb dX5_signsIn_34 (by decide) ?_
        exact ar_iret C hr hW dX5_signsIn_36 (⟨congrArg (fun z => some (Value.int (zCnI z))) (show some 8 = zCn x 8 0 by rw [hc, show k = 8 by omega]; rfl), rfl⟩)
      · skip
        refine lv_lload_n hx hb dX5_signsIn_8 rfl (lv_at hl 0 rfl) ?_
        refine lv_iload_n hx hb dX5_signsIn_9 rfl (lv_at hl 1 rfl) ?_
        refine ar_callS (As := [.long x, .int (nI k)]) (rest := []) C hW (c_X5_signOf hl9 _ x k (by omega)) q159 q160 q3 q161 hd_X5_signOf ⟨Nat.le_of_ble_eq_true rfl, Nat.le_of_ble_eq_true rfl⟩ hl.1 (Nat.le_of_ble_eq_true rfl) rfl dX5_signsIn_10 (fun _ _ _ _ _ _ hp => hp.elim) (fun v9 u9 H locs hp hW => ?_)
        obtain ⟨rfl, hu9⟩ := hp
        rw [hu9] at hW
        refine W.eq (g2 := F0 m 13 ls [.int (nI (zBy x k))]) rfl ?_
        refine lv_istore_n (lv' := [(3, .int (nI (zBy x k))), (0, .long x), (2, .int (nI k))]) hx hb dX5_signsIn_13 rfl hl (by decide) rfl (fun ls hl => ?_)
        refine lv_iload_n hx hb dX5_signsIn_14 rfl (lv_at hl 0 rfl) ?_
        refine ln_if_ne (tgt := 20) hx hb dX5_signsIn_15 (by decide) (by have := zBy_lt x k; omega) (fun h2 => ?_) (fun h2 => ?_)
        · skip
          refine lv_iload_n hx hb dX5_signsIn_20 rfl (lv_at hl 0 rfl) ?_
          refine lv_bipush (v := nI 127) hx hb dX5_signsIn_21 (by decide) ?_
          refine ln_icmp_le (tgt := 28) hx hb dX5_signsIn_23 (by decide) (by have := zBy_lt x k; omega) (by have := zBy_lt x k; omega) (fun h3 => ?_) (fun h3 => ?_)
          · skip
            refine ln_iinc (k := 2) (n := 1) (lv' := [(2, .int (nI (k + 1))), (3, .int (nI (zBy x k))), (0, .long x)]) hx hb dX5_signsIn_28 hl rfl (by decide) rfl (fun ls hl => ?_)
            refine lv_goto (tgt := 2) hx hb dX5_signsIn_31 (by decide) ?_
            exact ihlp (k + 1) _ _ _ (by omega) (by omega) (by rw [hc, zCn_s h1, if_neg h2, if_neg (by omega)]) (hW) (lv_sub hl [2, 0] rfl)
          · skip
            refine lv_iconst (v := -1) hx hb dX5_signsIn_26 (by decide) ?_
            exact ar_iret C hr hW dX5_signsIn_27 (⟨congrArg (fun z => some (Value.int (zCnI z))) (show none = zCn x 8 0 by rw [hc, zCn_s h1, if_neg h2, if_pos h3]), rfl⟩)
        · skip
          refine lv_iload_n hx hb dX5_signsIn_18 rfl (lv_at hl 2 rfl) ?_
          exact ar_iret C hr hW dX5_signsIn_19 (⟨congrArg (fun z => some (Value.int (zCnI z))) (show some k = zCn x 8 0 by rw [hc, zCn_s h1, if_pos h2]), rfl⟩)
  exact lp _ 0 _ _ _ (Nat.lt_succ_self _) (by omega) (rfl) (hW) (lv_sub hl [1, 0] rfl)
theorem hd_X5_append : yX5_append.cls ≠ "java/lang/invoke/MethodHandle" ∧ yX5_append.cls ≠ "java/lang/invoke/VarHandle" ∧ (parseMethodDescriptor yX5_append.desc).map (fun d => d.parameters.length) = some 1 := by decide +kernel
set_option maxHeartbeats 4000000 in
set_option maxRecDepth 100000 in
theorem c_X5_append {l : Launch} (hl9 : l.stackTraces = false) {D : va_G} {ct : Nat → ClassId} {ad : Nat → Nat} (sc sg sh : Nat → Int32) (el : Nat → Nat → UInt64) (nf : Nat → Nat → Int32) (lr : Nat → Nat → Option Nat) (x : Int64) (n : Nat) (hn : n ≤ 40) (hlen : sc 2 = nI n) : ar_M l yX5_append cX5_append 5 (some .int) 2 45 D ct (xL ad ct) [.ref (ad 2), .long x] (sc, sg, sh, el, nf, lr) (fun v9 u9 => (zWr x n = none ∧ v9 = some (.int (-1)) ∧ u9 = (sc, sg, sh, el, nf, lr)) ∨ (∃ cnt : Nat, zWr x n = some cnt ∧ v9 = some (.int (nI cnt)) ∧ u9 = (va_up sc 2 (nI (n + cnt)), zAp sg x n cnt, sh, el, nf, lr))) (fun _ _ => False) := by
  refine ar_ofW hl9 (by decide) (Nat.le_of_ble_eq_true rfl) ?_
  intro p e s m below meth c A ls C hr hnm hW hl
  have hx := C.1
  have hb := C.2.1
  have hown := C.2.2.2.1
  have hts := C.2.2.2.2.1
  have hl : lv_has ls 5 [(0, .ref (ad 2)), (1, .long x)] := hl
  refine lv_lload_n hx hb dX5_append_0 rfl (lv_at hl 1 rfl) ?_
  refine ar_callS (As := [.long x]) (rest := []) C hW (c_X5_signsIn hl9 _ x) q156 q157 q3 q158 hd_X5_signsIn ⟨Nat.le_of_ble_eq_true rfl, Nat.le_of_ble_eq_true rfl⟩ hl.1 (Nat.le_of_ble_eq_true rfl) rfl dX5_append_1 (fun _ _ _ _ _ _ hp => hp.elim) (fun v9 u9 H locs hp hW => ?_)
  obtain ⟨rfl, hu9⟩ := hp
  rw [hu9] at hW
  refine W.eq (g2 := F0 m 4 ls [.int (zCnI (zCn x 8 0))]) rfl ?_
  rcases ho : zCn x 8 0 with _ | cnt
  · skip
    refine W.eq (g2 := F0 m 4 ls [.int ((-1))]) rfl ?_
    refine lv_istore_n (lv' := [(3, .int ((-1))), (0, .ref (ad 2)), (1, .long x)]) hx hb dX5_append_4 rfl hl (by decide) rfl (fun ls hl => ?_)
    refine lv_iload_n hx hb dX5_append_5 rfl (lv_at hl 0 rfl) ?_
    refine lv_if_lt (tgt := 20) hx hb dX5_append_6 (by decide) (fun h1 => ?_) (fun h1 => ?_)
    · skip
      refine lv_iconst (v := -1) hx hb dX5_append_20 (by decide) ?_
      exact ar_iret C hr hW dX5_append_21 (Or.inl ⟨by unfold zWr; rw [ho], rfl, rfl⟩)
    · skip
      exact absurd (by decide) h1
  · skip
    refine W.eq (g2 := F0 m 4 ls [.int (nI cnt)]) rfl ?_
    obtain ⟨-, hcl, hby⟩ := zCn_ok 8 0 cnt ho
    refine lv_istore_n (lv' := [(3, .int (nI cnt)), (0, .ref (ad 2)), (1, .long x)]) hx hb dX5_append_4 rfl hl (by decide) rfl (fun ls hl => ?_)
    refine lv_iload_n hx hb dX5_append_5 rfl (lv_at hl 0 rfl) ?_
    refine ln_if_lt (tgt := 20) hx hb dX5_append_6 (by decide) (by omega) ?_
    refine lv_aload_n hx hb dX5_append_9 rfl (lv_at hl 1 rfl) ?_
    refine xg_length C hW q59 dX5_append_10 ?_
    refine ln_top (hlen) ?_
    refine lv_iload_n hx hb dX5_append_13 rfl (lv_at hl 0 rfl) ?_
    refine ln_iadd hx hb dX5_append_14 ?_
    refine lv_bipush (v := nI 40) hx hb dX5_append_15 (by decide) ?_
    refine ln_icmp_le (tgt := 22) hx hb dX5_append_17 (by decide) (by omega) (by omega) (fun h3 => ?_) (fun h3 => ?_)
    · skip
      refine lv_iconst (v := nI 0) hx hb dX5_append_22 (by decide) ?_
      refine lv_istore (lv' := [(4, .int (nI 0)), (3, .int (nI cnt)), (0, .ref (ad 2)), (1, .long x)]) hx hb dX5_append_23 hl (by decide) rfl (fun ls hl => ?_)
      have lp : ∀ (N9 : Nat) (k : Nat) (f : Nat → Int32) (H : Heap) (locs : List Loc) (ls : Array Slot), cnt - k < N9 → (k ≤ cnt) → (f = zAp sg x n k) → ar_W D A s.heap H locs (xL ad ct (sc, f, sh, el, nf, lr)) → lv_has ls 5 [(0, .ref (ad 2)), (1, .long x), (3, .int (nI cnt)), (4, .int (nI k))] → W p l e (ar_rm 2 45) s m [.ref (ad 2), .long x].toArray below meth c H locs 0 0 (ar_E below (ar_Q D ct (xL ad ct) A (fun v9 u9 => (zWr x n = none ∧ v9 = some (.int (-1)) ∧ u9 = (sc, sg, sh, el, nf, lr)) ∨ (∃ cnt : Nat, zWr x n = some cnt ∧ v9 = some (.int (nI cnt)) ∧ u9 = (va_up sc 2 (nI (n + cnt)), zAp sg x n cnt, sh, el, nf, lr))) (fun _ _ => False)) [.ref (ad 2), .long x].toArray s) (F0 m 25 ls []) := by
        intro N9
        induction N9 with
        | zero =>
          intro k f H locs ls hN9
          exact absurd hN9 (Nat.not_lt_zero _)
        | succ N9 ihlp =>
          intro k f H locs ls hN9 hk hf hW hl
          refine lv_iload hx hb dX5_append_25 (lv_at hl 3 rfl) ?_
          refine lv_iload_n hx hb dX5_append_27 rfl (lv_at hl 2 rfl) ?_
          refine ln_icmp_ge (tgt := 56) hx hb dX5_append_28 (by decide) (by omega) (by omega) (fun h4 => ?_) (fun h4 => ?_)
          · skip
            refine lv_aload_n hx hb dX5_append_56 rfl (lv_at hl 0 rfl) ?_
            refine lv_dup hx hb dX5_append_57 rfl ?_
            refine xg_length C hW q59 dX5_append_58 ?_
            refine ln_top (hlen) ?_
            refine lv_iload_n hx hb dX5_append_61 rfl (lv_at hl 2 rfl) ?_
            refine ln_iadd hx hb dX5_append_62 ?_
            refine xp_length C hW q59 dX5_append_63 (fun H locs hW => ?_)
            refine lv_iload_n hx hb dX5_append_66 rfl (lv_at hl 2 rfl) ?_
            exact ar_iret C hr hW dX5_append_67 (Or.inr ⟨cnt, by unfold zWr; rw [ho]; exact if_pos (by omega), rfl, by rw [hf, show k = cnt by omega]⟩)
          · skip
            refine lv_aload_n hx hb dX5_append_31 rfl (lv_at hl 0 rfl) ?_
            refine xg_signs C hW q58 dX5_append_32 ?_
            refine lv_aload_n hx hb dX5_append_35 rfl (lv_at hl 0 rfl) ?_
            refine xg_length C hW q59 dX5_append_36 ?_
            refine ln_top (hlen) ?_
            refine lv_iload hx hb dX5_append_39 (lv_at hl 3 rfl) ?_
            refine ln_iadd hx hb dX5_append_41 ?_
            refine lv_lload_n hx hb dX5_append_42 rfl (lv_at hl 1 rfl) ?_
            refine lv_iload hx hb dX5_append_43 (lv_at hl 3 rfl) ?_
            refine ar_callS (As := [.long x, .int (nI k)]) (rest := [.int (nI (n + k)), .ref (ad 3)]) C hW (c_X5_signOf hl9 _ x k (by omega)) q159 q160 q3 q161 hd_X5_signOf ⟨Nat.le_of_ble_eq_true rfl, Nat.le_of_ble_eq_true rfl⟩ hl.1 (Nat.le_of_ble_eq_true rfl) rfl dX5_append_45 (fun _ _ _ _ _ _ hp => hp.elim) (fun v9 u9 H locs hp hW => ?_)
            obtain ⟨rfl, hu9⟩ := hp
            rw [hu9] at hW
            refine W.eq (g2 := F0 m 48 ls [.int (nI (zBy x k)), .int (nI (n + k)), .ref (ad 3)]) rfl ?_
            refine lv_i2c (v := nI (zBy x k)) hx hb dX5_append_48 (i2c_nI (by have := zBy_lt x k; omega)) ?_
            refine xs_signs (j := n + k) (nar_nI (by have := zBy_lt x k; omega)) C hW (by omega) dX5_append_49 (fun H locs hW => ?_)
            refine ln_iinc (k := 3) (n := 1) (lv' := [(4, .int (nI (k + 1))), (0, .ref (ad 2)), (1, .long x), (3, .int (nI cnt))]) hx hb dX5_append_50 hl rfl (by decide) rfl (fun ls hl => ?_)
            refine lv_goto (tgt := 25) hx hb dX5_append_53 (by decide) ?_
            exact ihlp (k + 1) (va_up f (n + k) (nI (zBy x k))) _ _ _ (by omega) (by omega) (zAp_s hf) (hW) (lv_sub hl [1, 2, 3, 0] rfl)
      exact lp _ 0 sg _ _ _ (Nat.lt_succ_self _) (by omega) (zAp_0) (hW) (lv_sub hl [2, 3, 1, 0] rfl)
    · skip
      refine lv_iconst (v := -1) hx hb dX5_append_20 (by decide) ?_
      exact ar_iret C hr hW dX5_append_21 (Or.inl ⟨by unfold zWr; rw [ho]; exact if_neg (by omega), rfl, rfl⟩)
