theorem xl_len {ad : Nat → Nat} {ct : Nat → ClassId} {u : XS} : (xL ad ct u).length = 145 := by simp [xL]
abbrev oC (ct : Nat → ClassId) (ob : Nat) (f : Nat → Int64) : Nat × va_E := (ob, .inl (ct 3, 1, .inr (.inl f)))
abbrev xoL (ad : Nat → Nat) (ct : Nat → ClassId) (ob : Nat) (u : XS × (Nat → Int64)) : va_W := xL ad ct u.1 ++ [oC ct ob u.2]
theorem xo_get {ad : Nat → Nat} {ct : Nat → ClassId} {ob : Nat} {u : XS} {f : Nat → Int64} : (xL ad ct u ++ [oC ct ob f])[145]? = some (oC ct ob f) := by rw [List.getElem?_append_right (by rw [xl_len]; exact Nat.le_refl _), xl_len]; rfl
theorem xo_set {ad : Nat → Nat} {ct : Nat → ClassId} {ob : Nat} {u : XS} {f f9 : Nat → Int64} : (xL ad ct u ++ [oC ct ob f]).set 145 (oC ct ob f9) = xL ad ct u ++ [oC ct ob f9] := by rw [List.set_append_right _ _ (by rw [xl_len]; exact Nat.le_refl _), xl_len]; rfl
theorem xo_0 {ad : Nat → Nat} {ct : Nat → ClassId} {u : XS} {w : va_W} : (xL ad ct u ++ w)[0]? = some (ad 0, xC ad ct u 0) := by rw [List.getElem?_append_left (by rw [xl_len]; decide)]; exact xl_get (by decide)
/-- who does not come to whom -/
def ac_X (U : State) : Prop := ∀ x ∈ [(IAE, IOB), (ISE, IOB), (ISE, IAE), (UOE, IOB), (UOE, IAE), (UOE, ISE), (ARE, IOB), (ARE, IAE), (ARE, ISE), (ARE, UOE)], ac_No x.1 x.2 U
theorem hd_L_run : yL_run.cls ≠ "java/lang/invoke/MethodHandle" ∧ yL_run.cls ≠ "java/lang/invoke/VarHandle" ∧ (parseMethodDescriptor yL_run.desc).map (fun d => d.parameters.length) = some 3 := by decide +kernel
def zHr (E : String) : Nat := if E = IOB then 1 else if E = IAE then 2 else if E = ISE then 3 else if E = UOE then 4 else if E = ARE then 5 else 0
set_option maxHeartbeats 4000000 in
set_option maxRecDepth 100000 in
theorem c_L_run {l : Launch} {D : va_G} {ct : Nat → ClassId} {ad : Nat → Nat} {ob : Nat} (x0 : XS) (f0 : Nat → Int64) (v : Int32) {Post8 : Option Value → XS → Prop} {PX8 : String → XS → Prop} (hM : ar_M l yX8_run cX8_run 3 (some .int) 104 5146 D ct (xL ad ct) [.ref (ad 0), .int v] x0 Post8 PX8)
    (hP8 : ∀ v u, Post8 v u → ∃ r : Int32, v = some (.int r)) (hX8 : ∀ E u, PX8 E u → E ∈ [IOB, IAE, ISE, UOE, ARE]) :
    ag_M l yL_run (.codeWith yL_run cL_run 4 (some .int) hhR :: lw_all) { frames := 105, cells := 1, slots := 6, locals := 5180 } 1 6 ac_X D ct (xoL ad ct ob) [.ref (ad 0), .int v, .ref ob] (x0, f0) (fun v9 u9 => (∃ r : Int32, Post8 (some (.int r)) u9.1 ∧ u9.2 = vp_updL f0 0 r.toInt64 ∧ v9 = some (.int (nI 0))) ∨ (∃ E : String, E ∈ [IOB, IAE, ISE, UOE, ARE] ∧ PX8 E u9.1 ∧ u9.2 = f0 ∧ v9 = some (.int (nI (zHr E))))) (fun _ _ => False) := by
  refine ag_ofWH (by decide) (Nat.le_of_ble_eq_true rfl) ?_
  intro p e s m below meth c A ls C htab hNo hr hW hl
  have hx := C.1
  have hb := C.2.1
  have hown := C.2.2.2.1
  have hts := C.2.2.2.2.1
  have hV := C.2.2.2.2.2.2.1
  have hl : lv_has ls 4 [(0, .ref (ad 0)), (1, .int v), (2, .ref ob)] := hl
  refine lv_aload_n hx hb dL_run_0 rfl (lv_at hl 2 rfl) ?_
  refine lv_iconst (v := nI 0) hx hb dL_run_1 (by decide) ?_
  refine lv_aload_n hx hb dL_run_2 rfl (lv_at hl 0 rfl) ?_
  refine lv_iload_n hx hb dL_run_3 rfl (lv_at hl 1 rfl) ?_
  refine ag_call (rest := [.int (nI 0), .ref ob]) (maxL := 3) (u0 := x0) (wl := fun u => xL ad ct u ++ [oC ct ob f0]) C hW (ag_frameR [oC ct ob f0] (ag_of hM)) (ag_stV (As := [.int v]) (q0 := 0) (ci := 6) (T9 := TX8) (N9 := 5) C hW xo_0 rfl q340 q341 q342 q343 hd_X8_run rfl dL_run_4) (fun _ _ => trivial) ⟨Nat.le_of_ble_eq_true rfl, Nat.le_of_ble_eq_true rfl, Nat.le_refl _, Nat.le_refl _⟩ (fun w hw => (List.mem_cons.mp hw).elim (fun e => by rw [e]; exact q343) id) (ag_cd hts q343) q1 hl.1 (Nat.le_of_ble_eq_true rfl) dL_run_4 ?_ ?_
  · intro E ce q u H locs hp hW h1 h2 h3
    have hE := hX8 E u hp
    have hP9 : ∀ x ∈ [IOB, IAE, ISE, UOE, ARE], E = x → x ∈ [IOB, IAE, ISE, UOE, ARE] := fun x hx _ => hx
    have hcases : E = IOB ∨ E = IAE ∨ E = ISE ∨ E = UOE ∨ E = ARE := by simpa using hE
    clear hP9
    rcases hcases with rfl | rfl | rfl | rfl | rfl
    · refine ac_catch (own := yL_run.cls) (name := IOB) (E := IOB) hown [] ⟨0, 9, 12, 13⟩ [⟨0, 9, 15, 15⟩, ⟨0, 9, 18, 17⟩, ⟨0, 9, 21, 19⟩, ⟨0, 9, 24, 21⟩] (by rw [htab]; rfl) (fun _ h => absurd h List.not_mem_nil) rfl (by decide) (hts _ q244) (va_Nw.use rfl (hV.2.1 (IOB, IOB) (by decide))) h1 h2 h3 ?_
      refine lv_astore_n (lv' := [(3, .ref q), (0, .ref (ad 0)), (1, .int v), (2, .ref ob)]) hx hb dL_run_12 rfl hl (by decide) rfl (fun ls hl => ?_)
      refine lv_iconst (v := nI 1) hx hb dL_run_13 (by decide) ?_
      exact ag_iret (u := (u, f0)) C hr hW dL_run_14 (Or.inr ⟨IOB, hE, hp, rfl, by congr 3⟩) (Nat.le_refl _) (Nat.le_refl _)
    · refine ac_catch (own := yL_run.cls) (name := IAE) (E := IAE) hown [⟨0, 9, 12, 13⟩] ⟨0, 9, 15, 15⟩ [⟨0, 9, 18, 17⟩, ⟨0, 9, 21, 19⟩, ⟨0, 9, 24, 21⟩] (by rw [htab]; rfl) (List.forall_mem_cons.mpr ⟨⟨rfl, by decide, IOB, hts _ q244, hNo (IAE, IOB) (by decide)⟩, fun _ h => absurd h List.not_mem_nil⟩) rfl (by decide) (hts _ q323) (va_Nw.use rfl (hV.2.1 (IAE, IAE) (by decide))) h1 h2 h3 ?_
      refine lv_astore_n (lv' := [(3, .ref q), (0, .ref (ad 0)), (1, .int v), (2, .ref ob)]) hx hb dL_run_15 rfl hl (by decide) rfl (fun ls hl => ?_)
      refine lv_iconst (v := nI 2) hx hb dL_run_16 (by decide) ?_
      exact ag_iret (u := (u, f0)) C hr hW dL_run_17 (Or.inr ⟨IAE, hE, hp, rfl, by congr 3⟩) (Nat.le_refl _) (Nat.le_refl _)
    · refine ac_catch (own := yL_run.cls) (name := ISE) (E := ISE) hown [⟨0, 9, 12, 13⟩, ⟨0, 9, 15, 15⟩] ⟨0, 9, 18, 17⟩ [⟨0, 9, 21, 19⟩, ⟨0, 9, 24, 21⟩] (by rw [htab]; rfl) (List.forall_mem_cons.mpr ⟨⟨rfl, by decide, IOB, hts _ q244, hNo (ISE, IOB) (by decide)⟩, List.forall_mem_cons.mpr ⟨⟨rfl, by decide, IAE, hts _ q323, hNo (ISE, IAE) (by decide)⟩, fun _ h => absurd h List.not_mem_nil⟩⟩) rfl (by decide) (hts _ q324) (va_Nw.use rfl (hV.2.1 (ISE, ISE) (by decide))) h1 h2 h3 ?_
      refine lv_astore_n (lv' := [(3, .ref q), (0, .ref (ad 0)), (1, .int v), (2, .ref ob)]) hx hb dL_run_18 rfl hl (by decide) rfl (fun ls hl => ?_)
      refine lv_iconst (v := nI 3) hx hb dL_run_19 (by decide) ?_
      exact ag_iret (u := (u, f0)) C hr hW dL_run_20 (Or.inr ⟨ISE, hE, hp, rfl, by congr 3⟩) (Nat.le_refl _) (Nat.le_refl _)
    · refine ac_catch (own := yL_run.cls) (name := UOE) (E := UOE) hown [⟨0, 9, 12, 13⟩, ⟨0, 9, 15, 15⟩, ⟨0, 9, 18, 17⟩] ⟨0, 9, 21, 19⟩ [⟨0, 9, 24, 21⟩] (by rw [htab]; rfl) (List.forall_mem_cons.mpr ⟨⟨rfl, by decide, IOB, hts _ q244, hNo (UOE, IOB) (by decide)⟩, List.forall_mem_cons.mpr ⟨⟨rfl, by decide, IAE, hts _ q323, hNo (UOE, IAE) (by decide)⟩, List.forall_mem_cons.mpr ⟨⟨rfl, by decide, ISE, hts _ q324, hNo (UOE, ISE) (by decide)⟩, fun _ h => absurd h List.not_mem_nil⟩⟩⟩) rfl (by decide) (hts _ q325) (va_Nw.use rfl (hV.2.1 (UOE, UOE) (by decide))) h1 h2 h3 ?_
      refine lv_astore_n (lv' := [(3, .ref q), (0, .ref (ad 0)), (1, .int v), (2, .ref ob)]) hx hb dL_run_21 rfl hl (by decide) rfl (fun ls hl => ?_)
      refine lv_iconst (v := nI 4) hx hb dL_run_22 (by decide) ?_
      exact ag_iret (u := (u, f0)) C hr hW dL_run_23 (Or.inr ⟨UOE, hE, hp, rfl, by congr 3⟩) (Nat.le_refl _) (Nat.le_refl _)
    · refine ac_catch (own := yL_run.cls) (name := ARE) (E := ARE) hown [⟨0, 9, 12, 13⟩, ⟨0, 9, 15, 15⟩, ⟨0, 9, 18, 17⟩, ⟨0, 9, 21, 19⟩] ⟨0, 9, 24, 21⟩ [] (by rw [htab]; rfl) (List.forall_mem_cons.mpr ⟨⟨rfl, by decide, IOB, hts _ q244, hNo (ARE, IOB) (by decide)⟩, List.forall_mem_cons.mpr ⟨⟨rfl, by decide, IAE, hts _ q323, hNo (ARE, IAE) (by decide)⟩, List.forall_mem_cons.mpr ⟨⟨rfl, by decide, ISE, hts _ q324, hNo (ARE, ISE) (by decide)⟩, List.forall_mem_cons.mpr ⟨⟨rfl, by decide, UOE, hts _ q325, hNo (ARE, UOE) (by decide)⟩, fun _ h => absurd h List.not_mem_nil⟩⟩⟩⟩) rfl (by decide) (hts _ q326) (va_Nw.use rfl (hV.2.1 (ARE, ARE) (by decide))) h1 h2 h3 ?_
      refine lv_astore_n (lv' := [(3, .ref q), (0, .ref (ad 0)), (1, .int v), (2, .ref ob)]) hx hb dL_run_24 rfl hl (by decide) rfl (fun ls hl => ?_)
      refine lv_iconst (v := nI 5) hx hb dL_run_25 (by decide) ?_
      exact ag_iret (u := (u, f0)) C hr hW dL_run_26 (Or.inr ⟨ARE, hE, hp, rfl, by congr 3⟩) (Nat.le_refl _) (Nat.le_refl _)
  · intro v9 u H locs hp hW
    obtain ⟨r, rfl⟩ := hP8 v9 u hp
    refine W.eq (g2 := F0 m 7 ls [.int r, .int (nI 0), .ref ob]) rfl ?_
    refine lv_i2l (v := r.toInt64) hx hb dL_run_7 rfl ?_
    refine va_last hx hb C.2.2.2.2.2.1 hW.1 hW.2.1 hW.2.2 145 3 xo_get rfl (ar_cl (j := 0) (N := 1) (by decide) (by decide)).1 dL_run_8 (fun H locs h1 h2 h3 => ?_)
    have hW : ar_W D A s.heap H locs (xL ad ct u ++ [oC ct ob (vp_updL f0 0 r.toInt64)]) := ⟨by rw [← xo_set (f := f0)]; exact h1, by rw [← xo_set (f := f0)]; exact h2, h3⟩
    refine lv_goto (tgt := 27) hx hb dL_run_9 (by decide) ?_
    refine lv_iconst (v := nI 0) hx hb dL_run_27 (by decide) ?_
    exact ag_iret (u := (u, vp_updL f0 0 r.toInt64)) C hr hW dL_run_28 (Or.inl ⟨r, hp, rfl, rfl⟩) (Nat.zero_le _) (Nat.zero_le _)
theorem hd_L_look : yL_look.cls ≠ "java/lang/invoke/MethodHandle" ∧ yL_look.cls ≠ "java/lang/invoke/VarHandle" ∧ (parseMethodDescriptor yL_look.desc).map (fun d => d.parameters.length) = some 2 := by decide +kernel
def zHl (E : String) : Nat := if E = IAE then 1 else if E = ISE then 2 else if E = UOE then 3 else 0
set_option maxHeartbeats 4000000 in
set_option maxRecDepth 100000 in
theorem c_L_look {l : Launch} {D : va_G} {ct : Nat → ClassId} {ad : Nat → Nat} {ob : Nat} (x0 : XS) (f0 : Nat → Int64) {Post8 : Option Value → XS → Prop} {PX8 : String → XS → Prop} (hM : ar_M l yX8_look cX8_look 2 (some .int) 104 5146 D ct (xL ad ct) [.ref (ad 0)] x0 Post8 PX8)
    (hP8 : ∀ v u, Post8 v u → ∃ r : Int32, v = some (.int r)) (hX8 : ∀ E u, PX8 E u → E ∈ [IAE, ISE, UOE]) :
    ag_M l yL_look (.codeWith yL_look cL_look 3 (some .int) hhL :: lw_all) { frames := 105, cells := 1, slots := 6, locals := 5180 } 1 6 ac_X D ct (xoL ad ct ob) [.ref (ad 0), .ref ob] (x0, f0) (fun v9 u9 => (∃ r : Int32, Post8 (some (.int r)) u9.1 ∧ u9.2 = vp_updL f0 0 r.toInt64 ∧ v9 = some (.int (nI 0))) ∨ (∃ E : String, E ∈ [IAE, ISE, UOE] ∧ PX8 E u9.1 ∧ u9.2 = f0 ∧ v9 = some (.int (nI (zHl E))))) (fun _ _ => False) := by
  refine ag_ofWH (by decide) (Nat.le_of_ble_eq_true rfl) ?_
  intro p e s m below meth c A ls C htab hNo hr hW hl
  have hx := C.1
  have hb := C.2.1
  have hown := C.2.2.2.1
  have hts := C.2.2.2.2.1
  have hV := C.2.2.2.2.2.2.1
  have hl : lv_has ls 3 [(0, .ref (ad 0)), (1, .ref ob)] := hl
  refine lv_aload_n hx hb dL_look_0 rfl (lv_at hl 1 rfl) ?_
  refine lv_iconst (v := nI 0) hx hb dL_look_1 (by decide) ?_
  refine lv_aload_n hx hb dL_look_2 rfl (lv_at hl 0 rfl) ?_
  refine ag_call (rest := [.int (nI 0), .ref ob]) (maxL := 2) (u0 := x0) (wl := fun u => xL ad ct u ++ [oC ct ob f0]) C hW (ag_frameR [oC ct ob f0] (ag_of hM)) (ag_stV (As := []) (q0 := 0) (ci := 6) (T9 := TX8) (N9 := 5) C hW xo_0 rfl q577 q578 q579 q580 hd_X8_look rfl dL_look_3) (fun _ _ => trivial) ⟨Nat.le_of_ble_eq_true rfl, Nat.le_of_ble_eq_true rfl, Nat.le_refl _, Nat.le_refl _⟩ (fun w hw => (List.mem_cons.mp hw).elim (fun e => by rw [e]; exact q580) id) (ag_cd hts q580) q1 hl.1 (Nat.le_of_ble_eq_true rfl) dL_look_3 ?_ ?_
  · intro E ce q u H locs hp hW h1 h2 h3
    have hE := hX8 E u hp
    have hP9 : ∀ x ∈ [IAE, ISE, UOE], E = x → x ∈ [IAE, ISE, UOE] := fun x hx _ => hx
    have hcases : E = IAE ∨ E = ISE ∨ E = UOE := by simpa using hE
    clear hP9
    rcases hcases with rfl | rfl | rfl
    · refine ac_catch (own := yL_look.cls) (name := IAE) (E := IAE) hown [] ⟨0, 8, 11, 15⟩ [⟨0, 8, 14, 17⟩, ⟨0, 8, 17, 19⟩] (by rw [htab]; rfl) (fun _ h => absurd h List.not_mem_nil) rfl (by decide) (hts _ q323) (va_Nw.use rfl (hV.2.1 (IAE, IAE) (by decide))) h1 h2 h3 ?_
      refine lv_astore_n (lv' := [(2, .ref q), (0, .ref (ad 0)), (1, .ref ob)]) hx hb dL_look_11 rfl hl (by decide) rfl (fun ls hl => ?_)
      refine lv_iconst (v := nI 1) hx hb dL_look_12 (by decide) ?_
      exact ag_iret (u := (u, f0)) C hr hW dL_look_13 (Or.inr ⟨IAE, hE, hp, rfl, by congr 3⟩) (Nat.le_refl _) (Nat.le_refl _)
    · refine ac_catch (own := yL_look.cls) (name := ISE) (E := ISE) hown [⟨0, 8, 11, 15⟩] ⟨0, 8, 14, 17⟩ [⟨0, 8, 17, 19⟩] (by rw [htab]; rfl) (List.forall_mem_cons.mpr ⟨⟨rfl, by decide, IAE, hts _ q323, hNo (ISE, IAE) (by decide)⟩, fun _ h => absurd h List.not_mem_nil⟩) rfl (by decide) (hts _ q324) (va_Nw.use rfl (hV.2.1 (ISE, ISE) (by decide))) h1 h2 h3 ?_
      refine lv_astore_n (lv' := [(2, .ref q), (0, .ref (ad 0)), (1, .ref ob)]) hx hb dL_look_14 rfl hl (by decide) rfl (fun ls hl => ?_)
      refine lv_iconst (v := nI 2) hx hb dL_look_15 (by decide) ?_
      exact ag_iret (u := (u, f0)) C hr hW dL_look_16 (Or.inr ⟨ISE, hE, hp, rfl, by congr 3⟩) (Nat.le_refl _) (Nat.le_refl _)
    · refine ac_catch (own := yL_look.cls) (name := UOE) (E := UOE) hown [⟨0, 8, 11, 15⟩, ⟨0, 8, 14, 17⟩] ⟨0, 8, 17, 19⟩ [] (by rw [htab]; rfl) (List.forall_mem_cons.mpr ⟨⟨rfl, by decide, IAE, hts _ q323, hNo (UOE, IAE) (by decide)⟩, List.forall_mem_cons.mpr ⟨⟨rfl, by decide, ISE, hts _ q324, hNo (UOE, ISE) (by decide)⟩, fun _ h => absurd h List.not_mem_nil⟩⟩) rfl (by decide) (hts _ q325) (va_Nw.use rfl (hV.2.1 (UOE, UOE) (by decide))) h1 h2 h3 ?_
      refine lv_astore_n (lv' := [(2, .ref q), (0, .ref (ad 0)), (1, .ref ob)]) hx hb dL_look_17 rfl hl (by decide) rfl (fun ls hl => ?_)
      refine lv_iconst (v := nI 3) hx hb dL_look_18 (by decide) ?_
      exact ag_iret (u := (u, f0)) C hr hW dL_look_19 (Or.inr ⟨UOE, hE, hp, rfl, by congr 3⟩) (Nat.le_refl _) (Nat.le_refl _)
  · intro v9 u H locs hp hW
    obtain ⟨r, rfl⟩ := hP8 v9 u hp
    refine W.eq (g2 := F0 m 6 ls [.int r, .int (nI 0), .ref ob]) rfl ?_
    refine lv_i2l (v := r.toInt64) hx hb dL_look_6 rfl ?_
    refine va_last hx hb C.2.2.2.2.2.1 hW.1 hW.2.1 hW.2.2 145 3 xo_get rfl (ar_cl (j := 0) (N := 1) (by decide) (by decide)).1 dL_look_7 (fun H locs h1 h2 h3 => ?_)
    have hW : ar_W D A s.heap H locs (xL ad ct u ++ [oC ct ob (vp_updL f0 0 r.toInt64)]) := ⟨by rw [← xo_set (f := f0)]; exact h1, by rw [← xo_set (f := f0)]; exact h2, h3⟩
    refine lv_goto (tgt := 20) hx hb dL_look_8 (by decide) ?_
    refine lv_iconst (v := nI 0) hx hb dL_look_20 (by decide) ?_
    exact ag_iret (u := (u, vp_updL f0 0 r.toInt64)) C hr hW dL_look_21 (Or.inl ⟨r, hp, rfl, rfl⟩) (Nat.zero_le _) (Nat.zero_le _)
