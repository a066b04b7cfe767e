/-! numbers in range -/
theorem zLo_int : FP.Core.DInt (-1000000000000) 14009883241494872064 := by
  unfold FP.Core.DInt
  have h : FP.Core.val64 14009883241494872064 = .fin true 8192000000000000 (-13) := by decide +kernel
  rw [h]
  show FP.Core.signed true (8192000000000000 * 2 ^ (-13 : Int).toNat) = (-1000000000000) * ((2 ^ (-(-13 : Int)).toNat : Nat) : Int)
  decide +kernel
theorem zHi_int : FP.Core.DInt 1000000000000 4786511204640096256 := by
  unfold FP.Core.DInt
  have h : FP.Core.val64 4786511204640096256 = .fin false 8192000000000000 (-13) := by decide +kernel
  rw [h]
  show FP.Core.signed false (8192000000000000 * 2 ^ (-13 : Int).toNat) = 1000000000000 * ((2 ^ (-(-13 : Int)).toNat : Nat) : Int)
  decide +kernel
theorem zRg_iff {x : UInt64} : zRg x = true ↔ (FP.dcmp x 14009883241494872064 = some .gt ∨ FP.dcmp x 14009883241494872064 = some .eq) ∧ (FP.dcmp x 4786511204640096256 = some .lt ∨ FP.dcmp x 4786511204640096256 = some .eq) := by
  unfold zRg
  rw [decide_eq_true_iff]
  rcases h1 : FP.dcmp x 14009883241494872064 with _ | _ | _ | _ <;> rcases h2 : FP.dcmp x 4786511204640096256 with _ | _ | _ | _ <;> simp <;> decide
theorem zRg_fin {x : UInt64} (h : zRg x = true) : FP.Core.DFin x := by
  obtain ⟨h1, h2⟩ := zRg_iff.mp h
  have e1 : FP.Core.val64 14009883241494872064 = .fin true 8192000000000000 (-13) := by decide +kernel
  have e2 : FP.Core.val64 4786511204640096256 = .fin false 8192000000000000 (-13) := by decide +kernel
  have g1 : FP.dcmp x 14009883241494872064 = FP.Core.order (FP.Core.val64 x) (FP.Core.val64 14009883241494872064) := rfl
  have g2 : FP.dcmp x 4786511204640096256 = FP.Core.order (FP.Core.val64 x) (FP.Core.val64 4786511204640096256) := rfl
  rw [g1, e1] at h1
  rw [g2, e2] at h2
  cases hx : FP.Core.val64 x with
  | nan => rw [hx] at h1; rcases h1 with h1 | h1 <;> cases h1
  | inf s =>
    rw [hx] at h1 h2
    cases s
    · rcases h2 with h2 | h2 <;> exact absurd h2 (by decide)
    · rcases h1 with h1 | h1 <;> exact absurd h1 (by decide)
  | fin s c q => exact ⟨s, c, q, hx⟩
theorem zRg_i2d (v : Int32) : zRg (FP.i2d v) = true := by
  have h1 : FP.dcmp (FP.i2d v) 14009883241494872064 = some (compare v.toInt (-1000000000000)) := FP.Core.dcmp_int (FP.Core.i2d_int v) zLo_int
  have h2 : FP.dcmp (FP.i2d v) 4786511204640096256 = some (compare v.toInt 1000000000000) := FP.Core.dcmp_int (FP.Core.i2d_int v) zHi_int
  have h3 := v.toInt_lt
  have h4 := v.le_toInt
  refine zRg_iff.mpr ⟨Or.inl ?_, Or.inl ?_⟩
  · rw [h1, (Int.compare_eq_gt).mpr (by omega)]
  · rw [h2, (Int.compare_eq_lt).mpr (by omega)]
theorem order_neg (x y : FP.Core.Datum) : FP.Core.order (FP.Core.negate x) (FP.Core.negate y) = FP.Core.order y x := by
  have sg : ∀ (s : Bool) (k : Nat), FP.Core.signed (!s) k = - FP.Core.signed s k := by
    intro s k
    cases s <;> simp [FP.Core.signed]
  have cn : ∀ a b : Int, compare (-a) (-b) = compare b a := by
    intro a b
    simp only [compare, compareOfLessAndEq]
    have e1 : (-a < -b) = (b < a) := propext ⟨fun h => by omega, fun h => by omega⟩
    have e2 : (-a = -b) = (b = a) := propext ⟨fun h => by omega, fun h => by omega⟩
    simp only [e1, e2]
  have c0 : ∀ a : Int, compare (-a) 0 = compare 0 a := fun a => by have := cn a 0; rw [Int.neg_zero] at this; exact this
  have c1 : ∀ a : Int, compare 0 (-a) = compare a 0 := fun a => by have := cn 0 a; rw [Int.neg_zero] at this; exact this
  cases x <;> cases y <;> simp only [FP.Core.negate, FP.Core.order, sg, cn, c0, c1]
  rename_i s c q t d r
  rw [Int.min_comm q r]
theorem zRg_neg {x : UInt64} (h : zRg x = true) : zRg (FP.dneg x) = true := by
  obtain ⟨h1, h2⟩ := zRg_iff.mp h
  have k1 : FP.dcmp (FP.dneg x) (FP.dneg 14009883241494872064) = FP.dcmp 14009883241494872064 x := by
    show FP.Core.order (FP.Core.val64 (FP.dneg x)) (FP.Core.val64 (FP.dneg 14009883241494872064)) = FP.Core.order (FP.Core.val64 14009883241494872064) (FP.Core.val64 x)
    rw [FP.val64_dneg, FP.val64_dneg, order_neg]
  have k2 : FP.dcmp (FP.dneg x) (FP.dneg 4786511204640096256) = FP.dcmp 4786511204640096256 x := by
    show FP.Core.order (FP.Core.val64 (FP.dneg x)) (FP.Core.val64 (FP.dneg 4786511204640096256)) = FP.Core.order (FP.Core.val64 4786511204640096256) (FP.Core.val64 x)
    rw [FP.val64_dneg, FP.val64_dneg, order_neg]
  rw [show FP.dneg 14009883241494872064 = 4786511204640096256 by decide, show FP.dcmp 14009883241494872064 x = (FP.dcmp x 14009883241494872064).map Ordering.swap from FP.Core.dcmp_swap _ _] at k1
  rw [show FP.dneg 4786511204640096256 = 14009883241494872064 by decide, show FP.dcmp 4786511204640096256 x = (FP.dcmp x 4786511204640096256).map Ordering.swap from FP.Core.dcmp_swap _ _] at k2
  refine zRg_iff.mpr ⟨?_, ?_⟩
  · rcases h2 with h2 | h2
    · exact Or.inl (by rw [k2, h2]; rfl)
    · exact Or.inr (by rw [k2, h2]; rfl)
  · rcases h1 with h1 | h1
    · exact Or.inl (by rw [k1, h1]; rfl)
    · exact Or.inr (by rw [k1, h1]; rfl)
theorem zNan_bits {x : UInt64} (h : FP.Core.dIsNaN x = false) : vf_n64 x := by
  unfold vf_n64
  have h1 := (FP.Core.ne_nan x).mp ((FP.Core.notNaN_iff x).mp h)
  rw [UInt64.le_iff_toNat_le, UInt64.toNat_and, show (0x7fffffffffffffff : UInt64).toNat = 2 ^ 63 - 1 from rfl, Nat.and_two_pow_sub_one_eq_mod]
  exact h1
theorem zRg_nn {x y : UInt64} (c : Nat) (hx : zRg x = true) (hy : zRg y = true) : zNn c x y :=
  ⟨fun _ => zNan_bits (FP.Core.dadd_out (zRg_fin hx).notNaN (zRg_fin hy)), fun _ => zNan_bits (FP.Core.dsub_out (zRg_fin hx).notNaN (zRg_fin hy)), fun _ => zNan_bits (FP.Core.dmul_out (zRg_fin hx) (zRg_fin hy))⟩
