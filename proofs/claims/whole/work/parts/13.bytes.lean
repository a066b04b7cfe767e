/-- character k of a long -/
def zBy (x : Int64) (k : Nat) : Nat := x.toBitVec.toNat / 2 ^ (8 * k) % 256
theorem zBy_lt (x : Int64) (k : Nat) : zBy x k < 256 := Nat.mod_lt _ (by decide)
theorem zBy_t (y : Int64) : y.toInt32.toBitVec.toNat = y.toBitVec.toNat % 2 ^ 32 := by
  show (y.toBitVec.signExtend 32).toNat = _
  rw [BitVec.signExtend_eq_setWidth_of_le _ (by decide), BitVec.toNat_setWidth]
theorem zBy_l (x : Int64) (k : Nat) (hk : k < 8) : (x.toUInt64 >>> ((nI (8 * k)).toInt64.toUInt64 &&& Int64.toUInt64 63)).toInt64.toInt32 &&& nI 255 = nI (zBy x k) := by
  rw [pk_and _ 8 (by decide)]
  have e : ((nI (8 * k)).toInt64.toUInt64 &&& Int64.toUInt64 63).toNat = 8 * k := by
    rcases (show k = 0 ∨ k = 1 ∨ k = 2 ∨ k = 3 ∨ k = 4 ∨ k = 5 ∨ k = 6 ∨ k = 7 by omega) with rfl | rfl | rfl | rfl | rfl | rfl | rfl | rfl <;> decide
  have h1 : (x.toUInt64 >>> ((nI (8 * k)).toInt64.toUInt64 &&& Int64.toUInt64 63)).toNat = x.toBitVec.toNat / 2 ^ (8 * k) := by
    rw [UInt64.toNat_shiftRight, e, Nat.mod_eq_of_lt (by omega), Nat.shiftRight_eq_div_pow]
    rfl
  have h2 : (x.toUInt64 >>> ((nI (8 * k)).toInt64.toUInt64 &&& Int64.toUInt64 63)).toInt64.toInt32.toBitVec.toNat = x.toBitVec.toNat / 2 ^ (8 * k) % 2 ^ 32 := by
    rw [← h1, zBy_t]
    rfl
  rw [h2, zBy]
  congr 1
  omega
theorem zBy_s (x : BitVec 64) (n : Nat) (hn : n + 8 ≤ 64) : (x.sshiftRight n).toNat % 256 = x.toNat / 2 ^ n % 256 := by
  have h : (x.sshiftRight n).setWidth 8 = (x >>> n).setWidth 8 := by
    apply BitVec.eq_of_getLsbD_eq
    intro i hi
    rw [BitVec.getLsbD_setWidth, BitVec.getLsbD_setWidth, BitVec.getLsbD_sshiftRight, BitVec.getLsbD_ushiftRight]
    have h1 : n + i < 64 := by omega
    have h2 : ¬ 64 ≤ i := by omega
    simp [h1, h2, hi]
  have h3 := congrArg BitVec.toNat h
  rw [BitVec.toNat_setWidth, BitVec.toNat_setWidth, BitVec.toNat_ushiftRight, Nat.shiftRight_eq_div_pow] at h3
  exact h3
theorem zBy_e (x : Int64) (k : Nat) (hk : k < 8) : (x >>> ((nI (8 * k)).toInt64 &&& 63)).toInt32.toBitVec.toNat % 256 = zBy x k := by
  have e : (((nI (8 * k)).toInt64 &&& 63).toBitVec.smod 64).toNat = 8 * k := by
    rcases (show k = 0 ∨ k = 1 ∨ k = 2 ∨ k = 3 ∨ k = 4 ∨ k = 5 ∨ k = 6 ∨ k = 7 by omega) with rfl | rfl | rfl | rfl | rfl | rfl | rfl | rfl <;> decide
  have h1 : (x >>> ((nI (8 * k)).toInt64 &&& 63)).toBitVec = x.toBitVec.sshiftRight (8 * k) := by
    show x.toBitVec.sshiftRight' _ = _
    rw [BitVec.sshiftRight', e]
  have h2 : (x >>> ((nI (8 * k)).toInt64 &&& 63)).toInt32.toBitVec.toNat = (x.toBitVec.sshiftRight (8 * k)).toNat % 2 ^ 32 := by
    rw [← h1, zBy_t]
  rw [h2, zBy, ← zBy_s _ _ (by omega)]
  omega
theorem zBy_a (x : Int64) (k : Nat) (hk : k < 8) : (x >>> ((nI (8 * k)).toInt64 &&& 63)).toInt32 &&& nI 255 = nI (zBy x k) := by
  rw [pk_and _ 8 (by decide), zBy_e x k hk]
theorem zBy_b (x : Int64) (k : Nat) (hk : k < 8) (h : zBy x k ≤ 127) : (x >>> ((nI (8 * k)).toInt64 &&& 63)).toInt32 &&& nI 127 = nI (zBy x k) := by
  rw [pk_and _ 7 (by decide)]
  have := zBy_e x k hk
  congr 1
  omega
/-- the character at a place of the text, 0 behind its end -/
def zCh (tx : Nat → Nat) (n q : Nat) : Nat := if q < n then tx q else 0
theorem zCh_in {tx : Nat → Nat} {n q : Nat} (h : q < n) : zCh tx n q = tx q := if_pos h
theorem zCh_out {tx : Nat → Nat} {n q : Nat} (h : n ≤ q) : zCh tx n q = 0 := if_neg (by omega)
theorem zCh_lt {tx : Nat → Nat} {n q : Nat} (h : ∀ j, j < n → 1 ≤ tx j ∧ tx j ≤ 127) : zCh tx n q ≤ 127 := by
  unfold zCh
  split
  · exact (h q (by assumption)).2
  · omega
theorem zCh_pos {tx : Nat → Nat} {n q : Nat} (h : zCh tx n q ≠ 0) : q < n := by
  unfold zCh at h
  split at h
  · assumption
  · exact absurd rfl h
/-- how many characters a long has, from k on with room f; none: one is too high -/
def zCn (x : Int64) : Nat → Nat → Option Nat
  | 0, k => some k
  | f + 1, k => if zBy x k = 0 then some k else if 127 < zBy x k then none else zCn x f (k + 1)
