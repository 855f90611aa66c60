/-! the reference: start, sum, putSum -/
def st8 (v : Int64) : Nat := min 8 v.toNatClampNeg
theorem st8_8 (v : Int64) : st8 v ≤ 8 := by unfold st8; omega
theorem st8_i {v : Int64} {i : Nat} (hi : i ≤ 8) : v ≤ (nI i).toInt64 ↔ v.toNatClampNeg ≤ i := by
  rw [nI_l (by omega), Int64.le_iff_toInt_le, pk_lT (by omega)]
  show v.toInt ≤ i ↔ v.toInt.toNat ≤ i
  omega
theorem st8_a {v : Int64} {i : Nat} (hi : i ≤ st8 v) (h : v ≤ (nI i).toInt64) : i = st8 v := by
  have h8 := st8_8 v
  have h2 := (st8_i (by omega)).mp h
  unfold st8 at *
  omega
theorem st8_b {v : Int64} {i : Nat} (hi : i ≤ st8 v) (h : 8 ≤ nI i) : i = st8 v := by
  have h8 := st8_8 v
  have h2 := (nI_leI (a := 8) (by omega) (by omega)).mp h
  omega
theorem st8_c {v : Int64} {i : Nat} (hi : i ≤ st8 v) (h : ¬ v ≤ (nI i).toInt64) (h2 : ¬ 8 ≤ nI i) : i < st8 v := by
  have h8 := st8_8 v
  have h3 : ¬ v.toNatClampNeg ≤ i := fun q => h ((st8_i (by omega)).mpr q)
  have h4 : ¬ 8 ≤ i := fun q => h2 (nI_le (a := 8) q (by omega))
  unfold st8 at *
  omega
theorem mS8_pos {r : Nat} {c : Int64} (h : 0 < r) : mS8 c r = mS8 (mS c) (r - 1) := by
  obtain ⟨q, rfl⟩ : ∃ q, r = q + 1 := ⟨r - 1, by omega⟩
  rfl
theorem mS_alt (c : Int64) : (c >>> ((1 : Int32).toInt64 &&& 63)) ^^^ (if (if c &&& 1 = 1 then (1 : Int32) else 0) = 0 then 0 else 2197175160) = mS c := by
  unfold mS
  by_cases h : c &&& 1 = 1
  · rw [if_pos h, if_pos h, if_neg (by decide)]
  · rw [if_neg h, if_neg h, if_pos rfl]
def mPs (t : Nat → Int32) (a : Nat) (v : Int64) : Nat → Nat → Int32
  | 0 => t
  | i + 1 => upd (mPs t a v i) (a + i) ((v >>> ((24 - 8 * nI i : Int32).toInt64 &&& 63)).toInt32 &&& 255)
