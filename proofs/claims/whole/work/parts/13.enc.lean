/-! PURE: varints and records written -/
def us7 (z : Int64) : Int64 := (z.toUInt64 >>> ((7 : Int32).toInt64.toUInt64 &&& Int64.toUInt64 63)).toInt64
/-- BatchBytes.folded, unfolded -/
def cF (v : Int64) : Int64 := (v <<< ((1 : Int32).toInt64 &&& 63)) ^^^ (v >>> ((63 : Int32).toInt64 &&& 63))
def cUF (z : Int64) : Int64 := (z.toUInt64 >>> ((1 : Int32).toInt64.toUInt64 &&& Int64.toUInt64 63)).toInt64 ^^^ (-(z &&& 1))
/-- BatchBytes.varintBytes: the loop's further bytes -/
def vbL : Nat → Int64 → Nat
  | 0, _ => 0
  | r + 1, z => if z = 0 then 0 else vbL r (us7 z) + 1
def vbC (v : Int64) : Int32 := nI (1 + vbL 9 (us7 (cF v)))
/-- the bytes that Tape.putNumber, and the reference's put, write -/
def numL (v : Int64) : Nat → List Int32
  | 0 => []
  | j + 1 => (v >>> ((8 * nI j : Int32).toInt64 &&& 63)).toInt32 :: numL v j
/-- those of Tape.putVarint -/
def vlC (z : Int64) : Nat → List Int32
  | 0 => [z.toInt32]
  | r + 1 => if us7 z = 0 then [z.toInt32] else ((z &&& 127).toInt32 ||| 128) :: vlC (us7 z) r
/-- the reference's z, width, varint -/
def mz (v : Int64) : Int64 := if 0 ≤ v then 2 * v else -2 * v - 1
def wdL : Nat → Int64 → Nat
  | 0, _ => 0
  | r + 1, z => if z < 0 then wdL r (us7 z) + 1 else if z ≤ 127 then 0 else wdL r (us7 z) + 1
def vlM (z : Int64) : Nat → List Int32
  | 0 => []
  | l + 1 => numL ((z &&& 127) + (if nI (l + 1) ≤ 1 then 0 else 128)) 1 ++ vlM (us7 z) l
/-- on numbers -/
def vlN : Nat → Nat → List Nat
  | 0, z => [z]
  | r + 1, z => if z < 128 then [z] else (z % 128 + 128) :: vlN r (z / 128)
theorem us7_eq {z : Nat} (h : z < 2 ^ 62) : us7 (lN z) = lN (z / 128) := pf_ushr (d := 7) (by decide) h
theorem cF_n {n : Nat} (h : n < 2 ^ 61) : cF (lN n) = lN (2 * n) := by
  unfold cF
  have e1 : lN n <<< ((1 : Int32).toInt64 &&& 63) = lN (n * 2 ^ 1) := wb_shl n (k := 1) (by decide)
  have e2 : lN n >>> ((63 : Int32).toInt64 &&& 63) = lN (n / 2 ^ 63) := pf_shr (d := 63) (by decide) (by omega)
  rw [e1, e2, lN_xor, show n / 2 ^ 63 = 0 by omega, Nat.xor_zero]
  exact congrArg lN (by omega)
theorem cF_m1 : cF (-1) = lN 1 := by decide
theorem mz_n {n : Nat} (h : n < 2 ^ 61) : mz (lN n) = lN (2 * n) := by
  unfold mz
  have e : (0 : Int64) = lN 0 := rfl
  rw [if_pos (by rw [e, pk_lLE (by omega) (by omega)]; omega)]
  exact lN_mul 2 n
theorem mz_m1 : mz (-1) = lN 1 := by decide
theorem lN0 {n : Nat} (h : n < 2 ^ 63) : lN n = 0 ↔ n = 0 := by
  show lN n = lN 0 ↔ n = 0
  exact pk_lEQ h (by omega)
theorem or128 : ∀ a, a < 128 → nI a ||| 128 = nI (a + 128) := by decide +kernel
theorem and127 {z : Nat} (h : z < 2 ^ 62) : lN z &&& 127 = lN (z % 128) := wb_mask (k := 7) (by omega) (by decide)
theorem vlC_eq : ∀ (r z : Nat), z < 2 ^ 62 → vlC (lN z) r = (vlN r z).map nI
  | 0, z, h => by rw [vlC, vlN, lN_i]; rfl
  | r + 1, z, h => by
    rw [vlC, vlN, us7_eq h]
    by_cases c : z < 128
    · rw [if_pos ((lN0 (by omega)).mpr (by omega)), if_pos c, lN_i]; rfl
    · rw [if_neg (fun q => by have := (lN0 (by omega)).mp q; omega), if_neg c, and127 h, lN_i, or128 _ (by omega), vlC_eq r (z / 128) (by omega)]
      rfl
theorem vbL_eq : ∀ (r z : Nat), z < 2 ^ 62 → vbL r (us7 (lN z)) + 1 = (vlN r z).length
  | 0, z, h => rfl
  | r + 1, z, h => by
    rw [vbL, vlN, us7_eq h]
    by_cases c : z < 128
    · rw [if_pos ((lN0 (by omega)).mpr (by omega)), if_pos c]; rfl
    · rw [if_neg (fun q => by have := (lN0 (by omega)).mp q; omega), if_neg c, vbL_eq r (z / 128) (by omega)]
      rfl
theorem vlN_pos (r z : Nat) : 0 < (vlN r z).length := by
  cases r with
  | zero => exact Nat.one_pos
  | succ r =>
    rw [vlN]
    split <;> exact Nat.succ_pos _
theorem vlN_len : ∀ (r z : Nat), (vlN r z).length ≤ r + 1
  | 0, _ => Nat.le_refl _
  | r + 1, z => by
    rw [vlN]
    split
    · exact Nat.succ_le_succ (Nat.zero_le _)
    · exact Nat.succ_le_succ (vlN_len r (z / 128))
theorem wdL_eq : ∀ (r z : Nat), z < 128 ^ (r + 1) → z < 2 ^ 62 → wdL (r + 1) (lN z) + 1 = (vlN r z).length
  | 0, z, h, h2 => by
    have e0 : (0 : Int64) = lN 0 := rfl
    have e1 : (127 : Int64) = lN 127 := rfl
    rw [wdL, if_neg (by rw [e0, pk_lLT (by omega) (by omega)]; omega), if_pos (by rw [e1, pk_lLE (by omega) (by omega)]; omega)]
    rfl
  | r + 1, z, h, h2 => by
    have e0 : (0 : Int64) = lN 0 := rfl
    have e1 : (127 : Int64) = lN 127 := rfl
    rw [wdL, vlN, if_neg (by rw [e0, pk_lLT (by omega) (by omega)]; omega), us7_eq h2, e1]
    by_cases c : z < 128
    · rw [if_pos (by rw [pk_lLE (by omega) (by omega)]; omega), if_pos c]; rfl
    · rw [if_neg (by rw [pk_lLE (by omega) (by omega)]; omega), if_neg c, wdL_eq r (z / 128) (by rw [Nat.pow_succ] at h; omega) (by omega)]
      rfl
theorem numL_1 (x : Int64) : numL x 1 = [x.toInt32] := by
  have e : x >>> ((8 * nI 0 : Int32).toInt64 &&& 63) = x := by
    apply Int64.toInt.inj
    rw [sx_toInt (d := 0) (by decide)]
    exact Int.shiftRight_zero _
  simp only [numL]
  rw [e]
theorem vlM_eq : ∀ (r z : Nat), z < 128 ^ (r + 1) → z < 2 ^ 62 → r < 2 ^ 20 → vlM (lN z) (vlN r z).length = (vlN r z).map nI
  | 0, z, h, h2, _ => by
    show vlM (lN z) 1 = [nI z]
    rw [vlM, vlM, numL_1, and127 h2, if_pos (by decide), List.append_nil]
    have e0 : (0 : Int64) = lN 0 := rfl
    rw [e0, lN_add, lN_i]
    congr 2
    omega
  | r + 1, z, h, h2, hr => by
    rw [vlN]
    by_cases c : z < 128
    · rw [if_pos c]
      show vlM (lN z) 1 = [nI z]
      rw [vlM, vlM, numL_1, and127 h2, if_pos (by decide), List.append_nil]
      have e0 : (0 : Int64) = lN 0 := rfl
      rw [e0, lN_add, lN_i]
      congr 2
      omega
    · rw [if_neg c]
      show vlM (lN z) ((vlN r (z / 128)).length + 1) = nI (z % 128 + 128) :: (vlN r (z / 128)).map nI
      have hp := vlN_pos r (z / 128)
      have hl := vlN_len r (z / 128)
      have e1 : (1 : Int32) = nI 1 := rfl
      have e2 : (128 : Int64) = lN 128 := rfl
      rw [vlM, if_neg (by rw [e1, nI_leI (by omega) (by omega)]; omega), numL_1, and127 h2, us7_eq h2, e2, lN_add, lN_i, vlM_eq r (z / 128) (by rw [Nat.pow_succ] at h; omega) (by omega) (by omega)]
      rfl
/-- zigzag of an int that is not below -1 -/
def zg (x : Int32) : Nat := if x = -1 then 1 else 2 * x.toNatClampNeg
def pOk (x : Int32) : Prop := x = -1 ∨ ∃ n, n < 2 ^ 30 ∧ x = nI n
theorem nI_m1 {n : Nat} (h : n < 2 ^ 31) : ¬ nI n = -1 := fun q => by
  have a := nI_toInt h
  rw [q] at a
  have : (-1 : Int32).toInt = -1 := by decide
  omega
theorem zg_n {n : Nat} (h : n < 2 ^ 31) : zg (nI n) = 2 * n := by
  unfold zg
  rw [if_neg (nI_m1 h), nI_clamp h]
theorem zg_lt {x : Int32} (h : pOk x) : zg x < 2 ^ 32 := by
  rcases h with rfl | ⟨n, h, rfl⟩
  · decide
  · rw [zg_n (by omega)]; omega
theorem cF_z {x : Int32} (h : pOk x) : cF x.toInt64 = lN (zg x) := by
  rcases h with rfl | ⟨n, h, rfl⟩
  · decide
  · rw [zg_n (by omega), nI_l (by omega), cF_n (by omega)]
theorem mz_z {x : Int32} (h : pOk x) : mz x.toInt64 = lN (zg x) := by
  rcases h with rfl | ⟨n, h, rfl⟩
  · decide
  · rw [zg_n (by omega), nI_l (by omega), mz_n (by omega)]
/-- how many bytes, and which -/
def vN (x : Int32) : Nat := (vlN 9 (zg x)).length
theorem vN_le (x : Int32) : vN x ≤ 10 := vlN_len 9 _
theorem vbC_z {x : Int32} (h : pOk x) : vbC x.toInt64 = nI (vN x) := by
  unfold vbC vN
  rw [cF_z h, Nat.add_comm, vbL_eq 9 (zg x) (by have := zg_lt h; omega)]
theorem vlC_z {x : Int32} (h : pOk x) : vlC (cF x.toInt64) 9 = (vlN 9 (zg x)).map nI := by
  rw [cF_z h, vlC_eq 9 _ (by have := zg_lt h; omega)]
theorem wd_z {x : Int32} (h : pOk x) : wdL 10 (mz x.toInt64) + 1 = vN x := by
  have := zg_lt h
  rw [mz_z h, wdL_eq 9 _ (by have : (2 : Nat) ^ 32 ≤ 128 ^ 10 := by decide
                             omega) (by omega)]
  rfl
theorem vlM_z {x : Int32} (h : pOk x) : vlM (mz x.toInt64) (vN x) = (vlN 9 (zg x)).map nI := by
  have := zg_lt h
  rw [mz_z h]
  exact vlM_eq 9 _ (by have : (2 : Nat) ^ 32 ≤ 128 ^ 10 := by decide
                       omega) (by omega) (by decide)
