/-! PURE: numbers in bytes. pB: a row of bytes as the class keeps it, pT: as the reference keeps it -/
def pB (f : Nat → Int32) (B : Nat → Nat) (k : Nat) : Prop := ∀ i, i < k → B i < 256 ∧ f i &&& 255 = nI (B i)
def pT (t : Nat → Int32) (B : Nat → Nat) (k : Nat) : Prop := ∀ i, i < k → B i < 256 ∧ t i = nI (B i)
/-- Tape.get -/
def tb (f : Nat → Int32) (k : Nat) (i : Int32) : Int32 := if i < 0 then 0 else if nI k ≤ i then 0 else f i.toNatClampNeg &&& 255
/-- Tape.unsigned -/
def uns (g : Int32 → Int32) (p : Int32) : Nat → Int64
  | 0 => 0
  | j + 1 => (uns g p j <<< ((8 : Int32).toInt64 &&& 63)) ||| (g (p + nI j)).toInt64
/-- Tape.signed -/
def sgn (g : Int32 → Int32) (p : Int32) (j : Nat) : Int64 := uns g p j <<< ((64 - 8 * nI j : Int32).toInt64 &&& 63) >>> ((64 - 8 * nI j : Int32).toInt64 &&& 63)
/-- the reference's number -/
def mnl (t : Nat → Int32) (v : Int64) (p : Nat) : Nat → Int64
  | 0 => v
  | j + 1 => (mnl t v p j <<< ((8 : Int32).toInt64 &&& 63)) ||| (t (p + j)).toInt64
def mnum (t : Nat → Int32) (p j : Nat) : Int64 := mnl t (if 127 < t p then -1 else 0) p j
def pU (B : Nat → Nat) (p : Nat) : Nat → Nat
  | 0 => 0
  | j + 1 => pU B p j * 256 + B (p + j)
theorem pU_lt {B : Nat → Nat} {p : Nat} : ∀ {j : Nat}, (∀ i, i < j → B (p + i) < 256) → pU B p j < 256 ^ j
  | 0, _ => by simp [pU]
  | j + 1, h => by
    have h1 := pU_lt (j := j) (fun i hi => h i (by omega))
    have h2 := h j (by omega)
    rw [pU, Nat.pow_succ]
    omega
theorem pU_hi {B : Nat → Nat} {p : Nat} : ∀ {j : Nat}, (∀ i, i < j + 1 → B (p + i) < 256) → (128 ≤ B p → 128 * 256 ^ j ≤ pU B p (j + 1)) ∧ (B p < 128 → pU B p (j + 1) < 128 * 256 ^ j)
  | 0, _ => by simp [pU]
  | j + 1, h => by
    have h1 := pU_hi (B := B) (p := p) (j := j) (fun i hi => h i (by omega))
    have h2 := h (j + 1) (by omega)
    rw [pU, Nat.pow_succ]
    generalize 256 ^ j = P at h1 ⊢
    generalize pU B p (j + 1) = u at h1 ⊢
    refine ⟨fun h => ?_, fun h => ?_⟩
    · have := h1.1 h
      omega
    · have := h1.2 h
      omega
theorem tb_in {f : Nat → Int32} {k i : Nat} (hk : k < 2 ^ 31) (hi : i < k) : tb f k (nI i) = f i &&& 255 := by
  unfold tb
  rw [if_neg (nI_pos (by omega)), if_neg (nI_ge hi hk), nI_clamp (by omega)]
theorem tb_B {f : Nat → Int32} {B : Nat → Nat} {k i : Nat} (hB : pB f B k) (hk : k < 2 ^ 31) (hi : i < k) : tb f k (nI i) = nI (B i) := by
  rw [tb_in hk hi]
  exact (hB i hi).2
theorem or_byte {u b : Nat} (hb : b < 256) (h : u * 256 + b < 2 ^ 64) : (lN u <<< ((8 : Int32).toInt64 &&& 63)) ||| (nI b).toInt64 = lN (u * 256 + b) := by
  have e : lN u <<< ((8 : Int32).toInt64 &&& 63) = lN (u * 256) := wb_shl u (k := 8) (by decide)
  rw [e, nI_l (by omega)]
  exact g_or (k := 8) (by decide) hb h
theorem p256 : ∀ j, j ≤ 8 → 256 ^ j ≤ 2 ^ 64 := fun j h => by
  have : 256 ^ j ≤ 256 ^ 8 := Nat.pow_le_pow_right (by decide) h
  exact Nat.le_trans this (by decide)
theorem uns_eq {f : Nat → Int32} {B : Nat → Nat} {k p : Nat} (hB : pB f B k) (hk : k < 2 ^ 31) : ∀ j, p + j ≤ k → j ≤ 8 → uns (tb f k) (nI p) j = lN (pU B p j)
  | 0, _, _ => rfl
  | j + 1, h, hj => by
    have ih := uns_eq hB hk (p := p) j (by omega) (by omega)
    have hb := (hB (p + j) (by omega)).1
    have hu := pU_lt (B := B) (p := p) (j := j + 1) (fun i hi => (hB (p + i) (by omega)).1)
    rw [uns, ih, nI_add, tb_B hB hk (by omega), pU]
    rw [pU] at hu
    exact or_byte hb (Nat.lt_of_lt_of_le hu (p256 (j + 1) hj))
theorem mnl0_eq {t : Nat → Int32} {B : Nat → Nat} {k p : Nat} (hB : pT t B k) : ∀ j, p + j ≤ k → j ≤ 8 → mnl t 0 p j = lN (pU B p j)
  | 0, _, _ => rfl
  | j + 1, h, hj => by
    have ih := mnl0_eq hB (p := p) j (by omega) (by omega)
    have hb := (hB (p + j) (by omega))
    have hu := pU_lt (B := B) (p := p) (j := j + 1) (fun i hi => (hB (p + i) (by omega)).1)
    rw [mnl, ih, hb.2, pU]
    rw [pU] at hu
    exact or_byte hb.1 (Nat.lt_of_lt_of_le hu (p256 (j + 1) hj))
theorem mnl1_eq {t : Nat → Int32} {B : Nat → Nat} {k p : Nat} (hB : pT t B k) : ∀ j, p + j ≤ k → j ≤ 8 → mnl t (-1) p j = lN (2 ^ 64 - 256 ^ j + pU B p j)
  | 0, _, _ => (by decide : (-1 : Int64) = lN (2 ^ 64 - 256 ^ 0 + 0))
  | j + 1, h, hj => by
    have ih := mnl1_eq hB (p := p) j (by omega) (by omega)
    have hb := (hB (p + j) (by omega))
    have hu := pU_lt (B := B) (p := p) (j := j) (fun i hi => (hB (p + i) (by omega)).1)
    have hp := p256 (j + 1) hj
    have ep : 256 ^ (j + 1) = 256 ^ j * 256 := Nat.pow_succ ..
    rw [mnl, ih, hb.2, pU, ep]
    rw [ep] at hp
    generalize 256 ^ j = P at hu hp ⊢
    generalize pU B p j = u at hu ⊢
    have e : lN (2 ^ 64 - P + u) <<< ((8 : Int32).toInt64 &&& 63) = lN ((72057594037927936 - P + u) * 256) := by
      have e1 : lN (2 ^ 64 - P + u) <<< ((8 : Int32).toInt64 &&& 63) = lN ((2 ^ 64 - P + u) * 256) := wb_shl _ (k := 8) (by decide)
      rw [e1, wb_mod ((2 ^ 64 - P + u) * 256)]
      exact congrArg lN (by omega)
    rw [e, nI_l (by omega), g_or (k := 8) (by decide) hb.1 (by omega)]
    exact congrArg lN (by omega)
/-- the number with a sign that j bytes from p on are -/
def sI (B : Nat → Nat) (p j : Nat) : Int := if 128 ≤ B p then (pU B p j : Int) - (256 ^ j : Nat) else pU B p j
theorem mnum_int {t : Nat → Int32} {B : Nat → Nat} {k p j : Nat} (hB : pT t B k) (h : p + (j + 1) ≤ k) (hj : j + 1 ≤ 8) : (mnum t p (j + 1)).toInt = sI B p (j + 1) := by
  have hb := hB p (by omega)
  have hu := pU_lt (B := B) (p := p) (j := j + 1) (fun i hi => (hB (p + i) (by omega)).1)
  have hh := pU_hi (B := B) (p := p) (j := j) (fun i hi => (hB (p + i) (by omega)).1)
  have hp := p256 (j + 1) hj
  have e127 : (127 : Int32) = nI 127 := rfl
  unfold mnum sI
  rw [hb.2, e127]
  by_cases c : 128 ≤ B p
  · rw [if_pos (nI_lt (by omega) (by omega)), if_pos c, mnl1_eq hB (j + 1) h hj]
    have h1 := hh.1 c
    have ep : 256 ^ (j + 1) = 256 ^ j * 256 := Nat.pow_succ ..
    rw [ep] at hu hp ⊢
    generalize 256 ^ j = P at hu hp h1 ⊢
    generalize pU B p (j + 1) = u at hu h1 ⊢
    rw [lN_ti (by omega), if_neg (by omega)]
    omega
  · rw [if_neg (nI_nlt (by omega) (by omega)), if_neg c, mnl0_eq hB (j + 1) h hj]
    have h1 := hh.2 (by omega)
    have ep : 256 ^ (j + 1) = 256 ^ j * 256 := Nat.pow_succ ..
    rw [ep] at hu hp
    generalize 256 ^ j = P at hu hp h1 ⊢
    generalize pU B p (j + 1) = u at hu h1 ⊢
    rw [lN_ti (by omega), if_pos (by omega)]
theorem sx_toInt {x : Int64} {D : Int64} {d : Nat} (hD : (D.toBitVec.smod 64).toNat = d) : (x >>> D).toInt = x.toInt >>> d := by
  rw [← hD]
  exact BitVec.toInt_sshiftRight ..
theorem sx0 {u : Nat} (h : u < 18446744073709551616) : (lN u <<< ((nI 0).toInt64 &&& 63) >>> ((nI 0).toInt64 &&& 63)).toInt = if u < 9223372036854775808 then (u : Int) else (u : Int) - 18446744073709551616 := by
  rw [sx_toInt (d := 0) (by decide), wb_shl u (k := 0) (by decide), lN_ti (by omega), Int.shiftRight_eq_div_pow]
  split <;> split <;> omega
theorem sx32 {u : Nat} (h : u < 4294967296) : (lN u <<< ((nI 32).toInt64 &&& 63) >>> ((nI 32).toInt64 &&& 63)).toInt = if u < 2147483648 then (u : Int) else (u : Int) - 4294967296 := by
  rw [sx_toInt (d := 32) (by decide), wb_shl u (k := 32) (by decide), lN_ti (by omega), Int.shiftRight_eq_div_pow]
  split <;> split <;> omega
theorem sx48 {u : Nat} (h : u < 65536) : (lN u <<< ((nI 48).toInt64 &&& 63) >>> ((nI 48).toInt64 &&& 63)).toInt = if u < 32768 then (u : Int) else (u : Int) - 65536 := by
  rw [sx_toInt (d := 48) (by decide), wb_shl u (k := 48) (by decide), lN_ti (by omega), Int.shiftRight_eq_div_pow]
  split <;> split <;> omega
theorem sx56 {u : Nat} (h : u < 256) : (lN u <<< ((nI 56).toInt64 &&& 63) >>> ((nI 56).toInt64 &&& 63)).toInt = if u < 128 then (u : Int) else (u : Int) - 256 := by
  rw [sx_toInt (d := 56) (by decide), wb_shl u (k := 56) (by decide), lN_ti (by omega), Int.shiftRight_eq_div_pow]
  split <;> split <;> omega
theorem sgn_int {f : Nat → Int32} {B : Nat → Nat} {k p j : Nat} (hB : pB f B k) (hk : k < 2 ^ 31) (h : p + j ≤ k) (hj : j = 1 ∨ j = 2 ∨ j = 4 ∨ j = 8) : (sgn (tb f k) (nI p) j).toInt = sI B p j := by
  have hu := pU_lt (B := B) (p := p) (j := j) (fun i hi => (hB (p + i) (by omega)).1)
  have e := uns_eq hB hk (p := p) j h (by omega)
  unfold sgn sI
  rw [e]
  rcases hj with rfl | rfl | rfl | rfl
  · have hh := pU_hi (B := B) (p := p) (j := 0) (fun i hi => (hB (p + i) (by omega)).1)
    rw [show (64 - 8 * nI 1 : Int32) = nI 56 by decide, sx56 (by simpa using hu)]
    simp only [Nat.zero_add, Nat.reducePow] at hh hu ⊢
    generalize pU B p 1 = u at *
    by_cases c : 128 ≤ B p
    · have := hh.1 c
      rw [if_pos c, if_neg (by omega)]; rfl
    · have := hh.2 (by omega)
      rw [if_neg c, if_pos (by omega)]
  · have hh := pU_hi (B := B) (p := p) (j := 1) (fun i hi => (hB (p + i) (by omega)).1)
    rw [show (64 - 8 * nI 2 : Int32) = nI 48 by decide, sx48 (by simpa using hu)]
    simp only [Nat.reduceAdd, Nat.reducePow, Nat.reduceMul] at hh hu ⊢
    generalize pU B p 2 = u at *
    by_cases c : 128 ≤ B p
    · have := hh.1 c
      rw [if_pos c, if_neg (by omega)]; rfl
    · have := hh.2 (by omega)
      rw [if_neg c, if_pos (by omega)]
  · have hh := pU_hi (B := B) (p := p) (j := 3) (fun i hi => (hB (p + i) (by omega)).1)
    rw [show (64 - 8 * nI 4 : Int32) = nI 32 by decide, sx32 (by simpa using hu)]
    simp only [Nat.reduceAdd, Nat.reducePow, Nat.reduceMul] at hh hu ⊢
    generalize pU B p 4 = u at *
    by_cases c : 128 ≤ B p
    · have := hh.1 c
      rw [if_pos c, if_neg (by omega)]; rfl
    · have := hh.2 (by omega)
      rw [if_neg c, if_pos (by omega)]
  · have hh := pU_hi (B := B) (p := p) (j := 7) (fun i hi => (hB (p + i) (by omega)).1)
    rw [show (64 - 8 * nI 8 : Int32) = nI 0 by decide, sx0 (by simpa using hu)]
    simp only [Nat.reduceAdd, Nat.reducePow, Nat.reduceMul] at hh hu ⊢
    generalize pU B p 8 = u at *
    by_cases c : 128 ≤ B p
    · have := hh.1 c
      rw [if_pos c, if_neg (by omega)]; rfl
    · have := hh.2 (by omega)
      rw [if_neg c, if_pos (by omega)]
theorem num_eq {f t : Nat → Int32} {B : Nat → Nat} {k p j : Nat} (hB : pB f B k) (hT : pT t B k) (hk : k < 2 ^ 31) (h : p + j ≤ k) (hj : j = 1 ∨ j = 2 ∨ j = 4 ∨ j = 8) : sgn (tb f k) (nI p) j = mnum t p j := by
  apply Int64.toInt.inj
  rw [sgn_int hB hk h hj]
  obtain ⟨i, rfl⟩ : ∃ i, j = i + 1 := ⟨j - 1, by omega⟩
  rw [mnum_int hT h (by omega)]
