/-! PURE: the checksum. s1: one step on numbers below 2^32 -/
def s1 (n : Nat) : Nat := (n / 2) ^^^ (if n % 2 = 1 then 2197175160 else 0)
def s4 (n : Nat) : Nat := s1 (s1 (s1 (s1 n)))
def tT (i : Nat) : Int32 := [0, 274646895, 549293790, 820201905, 1098587580, 1361435347, 1640403810, 1905808397, -2097792136, -1834419177, -1572096602, -1307217207, -1014159676, -741088853, -483350502, -210866315].getD i 0
theorem s1_xor (a b : Nat) : s1 (a ^^^ b) = s1 a ^^^ s1 b := by
  unfold s1
  have h1 : (a ^^^ b) / 2 = a / 2 ^^^ b / 2 := Nat.xor_div_two_pow (n := 1)
  have h2 : (a ^^^ b) % 2 = (a % 2) ^^^ (b % 2) := Nat.xor_mod_two_pow (n := 1)
  rw [h1, h2]
  rcases Nat.mod_two_eq_zero_or_one a with ha | ha <;> rcases Nat.mod_two_eq_zero_or_one b with hb | hb <;> rw [ha, hb]
  · simp
  · simp [Nat.xor_assoc]
  · simp only [Nat.xor_zero, Nat.zero_ne_one, if_true, if_false]
    rw [Nat.xor_assoc, Nat.xor_assoc, Nat.xor_comm (b / 2)]
  · simp only [Nat.xor_self, Nat.zero_ne_one, if_true, if_false, Nat.xor_zero]
    rw [Nat.xor_assoc, Nat.xor_comm 2197175160 (b / 2 ^^^ 2197175160), Nat.xor_assoc, Nat.xor_self, Nat.xor_zero]
theorem s4_xor (a b : Nat) : s4 (a ^^^ b) = s4 a ^^^ s4 b := by
  unfold s4
  rw [s1_xor, s1_xor, s1_xor, s1_xor]
theorem s1_even (h : Nat) : s1 (2 * h) = h := by
  unfold s1
  rw [show 2 * h / 2 = h by omega, show 2 * h % 2 = 0 by omega]
  simp
theorem s4_16 (h : Nat) : s4 (16 * h) = h := by
  unfold s4
  rw [show 16 * h = 2 * (2 * (2 * (2 * h))) by omega, s1_even, s1_even, s1_even, s1_even]
theorem split16 (n : Nat) : n = (16 * (n / 16)) ^^^ (n % 16) := by
  have h1 : ((16 * (n / 16)) ^^^ (n % 16)) / 16 = (16 * (n / 16)) / 16 ^^^ (n % 16) / 16 := Nat.xor_div_two_pow (n := 4)
  have h2 : ((16 * (n / 16)) ^^^ (n % 16)) % 16 = ((16 * (n / 16)) % 16) ^^^ ((n % 16) % 16) := Nat.xor_mod_two_pow (n := 4)
  rw [show 16 * (n / 16) / 16 = n / 16 by omega, show n % 16 / 16 = 0 by omega, Nat.xor_zero] at h1
  rw [show 16 * (n / 16) % 16 = 0 by omega, show n % 16 % 16 = n % 16 by omega, Nat.zero_xor] at h2
  omega
theorem s4_eq (n : Nat) : s4 n = (n / 16) ^^^ s4 (n % 16) := by
  conv => lhs; rw [split16 n]
  rw [s4_xor, s4_16]
theorem tT_eq : ∀ i, i < 16 → tT i = nI (s4 i) := by decide +kernel
theorem s1_lt {n : Nat} (h : n < 2 ^ 32) : s1 n < 2 ^ 32 := by
  unfold s1
  apply Nat.xor_lt_two_pow
  · omega
  · split <;> decide
theorem s4_lt {n : Nat} (h : n < 2 ^ 32) : s4 n < 2 ^ 32 := s1_lt (s1_lt (s1_lt (s1_lt h)))
/-- half a byte of Tape.checksum -/
def cH (c : Int32) : Int32 := (c.toUInt32 >>> ((4 : Int32).toUInt32 &&& Int32.toUInt32 31)).toInt32 ^^^ tT (c &&& 15).toNatClampNeg
def cS (c x : Int32) : Int32 := cH (cH (c ^^^ (x &&& 255)))
/-- the loop of Tape.checksum from place i on, n bytes -/
def crcC (f : Nat → Int32) (c : Int32) (i : Nat) : Nat → Int32
  | 0 => c
  | n + 1 => crcC f (cS c (f i)) (i + 1) n
/-- one bit of the reference's sum -/
def mS (c : Int64) : Int64 := (c >>> ((1 : Int32).toInt64 &&& 63)) ^^^ (if c &&& 1 = 1 then 2197175160 else 0)
def mS8 (c : Int64) : Nat → Int64
  | 0 => c
  | n + 1 => mS8 (mS c) n
def crcM (t : Nat → Int32) (c : Int64) (i : Nat) : Nat → Int64
  | 0 => c
  | n + 1 => crcM t (mS8 (c ^^^ (t i).toInt64) 8) (i + 1) n
/-- both, on numbers -/
def crcN (B : Nat → Nat) (c : Nat) (i : Nat) : Nat → Nat
  | 0 => c
  | n + 1 => crcN B (s4 (s4 (c ^^^ B i))) (i + 1) n
theorem nxor (a b : Nat) : nI a ^^^ nI b = nI (a ^^^ b) := nx_xor a b
theorem cH_eq {n : Nat} (h : n < 2 ^ 32) : cH (nI n) = nI (s4 n) := by
  unfold cH
  have e1 : ((nI n).toUInt32 >>> ((4 : Int32).toUInt32 &&& Int32.toUInt32 31)).toInt32 = nI (n / 16) := pk_ushrN h 4 4 (by decide)
  have e2 : nI n &&& 15 = nI (n % 16) := pk_andN h 4 (by decide)
  rw [e1, e2, nI_clamp (by omega), tT_eq _ (by omega), nxor, ← s4_eq]
theorem mS_eq {n : Nat} (h : n < 2 ^ 32) : mS (lN n) = lN (s1 n) := by
  unfold mS s1
  have e1 : lN n >>> ((1 : Int32).toInt64 &&& 63) = lN (n / 2) := pf_shr (d := 1) (by decide) (by omega)
  have e2 : lN n &&& 1 = lN (n % 2) := wb_a1 (by omega)
  have e3 : (1 : Int64) = lN 1 := rfl
  have e4 : (2197175160 : Int64) = lN 2197175160 := rfl
  have e5 : (0 : Int64) = lN 0 := rfl
  rw [e1, e2]
  by_cases c : n % 2 = 1
  · rw [if_pos (by rw [c, ← e3]), if_pos c, e4, lN_xor]
  · rw [if_neg (by rw [e3, pk_lEQ (by omega) (by omega)]; exact c), if_neg c, e5, lN_xor]
theorem mS8_eq {n : Nat} (h : n < 2 ^ 32) : mS8 (lN n) 8 = lN (s4 (s4 n)) := by
  have g1 := s1_lt h
  have g2 := s1_lt g1
  have g3 := s1_lt g2
  have g4 := s1_lt g3
  have g5 := s1_lt g4
  have g6 := s1_lt g5
  have g7 := s1_lt g6
  unfold s4
  simp only [mS8]
  rw [mS_eq h, mS_eq g1, mS_eq g2, mS_eq g3, mS_eq g4, mS_eq g5, mS_eq g6, mS_eq g7]
theorem crcN_lt {B : Nat → Nat} : ∀ (n i c : Nat), c < 2 ^ 32 → (∀ j, j < n → B (i + j) < 256) → crcN B c i n < 2 ^ 32
  | 0, _, _, h, _ => h
  | n + 1, i, c, h, hB => by
    have hb := hB 0 (by omega)
    rw [Nat.add_zero] at hb
    refine crcN_lt n (i + 1) _ (s4_lt (s4_lt (Nat.xor_lt_two_pow h (by omega)))) (fun j hj => ?_)
    have := hB (j + 1) (by omega)
    rwa [show i + (j + 1) = i + 1 + j by omega] at this
theorem crcC_eq {f : Nat → Int32} {B : Nat → Nat} {k : Nat} (hB : pB f B k) : ∀ (n i c : Nat), i + n ≤ k → c < 2 ^ 32 → crcC f (nI c) i n = nI (crcN B c i n)
  | 0, _, _, _, _ => rfl
  | n + 1, i, c, hi, hc => by
    have hb := hB i (by omega)
    have hx : c ^^^ B i < 2 ^ 32 := Nat.xor_lt_two_pow hc (by omega)
    rw [crcC, crcN, cS, hb.2, nxor, cH_eq hx, cH_eq (s4_lt hx)]
    exact crcC_eq hB n (i + 1) _ (by omega) (s4_lt (s4_lt hx))
theorem crcM_eq {t : Nat → Int32} {B : Nat → Nat} {k : Nat} (hB : pT t B k) : ∀ (n i c : Nat), i + n ≤ k → c < 2 ^ 32 → crcM t (lN c) i n = lN (crcN B c i n)
  | 0, _, _, _, _ => rfl
  | n + 1, i, c, hi, hc => by
    have hb := hB i (by omega)
    have hx : c ^^^ B i < 2 ^ 32 := Nat.xor_lt_two_pow hc (by omega)
    rw [crcM, crcN, hb.2, nI_l (by omega), lN_xor, mS8_eq hx]
    exact crcM_eq hB n (i + 1) _ (by omega) (s4_lt (s4_lt hx))
/-- Tape.checksum and the reference's sum, whole -/
def ckC (f : Nat → Int32) (i n : Nat) : Int32 := crcC f (-1) i n ^^^ (-1)
def ckM (t : Nat → Int32) (i n : Nat) : Int64 := crcM t 4294967295 i n ^^^ 4294967295
def ckN (B : Nat → Nat) (i n : Nat) : Nat := crcN B 4294967295 i n ^^^ 4294967295
theorem ckN_lt {B : Nat → Nat} {i n : Nat} (hB : ∀ j, j < n → B (i + j) < 256) : ckN B i n < 2 ^ 32 := Nat.xor_lt_two_pow (crcN_lt n i _ (by decide) hB) (by decide)
theorem ckC_eq {f : Nat → Int32} {B : Nat → Nat} {k i n : Nat} (hB : pB f B k) (h : i + n ≤ k) : ckC f i n = nI (ckN B i n) := by
  unfold ckC ckN
  have e : (-1 : Int32) = nI 4294967295 := by decide
  rw [e, crcC_eq hB n i _ h (by decide), nxor]
theorem ckM_eq {t : Nat → Int32} {B : Nat → Nat} {k i n : Nat} (hB : pT t B k) (h : i + n ≤ k) : ckM t i n = lN (ckN B i n) := by
  unfold ckM ckN
  have e : (4294967295 : Int64) = lN 4294967295 := rfl
  rw [e, crcM_eq hB n i _ h (by decide), lN_xor]
