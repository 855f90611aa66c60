/-! PURE: varints read. rbC, exC, rvC: Reader.readByte, expect, readVarint; rvM: the reference's loop -/
def rbC (g : Int32 → Int32) (e p s : Int32) : Int32 × Int32 × Int32 := if p < e then (g p, p + 1, s) else (0, p, 0)
def exC (s h : Int32) : Int32 := if s = 0 then 0 else if h = 0 then 0 else 1
def rvh (k b : Int32) : Int32 := if k = 0 then (if k < 9 then 1 else if b = 1 then 1 else 0) else if b = 0 then 0 else if k < 9 then 1 else if b = 1 then 1 else 0
def rvC (g : Int32 → Int32) (e : Int32) : Nat → Nat → Int64 → Int32 → Int32 → Int64 × Int32 × Int32
  | 0, _, _, p, _ => (0, p, 0)
  | r + 1, k, z, p, s =>
    if 128 ≤ (rbC g e p s).1 then
      rvC g e r (k + 1) (z ||| (((rbC g e p s).1 &&& 127).toInt64 <<< ((7 * nI k : Int32).toInt64 &&& 63))) (rbC g e p s).2.1 (rbC g e p s).2.2
    else (cUF (z ||| (((rbC g e p s).1 &&& 127).toInt64 <<< ((7 * nI k : Int32).toInt64 &&& 63))), (rbC g e p s).2.1, exC (rbC g e p s).2.2 (rvh (nI k) (rbC g e p s).1))
def mUF (z : Int64) : Int64 := if z &&& 1 = 0 then (z.toUInt64 >>> ((1 : Int32).toInt64.toUInt64 &&& Int64.toUInt64 63)).toInt64 else -(z.toUInt64 >>> ((1 : Int32).toInt64.toUInt64 &&& Int64.toUInt64 63)).toInt64 - 1
/-- 'right' behind a byte b, the n-th, with more = (b > 127) -/
def okM (n b : Int32) : Int32 := if n < 9 then (if 127 < b then 1 else if 0 < b then 1 else if n = 0 then 1 else 0) else if 2 ≤ b then 0 else if 127 < b then 1 else if 0 < b then 1 else if n = 0 then 1 else 0
def rvM (t : Nat → Int32) (k : Nat) : Nat → Nat → Int64 → Nat → Int64 × Nat × Int32
  | 0, _, z, a => (z, a, 0)
  | r + 1, n, z, a =>
    if k ≤ a then (z, a, 0) else if 10 ≤ n then (z, a, 0)
    else if t a ≤ 127 then (z ||| ((t a &&& 127).toInt64 <<< ((7 * nI n : Int32).toInt64 &&& 63)), a + 1, okM (nI n) (t a))
    else if okM (nI n) (t a) = 0 then (z ||| ((t a &&& 127).toInt64 <<< ((7 * nI n : Int32).toInt64 &&& 63)), a + 1, 0)
    else rvM t k r (n + 1) (z ||| ((t a &&& 127).toInt64 <<< ((7 * nI n : Int32).toInt64 &&& 63))) (a + 1)
theorem uf_eq (z : Int64) : cUF z = mUF z := by
  unfold cUF mUF
  generalize (z.toUInt64 >>> ((1 : Int32).toInt64.toUInt64 &&& Int64.toUInt64 63)).toInt64 = h
  obtain ⟨n, hn, rfl⟩ := wb_of z
  rw [wb_a1 hn]
  rcases Nat.mod_two_eq_zero_or_one n with c | c
  · rw [c]
    rw [if_pos (by decide)]
    have e : (-(lN 0) : Int64) = 0 := by decide
    rw [e]
    exact Int64.xor_zero
  · rw [c, if_neg (by decide)]
    have e : (-(lN 1) : Int64) = -1 := by decide
    rw [e]
    apply Int64.toBitVec_inj.mp
    rw [Int64.toBitVec_xor, show (-1 : Int64).toBitVec = BitVec.allOnes 64 by decide, Int64.toBitVec_sub, Int64.toBitVec_neg, BitVec.xor_allOnes, BitVec.neg_eq_not_add, show (1 : Int64).toBitVec = 1#64 from rfl, BitVec.add_sub_cancel]
theorem rvM_le {t : Nat → Int32} {k : Nat} : ∀ (r n : Nat) (z : Int64) (a : Nat), a ≤ (rvM t k r n z a).2.1
  | 0, _, _, _ => Nat.le_refl _
  | r + 1, n, z, a => by
    rw [rvM]
    split
    · exact Nat.le_refl _
    · split
      · exact Nat.le_refl _
      · split
        · exact Nat.le_succ _
        · split
          · exact Nat.le_succ _
          · exact Nat.le_trans (Nat.le_succ _) (rvM_le r _ _ _)
theorem rvM_lt {t : Nat → Int32} {k r n a : Nat} {z : Int64} (h : a < k) (hn : n < 10) : a < (rvM t k (r + 1) n z a).2.1 := by
  rw [rvM, if_neg (by omega), if_neg (by omega)]
  split
  · exact Nat.lt_succ_self _
  · split
    · exact Nat.lt_succ_self _
    · exact rvM_le r _ _ _
theorem rvM_k {t : Nat → Int32} {k : Nat} : ∀ (r n : Nat) (z : Int64) (a : Nat), (rvM t k r n z a).2.1 ≤ max a k
  | 0, _, _, _ => Nat.le_max_left _ _
  | r + 1, n, z, a => by
    rw [rvM]
    split
    · exact Nat.le_max_left _ _
    · split
      · exact Nat.le_max_left _ _
      · split
        · show a + 1 ≤ _; omega
        · split
          · show a + 1 ≤ _; omega
          · have := rvM_k (t := t) (k := k) r (n + 1) (z ||| ((t a &&& 127).toInt64 <<< ((7 * nI n : Int32).toInt64 &&& 63))) (a + 1)
            omega
theorem rvM_01 {t : Nat → Int32} {k : Nat} : ∀ (r n : Nat) (z : Int64) (a : Nat), (rvM t k r n z a).2.2 = 0 ∨ (rvM t k r n z a).2.2 = 1
  | 0, _, _, _ => Or.inl rfl
  | r + 1, n, z, a => by
    rw [rvM]
    split
    · exact Or.inl rfl
    · split
      · exact Or.inl rfl
      · split
        · show okM _ _ = 0 ∨ okM _ _ = 1
          unfold okM
          repeat' split
          all_goals first | exact Or.inl rfl | exact Or.inr rfl
        · split
          · exact Or.inl rfl
          · exact rvM_01 r _ _ _
theorem rvC_s0 {g : Int32 → Int32} {e : Int32} : ∀ (r k : Nat) (z : Int64) (p : Int32), (rvC g e r k z p 0).2.2 = 0
  | 0, _, _, _ => rfl
  | r + 1, k, z, p => by
    have h : (rbC g e p 0).2.2 = 0 := by unfold rbC; split <;> rfl
    rw [rvC]
    split
    · rw [h]; exact rvC_s0 r _ _ _
    · show exC _ _ = 0
      rw [h]; rfl
theorem ok_rvh {n b : Nat} (hn : n < 10) (hb : b < 128) : rvh (nI n) (nI b) = okM (nI n) (nI b) := by
  unfold rvh okM
  have e0 : (0 : Int32) = nI 0 := rfl
  have e1 : (1 : Int32) = nI 1 := rfl
  have e2 : (2 : Int32) = nI 2 := rfl
  have e9 : (9 : Int32) = nI 9 := rfl
  have e127 : (127 : Int32) = nI 127 := rfl
  rw [if_neg (show ¬ (127 : Int32) < nI b by rw [e127, nI_ltI (by omega) (by omega)]; omega)]
  simp only [e0, e1, e2, e9, nI_eq (show n < 2 ^ 31 by omega) (show (0 : Nat) < 2 ^ 31 by omega), nI_eq (show b < 2 ^ 31 by omega) (show (0 : Nat) < 2 ^ 31 by omega), nI_eq (show b < 2 ^ 31 by omega) (show (1 : Nat) < 2 ^ 31 by omega), nI_ltI (show n < 2 ^ 31 by omega) (show (9 : Nat) < 2 ^ 31 by omega), nI_ltI (show (0 : Nat) < 2 ^ 31 by omega) (show b < 2 ^ 31 by omega), nI_leI (show (2 : Nat) < 2 ^ 31 by omega) (show b < 2 ^ 31 by omega)]
  by_cases c1 : n = 0 <;> by_cases c2 : n < 9 <;> by_cases c3 : b = 0 <;> by_cases c4 : b = 1 <;> by_cases c5 : 0 < b <;> by_cases c6 : 2 ≤ b <;> simp [c1, c2, c3, c4, c5, c6] <;> omega
/-- the two readers side by side, the class's bound by lim, the reference's by k -/
def vRel (lim a : Nat) (C : Int64 × Int32 × Int32) (M : Int64 × Nat × Int32) : Prop :=
  (C.2.2 = 1 ∧ M.2.2 = 1 ∧ C.1 = mUF M.1 ∧ C.2.1 = nI M.2.1 ∧ M.2.1 ≤ lim) ∨ (C.2.2 = 0 ∧ (M.2.2 = 0 ∨ lim < M.2.1))
theorem rv_rel {f t : Nat → Int32} {B : Nat → Nat} {k lim : Nat} (hB : pB f B k) (hT : pT t B k) (hk : k < 2 ^ 30) (hlim : lim ≤ k) : ∀ (r n : Nat) (z : Int64) (a : Nat), r + n = 10 → a ≤ lim → vRel lim a (rvC (tb f k) (nI lim) r n z (nI a) 1) (rvM t k (r + 1) n z a)
  | 0, n, z, a, hr, ha => by
    refine Or.inr ⟨rfl, Or.inl ?_⟩
    rw [rvM]
    split
    · rfl
    · rw [if_pos (by omega)]
  | r + 1, n, z, a, hr, ha => by
    by_cases c : a < lim
    · have hb := hB a (by omega)
      have e1 : rbC (tb f k) (nI lim) (nI a) 1 = (nI (B a), nI (a + 1), 1) := by
        unfold rbC
        rw [if_pos (nI_lt c (by omega)), tb_B hB (by omega) (by omega), nI_1]
      have e128 : (128 : Int32) = nI 128 := rfl
      have e127 : (127 : Int32) = nI 127 := rfl
      rw [rvC, e1]
      by_cases cb : 128 ≤ B a
      · rw [if_pos (by rw [e128]; exact nI_le cb (by omega))]
        have ht : ¬ t a ≤ 127 := by rw [(hT a (by omega)).2, e127]; exact nI_ge (by omega) (by omega)
        rw [rvM, if_neg (by omega), if_neg (by omega), if_neg ht]
        by_cases c9 : n < 9
        · have hok : ¬ okM (nI n) (t a) = 0 := by
            unfold okM
            rw [if_pos (show nI n < 9 from nI_lt (b := 9) c9 (by omega)), if_pos (Int32.not_le.mp ht)]
            decide
          rw [if_neg hok, (hT a (by omega)).2]
          exact rv_rel hB hT hk hlim r (n + 1) _ (a + 1) (by omega) (by omega)
        · have hok : okM (nI n) (t a) = 0 := by
            unfold okM
            rw [if_neg (show ¬ nI n < 9 from nI_nlt (b := 9) (by omega) (by omega)), if_pos (by rw [(hT a (by omega)).2]; exact nI_le (a := 2) (by omega) (by omega))]
          rw [if_pos hok]
          have : r = 0 := by omega
          subst this
          exact Or.inr ⟨rfl, Or.inl rfl⟩
      · rw [if_neg (by rw [e128]; exact nI_ge (by omega) (by omega))]
        have ht : t a ≤ 127 := by rw [(hT a (by omega)).2, e127]; exact nI_le (by omega) (by omega)
        rw [rvM, if_neg (by omega), if_neg (by omega), if_pos ht, (hT a (by omega)).2, ← ok_rvh (by omega) (by omega)]
        by_cases h0 : rvh (nI n) (nI (B a)) = 0
        · refine Or.inr ⟨?_, Or.inl h0⟩
          show exC 1 _ = 0
          rw [h0]; rfl
        · have h1 : rvh (nI n) (nI (B a)) = 1 := by
            revert h0
            unfold rvh
            repeat' split
            all_goals first | (intro _; rfl) | (intro h; exact absurd rfl h)
          refine Or.inl ⟨?_, h1, uf_eq _, rfl, ?_⟩
          · show exC 1 _ = 1
            rw [h1]; rfl
          · show a + 1 ≤ lim
            omega
    · have ea : a = lim := by omega
      subst ea
      refine Or.inr ⟨?_, ?_⟩
      · have e1 : rbC (tb f k) (nI a) (nI a) 1 = (0, nI a, 0) := by
          unfold rbC
          rw [if_neg (nI_nlt (Nat.le_refl _) (by omega))]
        rw [rvC, e1]
        rfl
      · by_cases ck : a < k
        · exact Or.inr (rvM_lt ck (by omega))
        · refine Or.inl ?_
          rw [rvM, if_pos (by omega)]
