/-- a head without a wrong field has 1 .. 1000 records -/
theorem wp_cn {g : Int32 → Int32} (h : wpC g = -1) : ¬ sgn g 57 4 < 1 ∧ sgn g 57 4 ≤ 1000 := by
  unfold wpC at h
  generalize fitP (sgn g 51 2) (sgn g 43 8) = a1 at h
  generalize fitP (sgn g 53 4) (sgn g 43 8) = a2 at h
  generalize sgn g 43 8 = a3 at h
  generalize sgn g 57 4 = a4 at h ⊢
  by_cases c1 : a3 < -1
  · rw [if_pos c1] at h; exact absurd h (by decide)
  rw [if_neg c1] at h
  by_cases c2 : a3 ≤ 1125899906842624
  · rw [if_pos c2] at h
    by_cases c3 : a1 = 0
    · rw [if_pos c3] at h; exact absurd h (by decide)
    rw [if_neg c3] at h
    by_cases c4 : a2 = 0
    · rw [if_pos c4] at h; exact absurd h (by decide)
    rw [if_neg c4] at h
    by_cases c5 : a4 < 1
    · rw [if_pos c5] at h; exact absurd h (by decide)
    rw [if_neg c5] at h
    by_cases c6 : a4 ≤ 1000
    · exact ⟨c5, c6⟩
    · rw [if_neg c6] at h; exact absurd h (by decide)
  · rw [if_neg c2] at h; exact absurd h (by decide)
theorem wf_wp {g : Int32 → Int32} (h : wfC g = -1) : wpC g = -1 := by
  unfold wfC at h
  generalize wpC g = a0 at h ⊢
  generalize isT (sgn g 27 8) = a1 at h
  generalize isT (sgn g 35 8) = a2 at h
  generalize sgn g 57 4 = a3 at h
  generalize sgn g 23 4 = a4 at h
  generalize sgn g 21 2 = a5 at h
  generalize sgn g 16 1 = a6 at h
  generalize sgn g 12 4 = a7 at h
  generalize sgn g 0 8 = a8 at h
  by_cases c1 : a8 = 0
  case neg => rw [if_neg c1] at h; exact absurd h (by decide)
  rw [if_pos c1] at h
  by_cases c2 : a7 = 0
  case neg => rw [if_neg c2] at h; exact absurd h (by decide)
  rw [if_pos c2] at h
  by_cases c3 : a6 = 2
  case neg => rw [if_neg c3] at h; exact absurd h (by decide)
  rw [if_pos c3] at h
  by_cases c4 : a5 = 0
  case neg => rw [if_neg c4] at h; exact absurd h (by decide)
  rw [if_pos c4] at h
  by_cases c5 : a4 = a3 - 1
  case neg => rw [if_neg c5] at h; exact absurd h (by decide)
  rw [if_pos c5] at h
  by_cases c6 : a1 = 0
  · rw [if_pos c6] at h; exact absurd h (by decide)
  rw [if_neg c6] at h
  by_cases c7 : a2 = 0
  · rw [if_pos c7] at h; exact absurd h (by decide)
  rw [if_neg c7] at h
  exact h
theorem wf_cn {g : Int32 → Int32} (h : wfC g = -1) : sgn g 57 4 = lN (sgn g 57 4).toNatClampNeg ∧ (sgn g 57 4).toNatClampNeg ≤ 1000 := by
  obtain ⟨h1, h2⟩ := wp_cn (wf_wp h)
  generalize sgn g 57 4 = x at *
  have e1 : (1 : Int64).toInt = 1 := by decide
  have e2 : (1000 : Int64).toInt = 1000 := by decide
  have e0 : (0 : Int64).toInt = 0 := by decide
  rw [Int64.lt_iff_toInt_lt, e1] at h1
  rw [Int64.le_iff_toInt_le, e2] at h2
  have h3 : (0 : Int64) ≤ x := by rw [Int64.le_iff_toInt_le, e0]; omega
  refine ⟨(Int64.ofNat_toNatClampNeg x h3).symm, ?_⟩
  show x.toInt.toNat ≤ 1000
  omega
/-- how many of the first eight bytes there are -/
def f8 (x : Int32) : Nat := min 8 x.toNatClampNeg
theorem f8_lt (x : Int32) : f8 x < 1000 := by unfold f8; omega
theorem f8_eq (x : Int32) : (if (if x < 0 then 0 else x) < 8 then (if x < 0 then 0 else x) else 8) = nI (f8 x) := by
  unfold f8
  by_cases h : x < 0
  · have hz : x.toNatClampNeg = 0 := by
      rw [Int32.lt_iff_toInt_lt, Int32.toInt_zero] at h
      show x.toInt.toNat = 0
      omega
    rw [if_pos h, if_pos (by decide), hz]; rfl
  · obtain ⟨j, hj, rfl⟩ := nI_of h
    rw [if_neg h, nI_clamp hj]
    by_cases c : j < 8
    · rw [if_pos (show nI j < 8 from nI_lt (b := 8) c (by omega)), show min 8 j = j by omega]
    · rw [if_neg (show ¬ nI j < 8 from nI_nlt (b := 8) (by omega) hj), show min 8 j = 8 by omega]; rfl
/-- where record i begins -/
def rdP (g : Int32 → Int32) (u : Int32) (ft : Int64) : Nat → Int32
  | 0 => 61
  | i + 1 => rrP g u ft (nI i) (rdP g u ft i)
section RRO
variable {g : Int32 → Int32} {u p num o : Int32} {ft : Int64}
theorem rs0_of (h : ¬ rrS g u ft num p = 0) : ¬ rs0 g u p = 0 := fun q => h (by unfold rrS; rw [if_pos q])
theorem rrKl_of (h : ¬ rrS g u ft num p = 0) : rrKl g u ft num p o = rrKl g u ft num p 0 := by unfold rrKl; rw [if_neg (rs0_of h), if_neg (rs0_of h)]
theorem rrKp_of (h : ¬ rrS g u ft num p = 0) : rrKp g u ft num p o = rrKp g u ft num p 0 := by unfold rrKp; rw [if_neg (rs0_of h), if_neg (rs0_of h)]
theorem rrVl_of (h : ¬ rrS g u ft num p = 0) : rrVl g u ft num p o = rrVl g u ft num p 0 := by unfold rrVl; rw [if_neg (rs0_of h), if_neg (rs0_of h)]
theorem rrVp_of (h : ¬ rrS g u ft num p = 0) : rrVp g u ft num p o = rrVp g u ft num p 0 := by unfold rrVp; rw [if_neg (rs0_of h), if_neg (rs0_of h)]
end RRO
