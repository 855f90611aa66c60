theorem mv_le {t : Nat → Int32} {k a : Nat} {r : Int32} : (mv t k a r).2.1 ≤ max a k := by
  unfold mv
  split
  · exact Nat.le_max_left _ _
  · exact rvM_k 11 0 0 a
theorem m4s_in {t : Nat → Int32} {k a : Nat} {r : Int32} (hk : k ≤ 16384) (ha : a ≤ 20000) (h : ¬ m4s t k a r = 0) (h0 : ¬ (mv t k a r).1 ≤ 0) : ∃ n, (mv t k a r).1 = lN n ∧ n ≤ k ∧ (mv t k a r).2.1 + n ≤ k := by
  have hm := mv_le (t := t) (k := k) (a := a) (r := r)
  unfold m4s at h
  generalize (mv t k a r).1 = v at *
  generalize (mv t k a r).2.1 = b at *
  generalize (mv t k a r).2.2 = q at *
  by_cases c1 : q = 0
  · rw [if_pos c1] at h; exact absurd rfl h
  rw [if_neg c1] at h
  by_cases c2 : v < -1
  · rw [if_pos c2] at h; exact absurd rfl h
  rw [if_neg c2] at h
  by_cases c3 : (nI k - nI b).toInt64 < v
  · rw [if_pos c3] at h; exact absurd rfl h
  have e0 : (0 : Int64).toInt = 0 := by decide
  have hv : ¬ v < 0 := fun q => h0 (by rw [Int64.le_iff_toInt_le, e0]; rw [Int64.lt_iff_toInt_lt, e0] at q; omega)
  obtain ⟨n, hn, rfl⟩ := pk_lOf hv
  have hn0 : 0 < n := by
    rcases Nat.eq_zero_or_pos n with z | z
    · exact absurd (by rw [z]; decide) h0
    · exact z
  rw [Int64.lt_iff_toInt_lt, Int32.toInt_toInt64, pk_sub_toInt (by omega) (by omega), pk_lT hn] at c3
  exact ⟨n, rfl, by omega, by omega⟩
theorem m4a_eq {t : Nat → Int32} {k a : Nat} {r : Int32} (hk : k ≤ 16384) (ha : a ≤ 20000) : nI (mv t k a r).2.1 + (if m4s t k a r = 0 then 0 else if (mv t k a r).1 ≤ 0 then 0 else (mv t k a r).1.toInt32) = nI (m4a t k a r) := by
  unfold m4a
  by_cases c1 : m4s t k a r = 0
  · rw [if_pos c1, if_pos c1]; exact nI_add _ 0
  · rw [if_neg c1, if_neg c1]
    by_cases c2 : (mv t k a r).1 ≤ 0
    · rw [if_pos c2, if_pos c2]; exact nI_add _ 0
    · rw [if_neg c2, if_neg c2]
      obtain ⟨n, hn, h1, h2⟩ := m4s_in hk ha c1 c2
      rw [hn, lN_i, nI_clamp (by omega), nI_add]
theorem m4a_le {t : Nat → Int32} {k a : Nat} {r : Int32} (hk : k ≤ 16384) (ha : a ≤ 20000) : m4a t k a r ≤ max a k := by
  have hm := mv_le (t := t) (k := k) (a := a) (r := r)
  unfold m4a
  by_cases c1 : m4s t k a r = 0
  · rw [if_pos c1]; exact hm
  · rw [if_neg c1]
    by_cases c2 : (mv t k a r).1 ≤ 0
    · rw [if_pos c2]; exact hm
    · rw [if_neg c2]
      obtain ⟨n, hn, h1, h2⟩ := m4s_in hk ha c1 c2
      rw [hn, lN_i, nI_clamp (by omega)]
      omega
