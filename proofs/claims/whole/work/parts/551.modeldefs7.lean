theorem mfd_or {q : Int32 × Int32} {g w : Int32} (h : q.1 = 0 ∨ q.1 = 2) : (mfd q g w).1 = 0 ∨ (mfd q g w).1 = 2 := by
  unfold mfd
  split
  · split
    · exact Or.inr rfl
    · exact h
  · exact h
theorem mfd_0 {q : Int32 × Int32} {g w : Int32} (h : (mfd q g w).1 = 0) : q.1 = 0 ∧ ¬ g = 0 := by
  unfold mfd at h
  by_cases c : q.1 = 0
  · rw [if_pos c] at h
    by_cases c2 : g = 0
    · rw [if_pos c2] at h; exact absurd (show (2 : Int32) = 0 from h) (by decide)
    · exact ⟨c, c2⟩
  · rw [if_neg c] at h; exact absurd h c
theorem mfd_q {q : Int32 × Int32} {g w : Int32} (h : q.1 = 0) (h2 : ¬ g = 0) : mfd q g w = q := by
  unfold mfd
  rw [if_pos h, if_neg h2]
theorem mfd_n {q : Int32 × Int32} {g w : Int32} (h : ¬ q.1 = 0) : mfd q g w = q := by
  unfold mfd
  rw [if_neg h]
theorem mfd_w {q : Int32 × Int32} {g w : Int32} (h : q.1 = 0) (h2 : g = 0) : mfd q g w = (2, w) := by
  unfold mfd
  rw [if_pos h, if_pos h2]
section HF
variable {t : Nat → Int32} {q : Int32}
theorem hf_or : (hf11 t 0 q).1 = 0 ∨ (hf11 t 0 q).1 = 2 := by
  unfold hf11 hf10 hf9 hf8 hf7 hf6 hf5 hf4 hf3 hf2 hf1
  exact mfd_or (mfd_or (mfd_or (mfd_or (mfd_or (mfd_or (mfd_or (mfd_or (mfd_or (mfd_or (mfd_or (Or.inl rfl)))))))))))
theorem hg_1 {g : Int32} (h : g = 0 ∨ g = 1) (h2 : ¬ g = 0) : g = 1 := h.resolve_left h2
theorem hf_all (h : (hf11 t 0 q).1 = 0) : hg0 t = 1 ∧ hg1 t = 1 ∧ hg2 t = 1 ∧ hg3 t = 1 ∧ hg4 t = 1 ∧ hg5 t = 1 ∧ hg6 t = 1 ∧ hg7 t = 1 ∧ hg8 t = 1 ∧ hg9 t = 1 ∧ hg10 t = 1 := by
  unfold hf11 at h
  obtain ⟨h, k10⟩ := mfd_0 h
  unfold hf10 at h
  obtain ⟨h, k9⟩ := mfd_0 h
  unfold hf9 at h
  obtain ⟨h, k8⟩ := mfd_0 h
  unfold hf8 at h
  obtain ⟨h, k7⟩ := mfd_0 h
  unfold hf7 at h
  obtain ⟨h, k6⟩ := mfd_0 h
  unfold hf6 at h
  obtain ⟨h, k5⟩ := mfd_0 h
  unfold hf5 at h
  obtain ⟨h, k4⟩ := mfd_0 h
  unfold hf4 at h
  obtain ⟨h, k3⟩ := mfd_0 h
  unfold hf3 at h
  obtain ⟨h, k2⟩ := mfd_0 h
  unfold hf2 at h
  obtain ⟨h, k1⟩ := mfd_0 h
  unfold hf1 at h
  obtain ⟨h, k0⟩ := mfd_0 h
  exact ⟨hg_1 (hg0_01 t) k0, hg_1 (hg1_01 t) k1, hg_1 (hg2_01 t) k2, hg_1 (hg3_01 t) k3, hg_1 (hg4_01 t) k4, hg_1 (hg5_01 t) k5, hg_1 (hg6_01 t) k6, hg_1 (hg7_01 t) k7, hg_1 (hg8_01 t) k8, hg_1 (hg9_01 t) k9, hg_1 (hg10_01 t) k10⟩
theorem mgd_1 (h : (hf11 t 0 q).1 = 0) : mgd t = 1 := by
  obtain ⟨k0, k1, k2, k3, k4, k5, k6, k7, k8, k9, k10⟩ := hf_all h
  unfold mgd
  rw [k0, k1, k2, k3, k4, k5, k6, k7, k8, k9, k10]
  decide
theorem mhA_0 {k : Nat} (h : ¬ 0 < mhA t k 0 q) : (hf11 t 0 q).1 = 0 := by
  rcases hf_or (t := t) (q := q) with c | c
  · exact c
  · exfalso
    unfold mhA at h
    rw [c] at h
    split at h
    · exact h (by decide)
    · split at h
      · exact h (by decide)
      · exact h (by decide)
theorem mh_cn {k : Nat} (h : ¬ 0 < mhA t k 0 q) : mnum t 57 4 = lN (mnum t 57 4).toNatClampNeg ∧ (mnum t 57 4).toNatClampNeg ≤ 1000 := by
  obtain ⟨_, _, _, _, _, _, _, _, _, _, k10⟩ := hf_all (mhA_0 h)
  unfold hg10 at k10
  generalize mnum t 57 4 = x at *
  by_cases h1 : x < 1
  · rw [if_pos h1] at k10; exact absurd k10 (by decide)
  rw [if_neg h1] at k10
  by_cases h2 : 1000 < x
  · rw [if_pos h2] at k10; exact absurd k10 (by decide)
  have e1 : (1 : Int64).toInt = 1 := by decide
  have e2 : (1000 : Int64).toInt = 1000 := by decide
  have e0 : (0 : Int64).toInt = 0 := by decide
  rw [Int64.lt_iff_toInt_lt, e1] at h1
  rw [Int64.lt_iff_toInt_lt, e2] at h2
  have h3 : (0 : Int64) ≤ x := by rw [Int64.le_iff_toInt_le, e0]; omega
  refine ⟨(Int64.ofNat_toNatClampNeg x h3).symm, ?_⟩
  show x.toInt.toNat ≤ 1000
  omega
end HF
theorem lc_le {v : Int64} {cn i : Nat} (hv : v = lN cn) (hc : cn ≤ 1000) (hi : i ≤ cn) : v ≤ (nI i).toInt64 ↔ cn ≤ i := by
  rw [hv, nI_l (by omega), pk_lLE (by omega) (by omega)]
section MRX
variable {t : Nat → Int32} {k a : Nat} {ft o : Int64} {num : Int32}
theorem ms0_of (h : ¬ mrS t k ft num a = 0) : ¬ ms0 t k a = 0 := fun q => h (by unfold mrS; rw [if_pos q])
theorem mrT_of (h : ¬ mrS t k ft num a = 0) : mrT t k ft a o = mrT t k ft a 0 := by
  have h2 := ms0_of h
  unfold mrT
  rw [if_neg h2, if_neg h2]
theorem men_in (hk : k ≤ 16384) (ha : a ≤ 16390) (h : ¬ ms0 t k a = 0) : ∃ n, (mq t k a).1 = lN n ∧ (mq t k a).2.1 + n ≤ k ∧ men t k a = nI ((mq t k a).2.1 + n) ∧ ¬ (mq t k a).2.2 = 0 := by
  have hb := (mr_bounds (t := t) (ft := 0) (num := 0) hk ha).1
  unfold men
  unfold ms0 at h
  generalize mq t k a = q at *
  obtain ⟨v, b, r⟩ := q
  by_cases c1 : r = 0
  · rw [if_pos c1] at h; exact absurd rfl h
  rw [if_neg c1] at h
  by_cases c2 : v < 0
  · rw [if_pos c2] at h; exact absurd rfl h
  rw [if_neg c2] at h
  by_cases c3 : (nI k - nI b).toInt64 < v
  · rw [if_pos c3] at h; exact absurd rfl h
  obtain ⟨n, hn, rfl⟩ := pk_lOf c2
  have hb : b ≤ 16390 := hb
  rw [Int64.lt_iff_toInt_lt, Int32.toInt_toInt64, pk_sub_toInt (by omega) (by omega), pk_lT hn] at c3
  refine ⟨n, rfl, by show b + n ≤ k; omega, ?_, c1⟩
  show nI b + (lN n).toInt32 = nI (b + n)
  rw [lN_i, nI_add]
theorem mrA_le (hk : k ≤ 16384) (ha : a ≤ 16390) (h : ¬ mrS t k ft num a = 0) : mrA t k ft num a ≤ k := by
  have h2 := ms0_of h
  obtain ⟨n, _, hn, he, _⟩ := men_in hk ha h2
  have hb := (mr_bounds (t := t) (ft := ft) (num := num) hk ha).2.2.2.2.2.2
  unfold mrS at h
  unfold mrA
  rw [if_neg h2] at h ⊢
  by_cases c : (mz_ t k ft num a).2 = 0
  · rw [if_pos c] at h; exact absurd rfl h
  rw [if_neg c] at h
  by_cases c2 : nI (mz_ t k ft num a).1 = men t k a
  · rw [he, nI_eq (by omega) (by omega)] at c2
    omega
  · rw [if_neg c2] at h; exact absurd rfl h
end MRX
def mjr (t : Nat → Int32) (k : Nat) (o : Int32 × Int32) (ft gt : Int64) : Nat → Nat → Nat → Int64 → Int32 × Int32
  | 0, _, a, gr => if nI k ≤ nI a then (if gr = gt then o else (5, 35)) else (4, nI a)
  | n + 1, i, a, gr => if mrS t k ft (nI i) a = 0 then (4, nI a) else mjr t k o ft gt n (i + 1) (mrA t k ft (nI i) a) (if mrT t k ft a 0 ≤ gr then gr else mrT t k ft a 0)
section MJR
variable {t : Nat → Int32} {k a i cn : Nat} {o : Int32 × Int32} {ft gt gr : Int64}
theorem mjr_go (h : i < cn) (hs : ¬ mrS t k ft (nI i) a = 0) : mjr t k o ft gt (cn - i) i a gr = mjr t k o ft gt (cn - (i + 1)) (i + 1) (mrA t k ft (nI i) a) (if mrT t k ft a 0 ≤ gr then gr else mrT t k ft a 0) := by
  rw [show cn - i = (cn - (i + 1)) + 1 by omega, mjr, if_neg hs]
theorem mjr_bad (h : i < cn) (hs : mrS t k ft (nI i) a = 0) : mjr t k o ft gt (cn - i) i a gr = (4, nI a) := by
  rw [show cn - i = (cn - (i + 1)) + 1 by omega, mjr, if_pos hs]
theorem mjr_end {r : Nat} (h : r = 0) : mjr t k o ft gt r i a gr = if nI k ≤ nI a then (if gr = gt then o else (5, 35)) else (4, nI a) := by subst h; rfl
end MJR
/-- read of the reference -/
def mrd (t : Nat → Int32) (k : Nat) : Int32 × Int32 :=
  if nI k < 61 then (1, 8) else if mnum t 8 4 = (nI k - 12).toInt64 then
    (if mhA t k 0 (-1) ≤ 0 then mjr t k (mhA t k 0 (-1), mhQ t k 0 (-1)) (mnum t 27 8) (mnum t 35 8) (mnum t 57 4).toNatClampNeg 0 61 0 else (mhA t k 0 (-1), mhQ t k 0 (-1)))
  else (1, 8)
