/-! the reference: head, told -/
theorem sw_ne {x v : Int32} (h : ¬ x = v) : ¬ x.toInt = v.toInt := fun q => h (Int32.toInt_inj.mp q)
theorem sw_out4 {x : Int32} (h0 : ¬ x = 0) (h1 : ¬ x = 1) (h2 : ¬ x = 2) (h3 : ¬ x = 3) (h4 : ¬ x = 4) : x.toInt < 0 ∨ 4 < x.toInt := by
  have k0 : ¬ x.toInt = 0 := sw_ne h0
  have k1 : ¬ x.toInt = 1 := sw_ne h1
  have k2 : ¬ x.toInt = 2 := sw_ne h2
  have k3 : ¬ x.toInt = 3 := sw_ne h3
  have k4 : ¬ x.toInt = 4 := sw_ne h4
  omega
theorem sw_out5 {x : Int32} (h0 : ¬ x = 0) (h1 : ¬ x = 1) (h2 : ¬ x = 2) (h3 : ¬ x = 3) (h4 : ¬ x = 4) (h5 : ¬ x = 5) : x.toInt < 0 ∨ 5 < x.toInt := by
  have k0 := sw_out4 h0 h1 h2 h3 h4
  have k5 : ¬ x.toInt = 5 := sw_ne h5
  omega
def mhd (t : Nat → Int32) (x : Int32) : Int64 := if x = 0 then mnum t 27 8 else if x = 1 then mnum t 35 8 else if x = 2 then mnum t 43 8 else if x = 3 then mnum t 51 2 else if x = 4 then mnum t 53 4 else mnum t 57 4
def mdP (t : Nat → Int32) (k : Nat) (ft : Int64) : Nat → Nat
  | 0 => 61
  | i + 1 => mrA t k ft (nI i) (mdP t k ft i)
/-- where a record's key, and its value, begins -/
def mKn (t : Nat → Int32) (k : Nat) (ft : Int64) (num : Int32) (a : Nat) : Nat := (mv t k (mc_ t k ft num a).1 (mc_ t k ft num a).2).2.1
def mVn (t : Nat → Int32) (k : Nat) (ft : Int64) (num : Int32) (a : Nat) : Nat := (mv t k (mk_ t k ft num a).1 (mk_ t k ft num a).2).2.1
section MRY
variable {t : Nat → Int32} {k a : Nat} {ft o : Int64} {num q : Int32}
theorem mrKa_of (h : ¬ mrS t k ft num a = 0) : mrKa t k ft num a q = mrKa t k ft num a 0 := by
  have h2 := ms0_of h
  unfold mrKa
  rw [if_neg h2, if_neg h2]
theorem mrKb_of (h : ¬ mrS t k ft num a = 0) : mrKb t k ft num a o = mrKb t k ft num a 0 := by
  have h2 := ms0_of h
  unfold mrKb
  rw [if_neg h2, if_neg h2]
theorem mrVa_of (h : ¬ mrS t k ft num a = 0) : mrVa t k ft num a q = mrVa t k ft num a 0 := by
  have h2 := ms0_of h
  unfold mrVa
  rw [if_neg h2, if_neg h2]
theorem mrVb_of (h : ¬ mrS t k ft num a = 0) : mrVb t k ft num a o = mrVb t k ft num a 0 := by
  have h2 := ms0_of h
  unfold mrVb
  rw [if_neg h2, if_neg h2]
theorem mv_r {r : Int32} (h : ¬ (mv t k a r).2.2 = 0) : ¬ r = 0 := fun c => h (by unfold mv; rw [if_pos c])
theorem m4s_r {r : Int32} (h : ¬ m4s t k a r = 0) : ¬ (mv t k a r).2.2 = 0 := fun c => h (by unfold m4s; rw [if_pos c])
theorem mz_r (h : ¬ mrS t k ft num a = 0) : ¬ (mz_ t k ft num a).2 = 0 := fun c => h (by unfold mrS; rw [if_neg (ms0_of h), if_pos c])
theorem mw_r (h : ¬ mrS t k ft num a = 0) : ¬ (mw t k ft num a).2 = 0 := by
  have h1 := mz_r h
  unfold mz_ m1 at h1
  generalize (mw t k ft num a).2 = z at *
  intro c
  apply h1
  show (if z = 0 then (0 : Int32) else _) = 0
  rw [if_pos c]
theorem mk_2 : (mk_ t k ft num a).2 = m4s t k (mc_ t k ft num a).1 (mc_ t k ft num a).2 := by unfold mk_; with_reducible rfl
theorem mw_2 : (mw t k ft num a).2 = m4s t k (mk_ t k ft num a).1 (mk_ t k ft num a).2 := by unfold mw; with_reducible rfl
theorem mk_r (h : ¬ mrS t k ft num a = 0) : ¬ (mk_ t k ft num a).2 = 0 := by
  have h1 := mw_r h
  rw [mw_2] at h1
  exact mv_r (m4s_r h1)
theorem mv_in {r : Int32} (h : ¬ (mv t k a r).2.2 = 0) : a < k := by
  rcases Nat.lt_or_ge a k with c | c
  · exact c
  · exfalso
    apply h
    unfold mv
    rw [if_neg (mv_r h), show rvM t k 11 0 0 a = (0, a, 0) by rw [show (11 : Nat) = 10 + 1 from rfl, rvM, if_pos c]]
/-- where n of them are wanted and all are there -/
theorem m4_at {r : Int32} (hk : k ≤ 16384) (ha : a ≤ 20000) (h : ¬ m4s t k a r = 0) : nI (m4a t k a r) - (if (mv t k a r).1 ≤ 0 then 0 else if m4s t k a r = 0 then 0 else (mv t k a r).1.toInt32) = nI (mv t k a r).2.1 ∧ (mv t k a r).2.1 + st8 (mv t k a r).1 ≤ k := by
  have hak := mv_in (m4s_r h)
  have hm := mv_le (t := t) (k := k) (a := a) (r := r)
  unfold m4a
  rw [if_neg h]
  by_cases c2 : (mv t k a r).1 ≤ 0
  · rw [if_pos c2, if_pos c2]
    refine ⟨pk_sub (b := 0) (Nat.zero_le _), ?_⟩
    have hz : st8 (mv t k a r).1 = 0 := by
      generalize (mv t k a r).1 = v at *
      have e0 : (0 : Int64).toInt = 0 := by decide
      rw [Int64.le_iff_toInt_le, e0] at c2
      unfold st8
      show min 8 v.toInt.toNat = 0
      omega
    rw [hz]
    omega
  · rw [if_neg c2, if_neg c2, if_neg h]
    obtain ⟨n, hn, h1, h2⟩ := m4s_in hk ha h c2
    rw [hn, lN_i, nI_clamp (by omega), pk_sub (by omega), show (mv t k a r).2.1 + n - n = (mv t k a r).2.1 by omega]
    refine ⟨rfl, ?_⟩
    have : st8 (lN n) ≤ n := by
      unfold st8
      have : (lN n).toNatClampNeg = n := by
        show (lN n).toInt.toNat = n
        rw [pk_lT (by omega)]
        rfl
      omega
    omega
theorem mrKa_eq (hk : k ≤ 16384) (ha : a ≤ 16390) (h : ¬ mrS t k ft num a = 0) : mrKa t k ft num a 0 = nI (mKn t k ft num a) ∧ mKn t k ft num a + st8 (mrKb t k ft num a 0) ≤ 16384 := by
  have h2 := ms0_of h
  have h3 := mk_r h
  obtain ⟨_, _, _, b3, b4, _⟩ := mr_bounds (t := t) (ft := ft) (num := num) hk ha
  unfold mrKa mrKb mKn
  rw [if_neg h2, if_neg h2, mk_1, mk_2]
  rw [mk_2] at h3
  obtain ⟨e1, e2⟩ := m4_at hk (by omega) h3
  exact ⟨e1, by omega⟩
theorem mrVa_eq (hk : k ≤ 16384) (ha : a ≤ 16390) (h : ¬ mrS t k ft num a = 0) : mrVa t k ft num a 0 = nI (mVn t k ft num a) ∧ mVn t k ft num a + st8 (mrVb t k ft num a 0) ≤ 16384 := by
  have h2 := ms0_of h
  have h3 := mw_r h
  obtain ⟨_, _, _, _, b4, _⟩ := mr_bounds (t := t) (ft := ft) (num := num) hk ha
  unfold mrVa mrVb mVn
  rw [if_neg h2, if_neg h2, mw_1, mw_2]
  rw [mw_2] at h3
  obtain ⟨e1, e2⟩ := m4_at hk (by omega) h3
  exact ⟨e1, by omega⟩
end MRY
/-- told of the reference -/
def mtd (t : Nat → Int32) (k q : Nat) (x : Int32) : Int64 :=
  if x = 0 then (nI (mdP t k (mnum t 27 8) q)).toInt64 else if x = 1 then mrT t k (mnum t 27 8) (mdP t k (mnum t 27 8) q) 0
  else if x = 2 then mrKb t k (mnum t 27 8) (nI q) (mdP t k (mnum t 27 8) q) 0
  else if x = 3 then mnl t 0 (mKn t k (mnum t 27 8) (nI q) (mdP t k (mnum t 27 8) q)) (st8 (mrKb t k (mnum t 27 8) (nI q) (mdP t k (mnum t 27 8) q) 0))
  else if x = 4 then mrVb t k (mnum t 27 8) (nI q) (mdP t k (mnum t 27 8) q) 0
  else mnl t 0 (mVn t k (mnum t 27 8) (nI q) (mdP t k (mnum t 27 8) q)) (st8 (mrVb t k (mnum t 27 8) (nI q) (mdP t k (mnum t 27 8) q) 0))
theorem mdP_le {t : Nat → Int32} {k q : Nat} {ft : Int64} (hk : k ≤ 16384) (hs : ∀ i, i ≤ q → ¬ mrS t k ft (nI i) (mdP t k ft i) = 0) : ∀ i, i ≤ q + 1 → mdP t k ft i ≤ 16390 := by
  intro i
  induction i with
  | zero => intro _; unfold mdP; omega
  | succ i ih =>
    intro h
    have := mrA_le hk (ih (by omega)) (hs i (by omega))
    unfold mdP
    omega
