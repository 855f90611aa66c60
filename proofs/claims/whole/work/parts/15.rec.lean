/-! PURE: a record read. c1 .. c4: the class's steps (place, sound), m1 .. m4: the reference's (at, right) -/
def c1 (g : Int32 → Int32) (e p s : Int32) : Int32 × Int32 := ((rbC g e p s).2.1, exC (rbC g e p s).2.2 (if (rbC g e p s).1 = 0 then 1 else 0))
def cv (g : Int32 → Int32) (e p s : Int32) : Int64 × Int32 × Int32 := rvC g e 10 0 0 p s
def c2 (g : Int32 → Int32) (e : Int32) (ft : Int64) (p s : Int32) : Int32 × Int32 := ((cv g e p s).2.1, exC (cv g e p s).2.2 (if (cv g e p s).1 < -ft then 0 else if 1125899906842624 - ft < (cv g e p s).1 then 0 else 1))
def c3 (g : Int32 → Int32) (e num p s : Int32) : Int32 × Int32 := ((cv g e p s).2.1, exC (cv g e p s).2.2 (if (cv g e p s).1 = num.toInt64 then 1 else 0))
/-- Reader.readPart: sound, length, place behind it -/
def c4s (g : Int32 → Int32) (e p s : Int32) : Int32 := exC (cv g e p s).2.2 (if (cv g e p s).1 < -1 then 0 else if (e - (cv g e p s).2.1).toInt64 < (cv g e p s).1 then 0 else 1)
def c4l (g : Int32 → Int32) (e p s : Int32) : Int32 := if c4s g e p s = 0 then -1 else (cv g e p s).1.toInt32
def c4p (g : Int32 → Int32) (e p s : Int32) : Int32 := (cv g e p s).2.1 + (if c4l g e p s < 0 then 0 else c4l g e p s)
def m1 (t : Nat → Int32) (k a : Nat) (r : Int32) : Nat × Int32 := (a + 1, if r = 0 then 0 else if k ≤ a then 0 else if t a = 0 then 1 else 0)
def mv (t : Nat → Int32) (k a : Nat) (r : Int32) : Int64 × Nat × Int32 := if r = 0 then (0, a, 0) else (mUF (rvM t k 11 0 0 a).1, (rvM t k 11 0 0 a).2.1, (rvM t k 11 0 0 a).2.2)
def m2 (t : Nat → Int32) (k : Nat) (ft : Int64) (a : Nat) (r : Int32) : Nat × Int32 := ((mv t k a r).2.1, if (mv t k a r).2.2 = 0 then 0 else if ft + (mv t k a r).1 < 0 then 0 else if 1125899906842624 < ft + (mv t k a r).1 then 0 else 1)
def m3 (t : Nat → Int32) (k : Nat) (num : Int32) (a : Nat) (r : Int32) : Nat × Int32 := ((mv t k a r).2.1, if (mv t k a r).1 = num.toInt64 then (if (mv t k a r).2.2 = 0 then 0 else 1) else 0)
def m4s (t : Nat → Int32) (k a : Nat) (r : Int32) : Int32 := if (mv t k a r).2.2 = 0 then 0 else if (mv t k a r).1 < -1 then 0 else if (nI k - nI (mv t k a r).2.1).toInt64 < (mv t k a r).1 then 0 else 1
def m4a (t : Nat → Int32) (k a : Nat) (r : Int32) : Nat := (mv t k a r).2.1 + (if m4s t k a r = 0 then 0 else if (mv t k a r).1 ≤ 0 then 0 else (mv t k a r).1.toInt32.toNatClampNeg)
def rRel (lim : Nat) (p s : Int32) (a : Nat) (r : Int32) : Prop := (s = 1 ∧ r = 1 ∧ p = nI a ∧ a ≤ lim) ∨ (s = 0 ∧ (r = 0 ∨ lim < a))
theorem ex0 (h : Int32) : exC 0 h = 0 := rfl
theorem ex1_1 : exC 1 1 = 1 := rfl
theorem ex1_0 : exC 1 0 = 0 := rfl
section RR
variable {f t : Nat → Int32} {B : Nat → Nat} {k lim : Nat}
theorem c1_rel (hB : pB f B k) (hT : pT t B k) (hk : k < 2 ^ 30) (hlim : lim ≤ k) {p s r : Int32} {a : Nat} (h : rRel lim p s a r) : rRel lim (c1 (tb f k) (nI lim) p s).1 (c1 (tb f k) (nI lim) p s).2 (m1 t k a r).1 (m1 t k a r).2 := by
  rcases h with ⟨rfl, rfl, rfl, ha⟩ | ⟨rfl, h⟩
  · by_cases c : a < lim
    · have e1 : rbC (tb f k) (nI lim) (nI a) 1 = (nI (B a), nI (a + 1), 1) := by
        unfold rbC
        rw [if_pos (nI_lt c (by omega)), tb_B hB (by omega) (by omega), nI_1]
      have hb := (hT a (by omega))
      unfold c1 m1
      rw [e1]
      by_cases z : B a = 0
      · refine Or.inl ⟨?_, ?_, rfl, ?_⟩
        · show exC 1 (if nI (B a) = 0 then 1 else 0) = 1
          rw [z, if_pos nI_0]; rfl
        · show (if (1 : Int32) = 0 then (0 : Int32) else if k ≤ a then 0 else if t a = 0 then 1 else 0) = 1
          rw [if_neg (by decide), if_neg (by omega), hb.2, z, if_pos nI_0]
        · show a + 1 ≤ lim
          omega
      · refine Or.inr ⟨?_, Or.inl ?_⟩
        · show exC 1 (if nI (B a) = 0 then 1 else 0) = 0
          rw [if_neg (nI_ne0 (by omega) (by omega))]; rfl
        · show (if (1 : Int32) = 0 then (0 : Int32) else if k ≤ a then 0 else if t a = 0 then 1 else 0) = 0
          rw [if_neg (by decide), if_neg (by omega), hb.2, if_neg (nI_ne0 (by omega) (by omega))]
    · refine Or.inr ⟨?_, Or.inr ?_⟩
      · have e1 : rbC (tb f k) (nI lim) (nI a) 1 = (0, nI a, 0) := by
          unfold rbC
          rw [if_neg (nI_nlt (by omega) (by omega))]
        show exC (rbC (tb f k) (nI lim) (nI a) 1).2.2 _ = 0
        rw [e1]; rfl
      · show lim < a + 1
        omega
  · refine Or.inr ⟨?_, ?_⟩
    · have h : (rbC (tb f k) (nI lim) p 0).2.2 = 0 := by unfold rbC; split <;> rfl
      show exC (rbC (tb f k) (nI lim) p 0).2.2 _ = 0
      rw [h]; rfl
    · rcases h with rfl | h
      · exact Or.inl rfl
      · exact Or.inr (Nat.lt_succ_of_lt h)
/-- a varint: both read the same, or both are out -/
def cvRel (lim : Nat) (C : Int64 × Int32 × Int32) (M : Int64 × Nat × Int32) : Prop :=
  (C.2.2 = 1 ∧ M.2.2 = 1 ∧ C.1 = M.1 ∧ C.2.1 = nI M.2.1 ∧ M.2.1 ≤ lim) ∨ (C.2.2 = 0 ∧ (M.2.2 = 0 ∨ lim < M.2.1))
theorem cv_rel (hB : pB f B k) (hT : pT t B k) (hk : k < 2 ^ 30) (hlim : lim ≤ k) {p s r : Int32} {a : Nat} (h : rRel lim p s a r) : cvRel lim (cv (tb f k) (nI lim) p s) (mv t k a r) := by
  rcases h with ⟨rfl, rfl, rfl, ha⟩ | ⟨rfl, h⟩
  · have h1 := rv_rel hB hT hk hlim 10 0 0 a rfl ha
    unfold cv mv
    rw [if_neg (by decide)]
    rcases h1 with ⟨h1, h2, h3, h4, h5⟩ | ⟨h1, h2⟩
    · exact Or.inl ⟨h1, h2, h3, h4, h5⟩
    · exact Or.inr ⟨h1, h2⟩
  · refine Or.inr ⟨rvC_s0 10 0 0 p, ?_⟩
    unfold mv
    by_cases c : r = 0
    · rw [if_pos c]; exact Or.inl rfl
    · rw [if_neg c]
      rcases h with h | h
      · exact absurd h c
      · exact Or.inr (Nat.lt_of_lt_of_le h (rvM_le ..))
theorem time_ok {ft v : Int64} (h0 : 0 ≤ ft) (h1 : ft ≤ 1125899906842624) : (if v < -ft then (0 : Int32) else if 1125899906842624 - ft < v then 0 else 1) = (if ft + v < 0 then 0 else if 1125899906842624 < ft + v then 0 else 1) := by
  have eT : (1125899906842624 : Int64).toInt = 1125899906842624 := by decide
  have e0 : (0 : Int64).toInt = 0 := by decide
  rw [Int64.le_iff_toInt_le, e0] at h0
  rw [Int64.le_iff_toInt_le, eT] at h1
  have hv1 := v.toInt_lt
  have hv0 := v.le_toInt
  have en : (-ft).toInt = -ft.toInt := by
    rw [Int64.toInt_neg]
    exact Int.bmod_eq_of_le (by omega) (by omega)
  have es : (1125899906842624 - ft).toInt = 1125899906842624 - ft.toInt := by
    rw [Int64.toInt_sub, eT]
    exact Int.bmod_eq_of_le (by omega) (by omega)
  have ea : (ft + v).toInt = (ft.toInt + v.toInt).bmod (2 ^ 64) := Int64.toInt_add ..
  simp only [Int64.lt_iff_toInt_lt, en, es, ea, eT, e0]
  by_cases c : ft.toInt + v.toInt < 2 ^ 63
  · rw [Int.bmod_eq_of_le (by omega) (by omega)]
    by_cases c1 : v.toInt < -ft.toInt
    · rw [if_pos c1, if_pos (by omega)]
    · rw [if_neg c1, if_neg (show ¬ ft.toInt + v.toInt < 0 by omega)]
      by_cases c2 : 1125899906842624 - ft.toInt < v.toInt
      · rw [if_pos c2, if_pos (by omega)]
      · rw [if_neg c2, if_neg (by omega)]
  · have eb : (ft.toInt + v.toInt).bmod (2 ^ 64) = ft.toInt + v.toInt - 2 ^ 64 := by
      rw [Int.bmod_eq_emod]
      simp only [Nat.reducePow, Int.reducePow] at *
      split <;> omega
    rw [eb, if_neg (by omega), if_pos (by omega), if_pos (by omega)]
theorem c2_rel (hB : pB f B k) (hT : pT t B k) (hk : k < 2 ^ 30) (hlim : lim ≤ k) {ft : Int64} (h0 : 0 ≤ ft) (h1 : ft ≤ 1125899906842624) {p s r : Int32} {a : Nat} (h : rRel lim p s a r) : rRel lim (c2 (tb f k) (nI lim) ft p s).1 (c2 (tb f k) (nI lim) ft p s).2 (m2 t k ft a r).1 (m2 t k ft a r).2 := by
  unfold c2 m2
  rcases cv_rel hB hT hk hlim h with ⟨g1, g2, g3, g4, g5⟩ | ⟨g1, g2⟩
  · rw [g1, g2, g3, time_ok h0 h1, if_neg (show ¬ (1 : Int32) = 0 by decide)]
    by_cases c : (if ft + (mv t k a r).1 < 0 then (0 : Int32) else if 1125899906842624 < ft + (mv t k a r).1 then 0 else 1) = 0
    · exact Or.inr ⟨by show exC 1 _ = 0; rw [c]; rfl, Or.inl c⟩
    · have c2 : (if ft + (mv t k a r).1 < 0 then (0 : Int32) else if 1125899906842624 < ft + (mv t k a r).1 then 0 else 1) = 1 := by
        revert c
        repeat' split
        all_goals first | (intro _; rfl) | (intro h; exact absurd rfl h)
      exact Or.inl ⟨by show exC 1 _ = 1; rw [c2]; rfl, c2, g4, g5⟩
  · refine Or.inr ⟨by rw [g1]; rfl, ?_⟩
    rcases g2 with g2 | g2
    · exact Or.inl (by show (if _ then _ else _) = _; rw [if_pos g2])
    · exact Or.inr g2
theorem c3_rel (hB : pB f B k) (hT : pT t B k) (hk : k < 2 ^ 30) (hlim : lim ≤ k) {num p s r : Int32} {a : Nat} (h : rRel lim p s a r) : rRel lim (c3 (tb f k) (nI lim) num p s).1 (c3 (tb f k) (nI lim) num p s).2 (m3 t k num a r).1 (m3 t k num a r).2 := by
  unfold c3 m3
  rcases cv_rel hB hT hk hlim h with ⟨g1, g2, g3, g4, g5⟩ | ⟨g1, g2⟩
  · rw [g1, g2, g3]
    by_cases c : (mv t k a r).1 = num.toInt64
    · rw [if_pos c, if_pos c, if_neg (show ¬ (1 : Int32) = 0 by decide)]
      exact Or.inl ⟨rfl, rfl, g4, g5⟩
    · rw [if_neg c, if_neg c]
      exact Or.inr ⟨rfl, Or.inl rfl⟩
  · refine Or.inr ⟨by rw [g1]; rfl, ?_⟩
    rcases g2 with g2 | g2
    · refine Or.inl ?_
      show (if _ then (if _ then _ else _) else _) = _
      rw [g2]
      split <;> rfl
    · exact Or.inr g2
theorem sub_l {a b : Nat} (h : b ≤ a) (ha : a < 2 ^ 30) : (nI a - nI b).toInt64 = lN (a - b) := by rw [pk_sub h, nI_l (by omega)]
theorem sub_neg {a b : Nat} (h : a < b) (hb : b < 2 ^ 30) : (nI a - nI b).toInt64.toInt = (a : Int) - b := by
  rw [Int32.toInt_toInt64, pk_sub_toInt (by omega) hb]
theorem mv_k {a : Nat} {r : Int32} (ha : a ≤ k) : (mv t k a r).2.1 ≤ k := by
  unfold mv
  split
  · exact ha
  · have := rvM_k (t := t) (k := k) 11 0 0 a
    show (rvM t k 11 0 0 a).2.1 ≤ k
    omega
theorem c4_rel (hB : pB f B k) (hT : pT t B k) (hk : k < 2 ^ 30) (hlim : lim ≤ k) {p s r : Int32} {a : Nat} (h : rRel lim p s a r) :
    (c4s (tb f k) (nI lim) p s = 1 ∧ m4s t k a r = 1 ∧ c4p (tb f k) (nI lim) p s = nI (m4a t k a r) ∧ m4a t k a r ≤ lim ∧ (cv (tb f k) (nI lim) p s).2.1 = nI (mv t k a r).2.1 ∧ c4l (tb f k) (nI lim) p s = (mv t k a r).1.toInt32 ∧
      ((mv t k a r).1 = -1 ∨ ∃ n, (mv t k a r).1 = lN n ∧ (mv t k a r).2.1 + n ≤ lim) ∧ m4a t k a r = (mv t k a r).2.1 + (mv t k a r).1.toInt32.toNatClampNeg) ∨
    (c4s (tb f k) (nI lim) p s = 0 ∧ (m4s t k a r = 0 ∨ lim < m4a t k a r)) := by
  rcases cv_rel hB hT hk hlim h with ⟨g1, g2, g3, g4, g5⟩ | ⟨g1, g2⟩
  · have em1 : (-1 : Int64).toInt = -1 := by decide
    by_cases c : (mv t k a r).1 < -1
    · refine Or.inr ⟨?_, Or.inl ?_⟩
      · unfold c4s; rw [g1, g3, if_pos c]; rfl
      · unfold m4s; rw [g2, if_neg (by decide), if_pos c]
    · by_cases c2 : (mv t k a r).1 = -1
      · have k1 : ¬ (nI k - nI (mv t k a r).2.1).toInt64 < -1 := by
          rw [sub_l (by omega) (by omega), Int64.lt_iff_toInt_lt, pk_lT (by omega), em1]; omega
        have k2 : ¬ (nI lim - nI (mv t k a r).2.1).toInt64 < -1 := by
          rw [sub_l (by omega) (by omega), Int64.lt_iff_toInt_lt, pk_lT (by omega), em1]; omega
        have s1 : c4s (tb f k) (nI lim) p s = 1 := by unfold c4s; rw [g1, g3, g4, c2, if_neg (by decide), if_neg k2]; rfl
        have s2 : m4s t k a r = 1 := by unfold m4s; rw [g2, c2, if_neg (by decide), if_neg (by decide), if_neg k1]
        have l1 : c4l (tb f k) (nI lim) p s = -1 := by unfold c4l; rw [s1, if_neg (by decide), g3, c2]; decide
        have a1 : m4a t k a r = (mv t k a r).2.1 := by unfold m4a; rw [s2, c2, if_neg (by decide), if_pos (by decide)]; rfl
        refine Or.inl ⟨s1, s2, ?_, by omega, g4, by rw [l1, c2]; decide, Or.inl c2, by rw [a1, c2]; rfl⟩
        unfold c4p
        rw [l1, if_pos (by decide), g4, a1]
        exact nI_add _ 0
      · have hge : ¬ (mv t k a r).1 < 0 := by
          intro hlt
          rw [Int64.lt_iff_toInt_lt] at c hlt
          rw [em1] at c
          have e0 : (0 : Int64).toInt = 0 := by decide
          rw [e0] at hlt
          exact c2 (Int64.toInt.inj (by rw [em1]; omega))
        obtain ⟨n, hn, en⟩ := pk_lOf hge
        have kk : (nI k - nI (mv t k a r).2.1).toInt64 = lN (k - (mv t k a r).2.1) := sub_l (by omega) (by omega)
        have kl : (nI lim - nI (mv t k a r).2.1).toInt64 = lN (lim - (mv t k a r).2.1) := sub_l (by omega) (by omega)
        by_cases c3 : n ≤ lim - (mv t k a r).2.1
        · have s1 : c4s (tb f k) (nI lim) p s = 1 := by
            unfold c4s; rw [g1, g3, g4, if_neg c, kl, en, if_neg (by rw [pk_lLT (by omega) hn]; omega)]; rfl
          have s2 : m4s t k a r = 1 := by
            unfold m4s; rw [g2, if_neg (by decide), if_neg c, kk, en, if_neg (by rw [pk_lLT (by omega) hn]; omega)]
          have l1 : c4l (tb f k) (nI lim) p s = nI n := by unfold c4l; rw [s1, if_neg (by decide), g3, en, lN_i]
          have a1 : m4a t k a r = (mv t k a r).2.1 + n := by
            unfold m4a
            rw [s2, if_neg (by decide), en]
            by_cases z : n = 0
            · rw [z, if_pos (by decide)]
            · have e0 : (0 : Int64) = lN 0 := rfl
              rw [e0, if_neg (by rw [pk_lLE hn (by omega)]; omega), lN_i, nI_clamp (by omega)]
          refine Or.inl ⟨s1, s2, ?_, by omega, g4, by rw [l1, en, lN_i], Or.inr ⟨n, en, by omega⟩, by rw [a1, en, lN_i, nI_clamp (by omega)]⟩
          unfold c4p
          rw [l1, if_neg (nI_pos (by omega)), g4, a1, nI_add]
        · refine Or.inr ⟨?_, ?_⟩
          · unfold c4s; rw [g1, g3, g4, if_neg c, kl, en, if_pos (by rw [pk_lLT (by omega) hn]; omega)]; rfl
          · by_cases c4 : n ≤ k - (mv t k a r).2.1
            · refine Or.inr ?_
              have s2 : m4s t k a r = 1 := by
                unfold m4s; rw [g2, if_neg (by decide), if_neg c, kk, en, if_neg (by rw [pk_lLT (by omega) hn]; omega)]
              have e0 : (0 : Int64) = lN 0 := rfl
              unfold m4a
              rw [s2, if_neg (by decide), en, e0, if_neg (by rw [pk_lLE hn (by omega)]; omega), lN_i, nI_clamp (by omega)]
              omega
            · refine Or.inl ?_
              unfold m4s; rw [g2, if_neg (by decide), if_neg c, kk, en, if_pos (by rw [pk_lLT (by omega) hn]; omega)]
  · refine Or.inr ⟨?_, ?_⟩
    · unfold c4s; rw [g1]; rfl
    · rcases g2 with g2 | g2
      · refine Or.inl ?_
        unfold m4s; rw [if_pos g2]
      · refine Or.inr (Nat.lt_of_lt_of_le g2 ?_)
        unfold m4a
        exact Nat.le_add_right _ _
theorem c4_rRel {p s r : Int32} {a : Nat} (h : (c4s (tb f k) (nI lim) p s = 1 ∧ m4s t k a r = 1 ∧ c4p (tb f k) (nI lim) p s = nI (m4a t k a r) ∧ m4a t k a r ≤ lim ∧ (cv (tb f k) (nI lim) p s).2.1 = nI (mv t k a r).2.1 ∧ c4l (tb f k) (nI lim) p s = (mv t k a r).1.toInt32 ∧
      ((mv t k a r).1 = -1 ∨ ∃ n, (mv t k a r).1 = lN n ∧ (mv t k a r).2.1 + n ≤ lim) ∧ m4a t k a r = (mv t k a r).2.1 + (mv t k a r).1.toInt32.toNatClampNeg) ∨
    (c4s (tb f k) (nI lim) p s = 0 ∧ (m4s t k a r = 0 ∨ lim < m4a t k a r))) : rRel lim (c4p (tb f k) (nI lim) p s) (c4s (tb f k) (nI lim) p s) (m4a t k a r) (m4s t k a r) := by
  rcases h with ⟨h1, h2, h3, h4, -⟩ | ⟨h1, h2⟩
  · exact Or.inl ⟨h1, h2, h3, h4⟩
  · exact Or.inr ⟨h1, h2⟩
end RR
