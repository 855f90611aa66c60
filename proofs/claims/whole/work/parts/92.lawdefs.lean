/-! for the law's cases -/
theorem rb_num {tp f : Nat → Int32} {k : Nat} (h : RB tp f k) (v : Int64) (j : Nat) : RB (wrI tp k (numL v j)) (wrB f k (numL v j)) (k + j) := by
  have a := rb_wr h (numL v j)
  rw [numL_len] at a
  exact a
theorem has_j {k : Nat} {x : Int32} (hk : k < 2 ^ 31) (h : ¬ hasC k x = 0) : ∃ j, j < k ∧ x = nI j := by
  unfold hasC at h
  by_cases c : x < 0
  · rw [if_pos c] at h; exact absurd rfl h
  · rw [if_neg c] at h
    by_cases c2 : nI k ≤ x
    · rw [if_pos c2] at h; exact absurd rfl h
    · obtain ⟨j, h1, h2, -⟩ := pk_mu c c2 hk
      exact ⟨j, h1, h2⟩
theorem le_j {k : Nat} {x : Int32} (hk : k < 2 ^ 31) (h : ¬ (x < 0 ∨ ¬ x ≤ nI k)) : ∃ j, j ≤ k ∧ x = nI j := by
  have h1 : ¬ x < 0 := fun q => h (Or.inl q)
  have h2 : x ≤ nI k := Decidable.byContradiction fun q => h (Or.inr q)
  exact nI_of2 (nI_toInt hk) h1 h2
theorem sp_eq {tp f : Nat → Int32} {k j : Nat} {xs : Int32} (h : RB tp f k) (hj : j < k) (hk : k < 2 ^ 31) (h0 : ¬ xs < 0) (h1 : xs ≤ 255) : tb (upd f j (tb f k (nI j) ^^^ xs).toInt8.toInt32) k (nI j) = tp j ^^^ xs := by
  rw [tb_in hk hj, pk_us]
  exact (rb_sp h hj hk h0 h1).symm
theorem x01 {x : Int32} (h : ¬ (x < 0 ∨ ¬ x ≤ 1)) : x = 0 ∨ x = 1 := by
  obtain ⟨j, h1, rfl⟩ := le_j (k := 1) (by omega) h
  rcases (show j = 0 ∨ j = 1 by omega) with rfl | rfl
  · exact Or.inl rfl
  · exact Or.inr rfl
theorem x05 {P : Prop} {x : Int32} (h : ¬ (P ∨ x < 0 ∨ ¬ x ≤ 5)) : ¬ P ∧ ¬ x < 0 ∧ x ≤ 5 := ⟨fun q => h (Or.inl q), fun q => h (Or.inr (Or.inl q)), Decidable.byContradiction fun q => h (Or.inr (Or.inr q))⟩
theorem jr_pos {g : Int32 → Int32} {u : Int32} {ft gt : Int64} : ∀ (r i : Nat) (p : Int32) (gr : Int64), (jrC g u ft gt r i p gr).1 = 0 ∨ 0 < (jrC g u ft gt r i p gr).1
  | 0, i, p, gr => by
    rw [jrC]
    by_cases c : u ≤ p
    · rw [if_pos c]
      by_cases c2 : gt = gr
      · rw [if_pos c2]; exact Or.inl rfl
      · rw [if_neg c2]; exact Or.inr (by decide)
    · rw [if_neg c]; exact Or.inr (by show (0 : Int32) < 4; decide)
  | r + 1, i, p, gr => by
    rw [jrC]
    by_cases c : rrS g u ft (nI i) p = 0
    · rw [if_pos c]; exact Or.inr (by show (0 : Int32) < 4; decide)
    · rw [if_neg c]; exact jr_pos r _ _ _
theorem jg_pos (f : Nat → Int32) (k : Nat) : (jgC f k).1 = 0 ∨ 0 < (jgC f k).1 := by
  unfold jgC
  by_cases c1 : nI k < 61
  · rw [if_pos c1]; exact Or.inr (by decide)
  rw [if_neg c1]
  by_cases c2 : sgn (tb f k) 8 4 = (nI k - 12).toInt64
  rotate_left
  · rw [if_neg c2]; exact Or.inr (by decide)
  rw [if_pos c2]
  by_cases c3 : wfC (tb f k) = -1
  rotate_left
  · rw [if_neg c3]; exact Or.inr (by show (0 : Int32) < 2; decide)
  rw [if_pos c3]
  by_cases c4 : sgn (tb f k) 17 4 = (ckC f 21 (k - 21)).toInt64
  rotate_left
  · rw [if_neg c4]; exact Or.inr (by decide)
  rw [if_pos c4]
  exact jr_pos ..
/-- the fault that the class holds, once it has looked -/
theorem jd_eq {f tp : Nat → Int32} {k : Nat} {ch fk fp : Int32} (hk : k ≤ 16384) (h4 : RB tp f k) (h5 : ch = 0 → fk = (jgC f k).1 ∧ fp = (jgC f k).2) : (if ch = 0 then fk else (jgC f k).1) = (jgC f k).1 ∧ (if ch = 0 then fp else (jgC f k).2) = (jgC f k).2 ∧ (if ch = 0 then fk else (jgC f k).1) = (mrd tp k).1 ∧ (if ch = 0 then fp else (jgC f k).2) = (mrd tp k).2 := by
  obtain ⟨hB, hT⟩ := rb_B h4
  have e := jg_eq hB hT hk
  have a : (if ch = 0 then fk else (jgC f k).1) = (jgC f k).1 := by
    by_cases c : ch = 0
    · rw [if_pos c]; exact (h5 c).1
    · rw [if_neg c]
  have b : (if ch = 0 then fp else (jgC f k).2) = (jgC f k).2 := by
    by_cases c : ch = 0
    · rw [if_pos c]; exact (h5 c).2
    · rw [if_neg c]
  exact ⟨a, b, a.trans (by rw [e]), b.trans (by rw [e])⟩
theorem md_pos {f tp : Nat → Int32} {k : Nat} (hk : k ≤ 16384) (h4 : RB tp f k) : (mrd tp k).1 = 0 ∨ 0 < (mrd tp k).1 := by
  obtain ⟨hB, hT⟩ := rb_B h4
  rw [← jg_eq hB hT hk]
  exact jg_pos f k
theorem told_j {f tp : Nat → Int32} {k : Nat} (hk : k ≤ 16384) (h4 : RB tp f k) (h0 : (jgC f k).1 = 0) {x : Int32} (h1 : ¬ x < 0) (h2 : x.toInt64 < sgn (tb f k) 57 4) : ∃ q, q < 1000 ∧ x = nI q ∧ 61 ≤ k ∧ 0 ≤ mnum tp 27 8 ∧ mnum tp 27 8 ≤ 1125899906842624 ∧ sgn (tb f k) 57 4 = mnum tp 57 4 ∧ sgn (tb f k) 27 8 = mnum tp 27 8 ∧
    ∀ j, j ≤ q → rdP (tb f k) (nI k) (mnum tp 27 8) j = nI (mdP tp k (mnum tp 27 8) j) ∧ mdP tp k (mnum tp 27 8) j ≤ k ∧ ¬ mrS tp k (mnum tp 27 8) (nI j) (mdP tp k (mnum tp 27 8) j) = 0 := by
  obtain ⟨hB, hT⟩ := rb_B h4
  obtain ⟨g1, g2, g3, cn, g4, g5, g6⟩ := jg_0 hB hT hk h0
  have a57 : sgn (tb f k) 57 4 = mnum tp 57 4 := sg hB hT hk 57 4 (by omega) (by omega)
  have a27 : sgn (tb f k) 27 8 = mnum tp 27 8 := sg hB hT hk 27 8 (by omega) (by omega)
  obtain ⟨q, hq, rfl⟩ := nI_of h1
  rw [a57, g5, nI_l hq, pk_lLT (by omega) (by omega)] at h2
  exact ⟨q, by omega, rfl, g1, g2, g3, a57, a27, fun j hj => g6 j (by omega)⟩
theorem rd_cong {dn wt N : Nat} {lt : Int32} {gs : Nat → GR} {gk gv gk' gv' : Nat → Int64} {kf vf df kf' vf' df' : Nat → Int32} (h : RD dn wt lt N gs gk gv kf vf df) (h1 : ∀ q, q < dn → kf' q = kf q) (h2 : ∀ q, q < dn → vf' q = vf q) (h3 : ∀ q, q < dn → df' q = df q) (h4 : ∀ q, q < dn → gk' q = gk q) (h5 : ∀ q, q < dn → gv' q = gv q) : RD dn wt lt N gs gk' gv' kf' vf' df' := by
  obtain ⟨e1, e2, e3, e4, e5, e6, e7, e8, e9, e10⟩ := h
  exact ⟨e1, e2, e3.trans (wtN_cong h1 h2 h3).symm, e4, e5.trans (rsL_cong h1 h2 h3 h4 h5).symm, fun q hq => by rw [h1 q hq, h2 q hq, h3 q hq]; exact e6 q hq, e7, e8, e9.trans (by rw [mxN_cong h3]), fun q hq => by rw [h3 q hq]; exact e10 q hq⟩
theorem rec_no {x kb vb la : Int32} (h : x < 1 ∨ ¬ x ≤ 100 ∨ kb < -1 ∨ ¬ kb ≤ 8 ∨ vb < -1 ∨ ¬ vb ≤ 300 ∨ la < 0 ∨ ¬ la ≤ 1000000) : x < 1 ∨ 100 < x ∨ kb < -1 ∨ 8 < kb ∨ vb < -1 ∨ 300 < vb ∨ la < 0 ∨ ¬ la ≤ 1000000 := by
  rcases h with h | h | h | h | h | h | h
  · exact Or.inl h
  · exact Or.inr (Or.inl (Int32.not_le.mp h))
  · exact Or.inr (Or.inr (Or.inl h))
  · exact Or.inr (Or.inr (Or.inr (Or.inl (Int32.not_le.mp h))))
  · exact Or.inr (Or.inr (Or.inr (Or.inr (Or.inl h))))
  · exact Or.inr (Or.inr (Or.inr (Or.inr (Or.inr (Or.inl (Int32.not_le.mp h))))))
  · exact Or.inr (Or.inr (Or.inr (Or.inr (Or.inr (Or.inr h)))))
theorem rec_yes {x kb vb la : Int32} (h : ¬ (x < 1 ∨ ¬ x ≤ 100 ∨ kb < -1 ∨ ¬ kb ≤ 8 ∨ vb < -1 ∨ ¬ vb ≤ 300 ∨ la < 0 ∨ ¬ la ≤ 1000000)) : (∃ gn, 1 ≤ gn ∧ gn ≤ 100 ∧ x = nI gn) ∧ ¬ kb < -1 ∧ kb ≤ 8 ∧ ¬ vb < -1 ∧ vb ≤ 300 ∧ ¬ la < 0 ∧ la ≤ 1000000 := by
  simp only [not_or, Decidable.not_not] at h
  obtain ⟨h1, h2, h3, h4, h5, h6, h7, h8⟩ := h
  refine ⟨?_, h3, h4, h5, h6, h7, h8⟩
  have h0 : ¬ x < 0 := fun q => h1 (by rw [Int32.lt_iff_toInt_lt] at q ⊢; rw [Int32.toInt_zero] at q; rw [Int32.toInt_one]; omega)
  obtain ⟨j, hj, rfl⟩ := nI_of2 (M := 100) (n := 100) (by decide) h0 h2
  refine ⟨j, ?_, hj, rfl⟩
  rcases Nat.lt_or_ge j 1 with c | c
  · exact absurd (nI_lt (b := 1) c (by omega)) h1
  · exact c
theorem tb_told {f tp : Nat → Int32} {k : Nat} {ch fk : Int32} {x w : Int32} (hk : k ≤ 16384) (h4 : RB tp f k) (hF1 : (if ch = 0 then fk else (jgC f k).1) = (mrd tp k).1) (hJ1 : (if ch = 0 then fk else (jgC f k).1) = (jgC f k).1) (hmp : (mrd tp k).1 = 0 ∨ 0 < (mrd tp k).1) (h : ¬ ((if ch = 0 then fk else (jgC f k).1) = 0) ∨ x < 0 ∨ ¬ x.toInt64 < sgn (tb f k) 57 4) : 0 < (mrd tp k).1 ∨ x < 0 ∨ mnum tp 57 4 ≤ x.toInt64 ∨ w < 0 ∨ ¬ w ≤ 5 := by
  by_cases c : (if ch = 0 then fk else (jgC f k).1) = 0
  · rcases h with h | h | h
    · exact absurd c h
    · exact Or.inr (Or.inl h)
    · obtain ⟨hB, hT⟩ := rb_B h4
      have h61 := (jg_0 hB hT hk (hJ1.symm.trans c)).1
      have a57 : sgn (tb f k) 57 4 = mnum tp 57 4 := sg hB hT hk 57 4 (by omega) (by omega)
      rw [a57] at h
      exact Or.inr (Or.inr (Or.inl (Int64.not_lt.mp h)))
  · exact Or.inl (hmp.resolve_left (fun q => c (hF1.trans q)))
