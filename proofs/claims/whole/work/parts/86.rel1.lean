/-! both read a record alike -/
section RL1
variable {f t : Nat → Int32} {B : Nat → Nat} {k a : Nat} {ft : Int64} {num : Int32}
theorem c1_s0 (g : Int32 → Int32) (e p : Int32) : (c1 g e p 0).2 = 0 := by
  unfold c1 rbC
  by_cases c : p < e
  · rw [if_pos c]; exact ex0 (if (g p, p + 1, (0 : Int32)).1 = 0 then 1 else 0)
  · rw [if_neg c]; exact ex0 (if ((0 : Int32), p, (0 : Int32)).1 = 0 then 1 else 0)
theorem cv_s0 (g : Int32 → Int32) (e p : Int32) : (cv g e p 0).2.2 = 0 := rvC_s0 10 0 0 p
theorem c2_2 (g : Int32 → Int32) (e : Int32) (ft : Int64) (p s : Int32) : (c2 g e ft p s).2 = exC (cv g e p s).2.2 (if (cv g e p s).1 < -ft then 0 else if 1125899906842624 - ft < (cv g e p s).1 then 0 else 1) := by unfold c2; with_reducible rfl
theorem c2_s0 (g : Int32 → Int32) (e : Int32) (ft : Int64) (p : Int32) : (c2 g e ft p 0).2 = 0 := by rw [c2_2, cv_s0]; exact ex0 _
theorem c3_2 (g : Int32 → Int32) (e num p s : Int32) : (c3 g e num p s).2 = exC (cv g e p s).2.2 (if (cv g e p s).1 = num.toInt64 then 1 else 0) := by unfold c3; with_reducible rfl
theorem c3_s0 (g : Int32 → Int32) (e num p : Int32) : (c3 g e num p 0).2 = 0 := by rw [c3_2, cv_s0]; exact ex0 _
theorem rk_1 {g : Int32 → Int32} {u num p : Int32} : (rkp g u ft num p).1 = c4p g (ren g u p) (rcp g u ft num p).1 (rcp g u ft num p).2 := by unfold rkp; with_reducible rfl
theorem rk_2 {g : Int32 → Int32} {u num p : Int32} : (rkp g u ft num p).2 = c4s g (ren g u p) (rcp g u ft num p).1 (rcp g u ft num p).2 := by unfold rkp; with_reducible rfl
theorem rv_1 {g : Int32 → Int32} {u num p : Int32} : (rvp g u ft num p).1 = c4p g (ren g u p) (rkp g u ft num p).1 (rkp g u ft num p).2 := by unfold rvp; with_reducible rfl
theorem rv_2 {g : Int32 → Int32} {u num p : Int32} : (rvp g u ft num p).2 = c4s g (ren g u p) (rkp g u ft num p).1 (rkp g u ft num p).2 := by unfold rvp; with_reducible rfl
theorem c4_s0 (g : Int32 → Int32) (e p : Int32) : c4s g e p 0 = 0 := by
  unfold c4s
  rw [cv_s0]; exact ex0 _
/-- a key or a value: how long, and where -/
def vOk (v : Int64) (p k : Nat) : Prop := v = -1 ∨ ∃ n, v = lN n ∧ p + n ≤ k
theorem rr_in {lim : Nat} {p s r : Int32} {a : Nat} (h : rRel lim p s a r) (hs : ¬ s = 0) : s = 1 ∧ r = 1 ∧ p = nI a ∧ a ≤ lim := by
  rcases h with h | ⟨h, -⟩
  · exact h
  · exact absurd h hs
def recR (f t : Nat → Int32) (k : Nat) (ft : Int64) (num : Int32) (a : Nat) : Prop :=
  (¬ rrS (tb f k) (nI k) ft num (nI a) = 0 ∧ ¬ mrS t k ft num a = 0 ∧ rrP (tb f k) (nI k) ft num (nI a) = nI (mrA t k ft num a) ∧ mrA t k ft num a ≤ k ∧ rrT (tb f k) (nI k) ft (nI a) 0 = mrT t k ft a 0 ∧
    rrKl (tb f k) (nI k) ft num (nI a) 0 = (mrKb t k ft num a 0).toInt32 ∧ vOk (mrKb t k ft num a 0) (mKn t k ft num a) k ∧ rrKp (tb f k) (nI k) ft num (nI a) 0 = nI (mKn t k ft num a) ∧
    rrVl (tb f k) (nI k) ft num (nI a) 0 = (mrVb t k ft num a 0).toInt32 ∧ vOk (mrVb t k ft num a 0) (mVn t k ft num a) k ∧ rrVp (tb f k) (nI k) ft num (nI a) 0 = nI (mVn t k ft num a)) ∨
  (rrS (tb f k) (nI k) ft num (nI a) = 0 ∧ mrS t k ft num a = 0)
theorem rec_rel (hB : pB f B k) (hT : pT t B k) (hk : k ≤ 16384) (h0 : 0 ≤ ft) (h1 : ft ≤ 1125899906842624) (ha : a ≤ k) : recR f t k ft num a := by
  have hk30 : k < 2 ^ 30 := by omega
  have hq := cv_rel hB hT hk30 (Nat.le_refl k) (show rRel k (nI a) 1 a 1 from Or.inl ⟨rfl, rfl, rfl, ha⟩)
  rcases hq with ⟨g1, g2, g3, g4, g5⟩ | ⟨g1, g2⟩
  rotate_left
  · have e1 : rs0 (tb f k) (nI k) (nI a) = 0 := by unfold rs0 rq; rw [g1]; exact ex0 _
    have e2 : ms0 t k a = 0 := by
      unfold ms0 mq
      rcases g2 with g2 | g2
      · rw [if_pos g2]
      · have := mv_k (t := t) (r := 1) ha; omega
    refine Or.inr ⟨by unfold rrS; rw [if_pos e1], by unfold mrS; rw [if_pos e2]⟩
  have q1 : (rq (tb f k) (nI k) (nI a)).2.2 = 1 := g1
  have q2 : (mq t k a).2.2 = 1 := g2
  have q3 : (rq (tb f k) (nI k) (nI a)).1 = (mq t k a).1 := g3
  have q4 : (rq (tb f k) (nI k) (nI a)).2.1 = nI (mq t k a).2.1 := g4
  have q5 : (mq t k a).2.1 ≤ k := g5
  have es : rs0 (tb f k) (nI k) (nI a) = ms0 t k a := by
    unfold rs0 ms0
    rw [q1, q2, q3, q4, if_neg (by decide : ¬ (1 : Int32) = 0)]
    by_cases c : (mq t k a).1 < 0
    · rw [if_pos c]; rfl
    · rw [if_neg c]
      by_cases c2 : (nI k - nI (mq t k a).2.1).toInt64 < (mq t k a).1
      · rw [if_pos c2]; rfl
      · rw [if_neg c2]; rfl
  by_cases c0 : ms0 t k a = 0
  · exact Or.inr ⟨by unfold rrS; rw [if_pos (es.trans c0)], by unfold mrS; rw [if_pos c0]⟩
  have c0' : ¬ rs0 (tb f k) (nI k) (nI a) = 0 := fun h => c0 (es.symm.trans h)
  obtain ⟨n, hn1, hn2, hn3, -⟩ := men_in hk (by omega) c0
  have m01 : ms0 t k a = 1 := by
    have : ms0 t k a = 0 ∨ ms0 t k a = 1 := by unfold ms0; exact i01 (Or.inl rfl) (i01 (Or.inl rfl) (i01 (Or.inl rfl) (Or.inr rfl)))
    exact this.resolve_left c0
  have en : ren (tb f k) (nI k) (nI a) = nI ((mq t k a).2.1 + n) := by unfold ren; rw [q4, q3, hn1, lN_i, nI_add]
  obtain ⟨lim, hlim⟩ : ∃ lim, lim = (mq t k a).2.1 + n := ⟨_, rfl⟩
  rw [← hlim] at en hn2 hn3
  have ra' : ra (tb f k) (nI k) (nI a) = c1 (tb f k) (nI lim) (nI (mq t k a).2.1) 1 := by unfold ra; rw [en, q4, es, m01]
  have ma' : ma t k a = m1 t k (mq t k a).2.1 1 := by unfold ma; rw [m01]
  have R1 : rRel lim (ra (tb f k) (nI k) (nI a)).1 (ra (tb f k) (nI k) (nI a)).2 (ma t k a).1 (ma t k a).2 := by
    rw [ra', ma']
    exact c1_rel hB hT hk30 hn2 (Or.inl ⟨rfl, rfl, rfl, by omega⟩)
  have V2 := cv_rel hB hT hk30 hn2 R1
  have R2 : rRel lim (rbp (tb f k) (nI k) ft (nI a)).1 (rbp (tb f k) (nI k) ft (nI a)).2 (mb t k ft a).1 (mb t k ft a).2 := by
    unfold rbp mb; rw [en]; exact c2_rel hB hT hk30 hn2 h0 h1 R1
  have R3 : rRel lim (rcp (tb f k) (nI k) ft num (nI a)).1 (rcp (tb f k) (nI k) ft num (nI a)).2 (mc_ t k ft num a).1 (mc_ t k ft num a).2 := by
    unfold rcp mc_; rw [en]; exact c3_rel hB hT hk30 hn2 R2
  have C4 := c4_rel hB hT hk30 hn2 R3
  have R4 : rRel lim (rkp (tb f k) (nI k) ft num (nI a)).1 (rkp (tb f k) (nI k) ft num (nI a)).2 (mk_ t k ft num a).1 (mk_ t k ft num a).2 := by
    rw [rk_1, rk_2, mk_1, mk_2, en]; exact c4_rRel C4
  have C5 := c4_rel hB hT hk30 hn2 R4
  have R5 : rRel lim (rvp (tb f k) (nI k) ft num (nI a)).1 (rvp (tb f k) (nI k) ft num (nI a)).2 (mw t k ft num a).1 (mw t k ft num a).2 := by
    rw [rv_1, rv_2, mw_1, mw_2, en]; exact c4_rRel C5
  have R6 : rRel lim (rzp (tb f k) (nI k) ft num (nI a)).1 (rzp (tb f k) (nI k) ft num (nI a)).2 (mz_ t k ft num a).1 (mz_ t k ft num a).2 := by
    unfold rzp mz_; rw [en]; exact c1_rel hB hT hk30 hn2 R5
  have hb := mr_bounds (t := t) (ft := ft) (num := num) hk (show a ≤ 16390 by omega)
  rcases R6 with ⟨z1, z2, z3, z4⟩ | ⟨z1, z2⟩
  rotate_left
  · refine Or.inr ⟨by unfold rrS; rw [if_neg c0', z1]; exact ex0 _, ?_⟩
    unfold mrS
    rw [if_neg c0]
    rcases z2 with z2 | z2
    · rw [if_pos z2]
    · by_cases c : (mz_ t k ft num a).2 = 0
      · rw [if_pos c]
      · rw [if_neg c, hn3, if_neg (fun h => by rw [nI_eq (by omega) (by omega)] at h; omega)]
  have hSe : rrS (tb f k) (nI k) ft num (nI a) = mrS t k ft num a := by
    unfold rrS mrS
    rw [if_neg c0', if_neg c0, z1, z2, z3, en, hn3, if_neg (by decide : ¬ (1 : Int32) = 0)]
    by_cases c : nI (mz_ t k ft num a).1 = nI lim
    · rw [if_pos c]; rfl
    · rw [if_neg c]; rfl
  by_cases cS : mrS t k ft num a = 0
  · exact Or.inr ⟨hSe.trans cS, cS⟩
  have n5 : ¬ (rvp (tb f k) (nI k) ft num (nI a)).2 = 0 := fun h => by
    have : (rzp (tb f k) (nI k) ft num (nI a)).2 = 0 := by unfold rzp; rw [h]; exact c1_s0 ..
    rw [z1] at this; exact absurd this (by decide)
  have n4 : ¬ (rkp (tb f k) (nI k) ft num (nI a)).2 = 0 := fun h => n5 (by rw [rv_2, h]; exact c4_s0 ..)
  have n3 : ¬ (rcp (tb f k) (nI k) ft num (nI a)).2 = 0 := fun h => n4 (by rw [rk_2, h]; exact c4_s0 ..)
  have n2 : ¬ (rbp (tb f k) (nI k) ft (nI a)).2 = 0 := fun h => n3 (by unfold rcp; rw [h]; exact c3_s0 ..)
  have n1 : ¬ (ra (tb f k) (nI k) (nI a)).2 = 0 := fun h => n2 (by unfold rbp; rw [h]; exact c2_s0 ..)
  have hT1 : (cv (tb f k) (nI lim) (ra (tb f k) (nI k) (nI a)).1 (ra (tb f k) (nI k) (nI a)).2).1 = (mv t k (ma t k a).1 (ma t k a).2).1 := by
    rcases V2 with ⟨-, -, h, -⟩ | ⟨h, -⟩
    · exact h
    · refine absurd ?_ n2
      unfold rbp
      rw [en, c2_2, h]; exact ex0 _
  rcases C4 with ⟨k1, k2, k3, k4, k5, k6, k7, k8⟩ | ⟨k1, -⟩
  rotate_left
  · exact absurd (by rw [rk_2, en]; exact k1) n4
  rcases C5 with ⟨v1, v2, v3, v4, v5, v6, v7, v8⟩ | ⟨v1, -⟩
  rotate_left
  · exact absurd (by rw [rv_2, en]; exact v1) n5
  refine Or.inl ⟨fun h => cS (hSe.symm.trans h), cS, ?_, mrA_le hk (by omega) cS, ?_, ?_, ?_, ?_, ?_, ?_, ?_⟩
  · unfold rrP mrA; rw [if_neg c0', if_neg c0]; exact z3
  · unfold rrT mrT; rw [if_neg c0', if_neg c0, en, hT1]
  · unfold rrKl mrKb; rw [if_neg c0', if_neg c0, en]; exact k6
  · unfold mrKb mKn
    rw [if_neg c0]
    rcases k7 with h | ⟨q, h, h2⟩
    · exact Or.inl h
    · exact Or.inr ⟨q, h, by omega⟩
  · unfold rrKp mKn; rw [if_neg c0', en]; exact k5
  · unfold rrVl mrVb; rw [if_neg c0', if_neg c0, en]; exact v6
  · unfold mrVb mVn
    rw [if_neg c0]
    rcases v7 with h | ⟨q, h, h2⟩
    · exact Or.inl h
    · exact Or.inr ⟨q, h, by omega⟩
  · unfold rrVp mVn; rw [if_neg c0', en]; exact v5
end RL1
