/-! both judge the tape alike -/
def Bf (f : Nat → Int32) (i : Nat) : Nat := (f i &&& 255).toNatClampNeg
def RB (tp f : Nat → Int32) (k : Nat) : Prop := ∀ i, i < k → tp i = f i &&& 255
theorem Bf_eq (f : Nat → Int32) (i : Nat) : Bf f i < 256 ∧ f i &&& 255 = nI (Bf f i) := by
  obtain ⟨j, hj, e⟩ := pk_andE (f i) (m := 255) 8 (by decide)
  unfold Bf
  rw [e, nI_clamp (by omega)]
  exact ⟨hj, rfl⟩
theorem rb_B {tp f : Nat → Int32} {k : Nat} (h : RB tp f k) : pB f (Bf f) k ∧ pT tp (Bf f) k := ⟨fun i _ => Bf_eq f i, fun i hi => ⟨(Bf_eq f i).1, (h i hi).trans (Bf_eq f i).2⟩⟩
theorem mx_eq (a b : Int64) : (if a < b then b else a) = (if a ≤ b then b else a) := by
  by_cases c : a ≤ b
  · rw [if_pos c]
    by_cases c2 : a < b
    · rw [if_pos c2]
    · rw [if_neg c2]
      exact Int64.le_antisymm c (Int64.not_lt.mp c2)
  · rw [if_neg c, if_neg (fun h => c (Int64.le_of_lt h))]
section RL2
variable {f t : Nat → Int32} {B : Nat → Nat} {k : Nat} {ft gt : Int64}
theorem jr_rel (hB : pB f B k) (hT : pT t B k) (hk : k ≤ 16384) (h0 : 0 ≤ ft) (h1 : ft ≤ 1125899906842624) : ∀ (r i a : Nat) (gr : Int64), a ≤ k → jrC (tb f k) (nI k) ft gt r i (nI a) gr = mjr t k (0, -1) ft gt r i a gr := by
  intro r
  induction r with
  | zero =>
    intro i a gr ha
    rw [jrC, mjr]
    by_cases c : nI k ≤ nI a
    · rw [if_pos c, if_pos c]
      by_cases c2 : gt = gr
      · rw [if_pos c2, if_pos c2.symm]
      · rw [if_neg c2, if_neg (fun h => c2 h.symm)]
    · rw [if_neg c, if_neg c]
  | succ r ih =>
    intro i a gr ha
    rw [jrC, mjr]
    rcases rec_rel (num := nI i) hB hT hk h0 h1 ha with ⟨s1, s2, p1, p2, tt, -⟩ | ⟨s1, s2⟩
    · rw [if_neg s1, if_neg s2, p1, tt, mx_eq]
      exact ih _ _ _ p2
    · rw [if_pos s1, if_pos s2]
theorem jr_all (hB : pB f B k) (hT : pT t B k) (hk : k ≤ 16384) (h0 : 0 ≤ ft) (h1 : ft ≤ 1125899906842624) : ∀ (r i : Nat) (gr : Int64), rdP (tb f k) (nI k) ft i = nI (mdP t k ft i) → mdP t k ft i ≤ k → (jrC (tb f k) (nI k) ft gt r i (nI (mdP t k ft i)) gr).1 = 0 →
    ∀ j, i ≤ j → j < i + r → rdP (tb f k) (nI k) ft j = nI (mdP t k ft j) ∧ mdP t k ft j ≤ k ∧ ¬ mrS t k ft (nI j) (mdP t k ft j) = 0 := by
  intro r
  induction r with
  | zero => intro i gr _ _ _ j h2 h3; omega
  | succ r ih =>
    intro i gr e1 e2 e3 j h2 h3
    rw [jrC] at e3
    rcases rec_rel (num := nI i) hB hT hk h0 h1 e2 with ⟨s1, s2, p1, p2, tt, -⟩ | ⟨s1, s2⟩
    · rw [if_neg s1] at e3
      by_cases c : j = i
      · subst c; exact ⟨e1, e2, s2⟩
      · refine ih (i + 1) (if rrT (tb f k) (nI k) ft (nI (mdP t k ft i)) 0 < gr then gr else rrT (tb f k) (nI k) ft (nI (mdP t k ft i)) 0) (by rw [rdP, mdP, e1, p1]) (by rw [mdP]; exact p2) ?_ j (by omega) (by omega)
        rw [mdP, ← p1]
        exact e3
    · rw [if_pos s1] at e3
      exact absurd e3 (by decide : ¬ (4 : Int32) = 0)
end RL2
def wfM (t : Nat → Int32) : Int32 := if hg0 t = 0 then 0 else if hg1 t = 0 then 12 else if hg2 t = 0 then 16 else if hg3 t = 0 then 21 else if hg4 t = 0 then 23 else if hg5 t = 0 then 27 else if hg6 t = 0 then 35 else if hg7 t = 0 then 43 else if hg8 t = 0 then 51 else if hg9 t = 0 then 53 else if hg10 t = 0 then 57 else -1
theorem hf_wf (t : Nat → Int32) : (wfM t = -1 ∧ hf11 t 0 (-1) = (0, -1)) ∨ (¬ wfM t = -1 ∧ hf11 t 0 (-1) = (2, wfM t) ∧ mgd t = 0) := by
  by_cases c0 : hg0 t = 0
  · have ew : wfM t = 0 := by unfold wfM; rw [if_pos c0]
    have e0 : hf0 t 0 (-1) = (0, -1) := rfl
    have e1 : hf1 t 0 (-1) = (2, 0) := by unfold hf1; rw [e0]; exact mfd_w rfl c0
    have e2 : hf2 t 0 (-1) = (2, 0) := by unfold hf2; rw [e1]; exact mfd_n (by decide : ¬ (2 : Int32) = 0)
    have e3 : hf3 t 0 (-1) = (2, 0) := by unfold hf3; rw [e2]; exact mfd_n (by decide : ¬ (2 : Int32) = 0)
    have e4 : hf4 t 0 (-1) = (2, 0) := by unfold hf4; rw [e3]; exact mfd_n (by decide : ¬ (2 : Int32) = 0)
    have e5 : hf5 t 0 (-1) = (2, 0) := by unfold hf5; rw [e4]; exact mfd_n (by decide : ¬ (2 : Int32) = 0)
    have e6 : hf6 t 0 (-1) = (2, 0) := by unfold hf6; rw [e5]; exact mfd_n (by decide : ¬ (2 : Int32) = 0)
    have e7 : hf7 t 0 (-1) = (2, 0) := by unfold hf7; rw [e6]; exact mfd_n (by decide : ¬ (2 : Int32) = 0)
    have e8 : hf8 t 0 (-1) = (2, 0) := by unfold hf8; rw [e7]; exact mfd_n (by decide : ¬ (2 : Int32) = 0)
    have e9 : hf9 t 0 (-1) = (2, 0) := by unfold hf9; rw [e8]; exact mfd_n (by decide : ¬ (2 : Int32) = 0)
    have e10 : hf10 t 0 (-1) = (2, 0) := by unfold hf10; rw [e9]; exact mfd_n (by decide : ¬ (2 : Int32) = 0)
    have e11 : hf11 t 0 (-1) = (2, 0) := by unfold hf11; rw [e10]; exact mfd_n (by decide : ¬ (2 : Int32) = 0)
    refine Or.inr ⟨by rw [ew]; decide, by rw [ew]; exact e11, ?_⟩
    unfold mgd
    rw [c0]
    simp only [Int32.zero_and, Int32.and_zero]
  by_cases c1 : hg1 t = 0
  · have ew : wfM t = 12 := by unfold wfM; rw [if_neg c0, if_pos c1]
    have e0 : hf0 t 0 (-1) = (0, -1) := rfl
    have e1 : hf1 t 0 (-1) = (0, -1) := by unfold hf1; rw [e0]; exact mfd_q rfl c0
    have e2 : hf2 t 0 (-1) = (2, 12) := by unfold hf2; rw [e1]; exact mfd_w rfl c1
    have e3 : hf3 t 0 (-1) = (2, 12) := by unfold hf3; rw [e2]; exact mfd_n (by decide : ¬ (2 : Int32) = 0)
    have e4 : hf4 t 0 (-1) = (2, 12) := by unfold hf4; rw [e3]; exact mfd_n (by decide : ¬ (2 : Int32) = 0)
    have e5 : hf5 t 0 (-1) = (2, 12) := by unfold hf5; rw [e4]; exact mfd_n (by decide : ¬ (2 : Int32) = 0)
    have e6 : hf6 t 0 (-1) = (2, 12) := by unfold hf6; rw [e5]; exact mfd_n (by decide : ¬ (2 : Int32) = 0)
    have e7 : hf7 t 0 (-1) = (2, 12) := by unfold hf7; rw [e6]; exact mfd_n (by decide : ¬ (2 : Int32) = 0)
    have e8 : hf8 t 0 (-1) = (2, 12) := by unfold hf8; rw [e7]; exact mfd_n (by decide : ¬ (2 : Int32) = 0)
    have e9 : hf9 t 0 (-1) = (2, 12) := by unfold hf9; rw [e8]; exact mfd_n (by decide : ¬ (2 : Int32) = 0)
    have e10 : hf10 t 0 (-1) = (2, 12) := by unfold hf10; rw [e9]; exact mfd_n (by decide : ¬ (2 : Int32) = 0)
    have e11 : hf11 t 0 (-1) = (2, 12) := by unfold hf11; rw [e10]; exact mfd_n (by decide : ¬ (2 : Int32) = 0)
    refine Or.inr ⟨by rw [ew]; decide, by rw [ew]; exact e11, ?_⟩
    unfold mgd
    rw [c1]
    simp only [Int32.zero_and, Int32.and_zero]
  by_cases c2 : hg2 t = 0
  · have ew : wfM t = 16 := by unfold wfM; rw [if_neg c0, if_neg c1, if_pos c2]
    have e0 : hf0 t 0 (-1) = (0, -1) := rfl
    have e1 : hf1 t 0 (-1) = (0, -1) := by unfold hf1; rw [e0]; exact mfd_q rfl c0
    have e2 : hf2 t 0 (-1) = (0, -1) := by unfold hf2; rw [e1]; exact mfd_q rfl c1
    have e3 : hf3 t 0 (-1) = (2, 16) := by unfold hf3; rw [e2]; exact mfd_w rfl c2
    have e4 : hf4 t 0 (-1) = (2, 16) := by unfold hf4; rw [e3]; exact mfd_n (by decide : ¬ (2 : Int32) = 0)
    have e5 : hf5 t 0 (-1) = (2, 16) := by unfold hf5; rw [e4]; exact mfd_n (by decide : ¬ (2 : Int32) = 0)
    have e6 : hf6 t 0 (-1) = (2, 16) := by unfold hf6; rw [e5]; exact mfd_n (by decide : ¬ (2 : Int32) = 0)
    have e7 : hf7 t 0 (-1) = (2, 16) := by unfold hf7; rw [e6]; exact mfd_n (by decide : ¬ (2 : Int32) = 0)
    have e8 : hf8 t 0 (-1) = (2, 16) := by unfold hf8; rw [e7]; exact mfd_n (by decide : ¬ (2 : Int32) = 0)
    have e9 : hf9 t 0 (-1) = (2, 16) := by unfold hf9; rw [e8]; exact mfd_n (by decide : ¬ (2 : Int32) = 0)
    have e10 : hf10 t 0 (-1) = (2, 16) := by unfold hf10; rw [e9]; exact mfd_n (by decide : ¬ (2 : Int32) = 0)
    have e11 : hf11 t 0 (-1) = (2, 16) := by unfold hf11; rw [e10]; exact mfd_n (by decide : ¬ (2 : Int32) = 0)
    refine Or.inr ⟨by rw [ew]; decide, by rw [ew]; exact e11, ?_⟩
    unfold mgd
    rw [c2]
    simp only [Int32.zero_and, Int32.and_zero]
  by_cases c3 : hg3 t = 0
  · have ew : wfM t = 21 := by unfold wfM; rw [if_neg c0, if_neg c1, if_neg c2, if_pos c3]
    have e0 : hf0 t 0 (-1) = (0, -1) := rfl
    have e1 : hf1 t 0 (-1) = (0, -1) := by unfold hf1; rw [e0]; exact mfd_q rfl c0
    have e2 : hf2 t 0 (-1) = (0, -1) := by unfold hf2; rw [e1]; exact mfd_q rfl c1
    have e3 : hf3 t 0 (-1) = (0, -1) := by unfold hf3; rw [e2]; exact mfd_q rfl c2
    have e4 : hf4 t 0 (-1) = (2, 21) := by unfold hf4; rw [e3]; exact mfd_w rfl c3
    have e5 : hf5 t 0 (-1) = (2, 21) := by unfold hf5; rw [e4]; exact mfd_n (by decide : ¬ (2 : Int32) = 0)
    have e6 : hf6 t 0 (-1) = (2, 21) := by unfold hf6; rw [e5]; exact mfd_n (by decide : ¬ (2 : Int32) = 0)
    have e7 : hf7 t 0 (-1) = (2, 21) := by unfold hf7; rw [e6]; exact mfd_n (by decide : ¬ (2 : Int32) = 0)
    have e8 : hf8 t 0 (-1) = (2, 21) := by unfold hf8; rw [e7]; exact mfd_n (by decide : ¬ (2 : Int32) = 0)
    have e9 : hf9 t 0 (-1) = (2, 21) := by unfold hf9; rw [e8]; exact mfd_n (by decide : ¬ (2 : Int32) = 0)
    have e10 : hf10 t 0 (-1) = (2, 21) := by unfold hf10; rw [e9]; exact mfd_n (by decide : ¬ (2 : Int32) = 0)
    have e11 : hf11 t 0 (-1) = (2, 21) := by unfold hf11; rw [e10]; exact mfd_n (by decide : ¬ (2 : Int32) = 0)
    refine Or.inr ⟨by rw [ew]; decide, by rw [ew]; exact e11, ?_⟩
    unfold mgd
    rw [c3]
    simp only [Int32.zero_and, Int32.and_zero]
  by_cases c4 : hg4 t = 0
  · have ew : wfM t = 23 := by unfold wfM; rw [if_neg c0, if_neg c1, if_neg c2, if_neg c3, if_pos c4]
    have e0 : hf0 t 0 (-1) = (0, -1) := rfl
    have e1 : hf1 t 0 (-1) = (0, -1) := by unfold hf1; rw [e0]; exact mfd_q rfl c0
    have e2 : hf2 t 0 (-1) = (0, -1) := by unfold hf2; rw [e1]; exact mfd_q rfl c1
    have e3 : hf3 t 0 (-1) = (0, -1) := by unfold hf3; rw [e2]; exact mfd_q rfl c2
    have e4 : hf4 t 0 (-1) = (0, -1) := by unfold hf4; rw [e3]; exact mfd_q rfl c3
    have e5 : hf5 t 0 (-1) = (2, 23) := by unfold hf5; rw [e4]; exact mfd_w rfl c4
    have e6 : hf6 t 0 (-1) = (2, 23) := by unfold hf6; rw [e5]; exact mfd_n (by decide : ¬ (2 : Int32) = 0)
    have e7 : hf7 t 0 (-1) = (2, 23) := by unfold hf7; rw [e6]; exact mfd_n (by decide : ¬ (2 : Int32) = 0)
    have e8 : hf8 t 0 (-1) = (2, 23) := by unfold hf8; rw [e7]; exact mfd_n (by decide : ¬ (2 : Int32) = 0)
    have e9 : hf9 t 0 (-1) = (2, 23) := by unfold hf9; rw [e8]; exact mfd_n (by decide : ¬ (2 : Int32) = 0)
    have e10 : hf10 t 0 (-1) = (2, 23) := by unfold hf10; rw [e9]; exact mfd_n (by decide : ¬ (2 : Int32) = 0)
    have e11 : hf11 t 0 (-1) = (2, 23) := by unfold hf11; rw [e10]; exact mfd_n (by decide : ¬ (2 : Int32) = 0)
    refine Or.inr ⟨by rw [ew]; decide, by rw [ew]; exact e11, ?_⟩
    unfold mgd
    rw [c4]
    simp only [Int32.zero_and, Int32.and_zero]
  by_cases c5 : hg5 t = 0
  · have ew : wfM t = 27 := by unfold wfM; rw [if_neg c0, if_neg c1, if_neg c2, if_neg c3, if_neg c4, if_pos c5]
    have e0 : hf0 t 0 (-1) = (0, -1) := rfl
    have e1 : hf1 t 0 (-1) = (0, -1) := by unfold hf1; rw [e0]; exact mfd_q rfl c0
    have e2 : hf2 t 0 (-1) = (0, -1) := by unfold hf2; rw [e1]; exact mfd_q rfl c1
    have e3 : hf3 t 0 (-1) = (0, -1) := by unfold hf3; rw [e2]; exact mfd_q rfl c2
    have e4 : hf4 t 0 (-1) = (0, -1) := by unfold hf4; rw [e3]; exact mfd_q rfl c3
    have e5 : hf5 t 0 (-1) = (0, -1) := by unfold hf5; rw [e4]; exact mfd_q rfl c4
    have e6 : hf6 t 0 (-1) = (2, 27) := by unfold hf6; rw [e5]; exact mfd_w rfl c5
    have e7 : hf7 t 0 (-1) = (2, 27) := by unfold hf7; rw [e6]; exact mfd_n (by decide : ¬ (2 : Int32) = 0)
    have e8 : hf8 t 0 (-1) = (2, 27) := by unfold hf8; rw [e7]; exact mfd_n (by decide : ¬ (2 : Int32) = 0)
    have e9 : hf9 t 0 (-1) = (2, 27) := by unfold hf9; rw [e8]; exact mfd_n (by decide : ¬ (2 : Int32) = 0)
    have e10 : hf10 t 0 (-1) = (2, 27) := by unfold hf10; rw [e9]; exact mfd_n (by decide : ¬ (2 : Int32) = 0)
    have e11 : hf11 t 0 (-1) = (2, 27) := by unfold hf11; rw [e10]; exact mfd_n (by decide : ¬ (2 : Int32) = 0)
    refine Or.inr ⟨by rw [ew]; decide, by rw [ew]; exact e11, ?_⟩
    unfold mgd
    rw [c5]
    simp only [Int32.zero_and, Int32.and_zero]
  by_cases c6 : hg6 t = 0
  · have ew : wfM t = 35 := by unfold wfM; rw [if_neg c0, if_neg c1, if_neg c2, if_neg c3, if_neg c4, if_neg c5, if_pos c6]
    have e0 : hf0 t 0 (-1) = (0, -1) := rfl
    have e1 : hf1 t 0 (-1) = (0, -1) := by unfold hf1; rw [e0]; exact mfd_q rfl c0
    have e2 : hf2 t 0 (-1) = (0, -1) := by unfold hf2; rw [e1]; exact mfd_q rfl c1
    have e3 : hf3 t 0 (-1) = (0, -1) := by unfold hf3; rw [e2]; exact mfd_q rfl c2
    have e4 : hf4 t 0 (-1) = (0, -1) := by unfold hf4; rw [e3]; exact mfd_q rfl c3
    have e5 : hf5 t 0 (-1) = (0, -1) := by unfold hf5; rw [e4]; exact mfd_q rfl c4
    have e6 : hf6 t 0 (-1) = (0, -1) := by unfold hf6; rw [e5]; exact mfd_q rfl c5
    have e7 : hf7 t 0 (-1) = (2, 35) := by unfold hf7; rw [e6]; exact mfd_w rfl c6
    have e8 : hf8 t 0 (-1) = (2, 35) := by unfold hf8; rw [e7]; exact mfd_n (by decide : ¬ (2 : Int32) = 0)
    have e9 : hf9 t 0 (-1) = (2, 35) := by unfold hf9; rw [e8]; exact mfd_n (by decide : ¬ (2 : Int32) = 0)
    have e10 : hf10 t 0 (-1) = (2, 35) := by unfold hf10; rw [e9]; exact mfd_n (by decide : ¬ (2 : Int32) = 0)
    have e11 : hf11 t 0 (-1) = (2, 35) := by unfold hf11; rw [e10]; exact mfd_n (by decide : ¬ (2 : Int32) = 0)
    refine Or.inr ⟨by rw [ew]; decide, by rw [ew]; exact e11, ?_⟩
    unfold mgd
    rw [c6]
    simp only [Int32.zero_and, Int32.and_zero]
  by_cases c7 : hg7 t = 0
  · have ew : wfM t = 43 := by unfold wfM; rw [if_neg c0, if_neg c1, if_neg c2, if_neg c3, if_neg c4, if_neg c5, if_neg c6, if_pos c7]
    have e0 : hf0 t 0 (-1) = (0, -1) := rfl
    have e1 : hf1 t 0 (-1) = (0, -1) := by unfold hf1; rw [e0]; exact mfd_q rfl c0
    have e2 : hf2 t 0 (-1) = (0, -1) := by unfold hf2; rw [e1]; exact mfd_q rfl c1
    have e3 : hf3 t 0 (-1) = (0, -1) := by unfold hf3; rw [e2]; exact mfd_q rfl c2
    have e4 : hf4 t 0 (-1) = (0, -1) := by unfold hf4; rw [e3]; exact mfd_q rfl c3
    have e5 : hf5 t 0 (-1) = (0, -1) := by unfold hf5; rw [e4]; exact mfd_q rfl c4
    have e6 : hf6 t 0 (-1) = (0, -1) := by unfold hf6; rw [e5]; exact mfd_q rfl c5
    have e7 : hf7 t 0 (-1) = (0, -1) := by unfold hf7; rw [e6]; exact mfd_q rfl c6
    have e8 : hf8 t 0 (-1) = (2, 43) := by unfold hf8; rw [e7]; exact mfd_w rfl c7
    have e9 : hf9 t 0 (-1) = (2, 43) := by unfold hf9; rw [e8]; exact mfd_n (by decide : ¬ (2 : Int32) = 0)
    have e10 : hf10 t 0 (-1) = (2, 43) := by unfold hf10; rw [e9]; exact mfd_n (by decide : ¬ (2 : Int32) = 0)
    have e11 : hf11 t 0 (-1) = (2, 43) := by unfold hf11; rw [e10]; exact mfd_n (by decide : ¬ (2 : Int32) = 0)
    refine Or.inr ⟨by rw [ew]; decide, by rw [ew]; exact e11, ?_⟩
    unfold mgd
    rw [c7]
    simp only [Int32.zero_and, Int32.and_zero]
  by_cases c8 : hg8 t = 0
  · have ew : wfM t = 51 := by unfold wfM; rw [if_neg c0, if_neg c1, if_neg c2, if_neg c3, if_neg c4, if_neg c5, if_neg c6, if_neg c7, if_pos c8]
    have e0 : hf0 t 0 (-1) = (0, -1) := rfl
    have e1 : hf1 t 0 (-1) = (0, -1) := by unfold hf1; rw [e0]; exact mfd_q rfl c0
    have e2 : hf2 t 0 (-1) = (0, -1) := by unfold hf2; rw [e1]; exact mfd_q rfl c1
    have e3 : hf3 t 0 (-1) = (0, -1) := by unfold hf3; rw [e2]; exact mfd_q rfl c2
    have e4 : hf4 t 0 (-1) = (0, -1) := by unfold hf4; rw [e3]; exact mfd_q rfl c3
    have e5 : hf5 t 0 (-1) = (0, -1) := by unfold hf5; rw [e4]; exact mfd_q rfl c4
    have e6 : hf6 t 0 (-1) = (0, -1) := by unfold hf6; rw [e5]; exact mfd_q rfl c5
    have e7 : hf7 t 0 (-1) = (0, -1) := by unfold hf7; rw [e6]; exact mfd_q rfl c6
    have e8 : hf8 t 0 (-1) = (0, -1) := by unfold hf8; rw [e7]; exact mfd_q rfl c7
    have e9 : hf9 t 0 (-1) = (2, 51) := by unfold hf9; rw [e8]; exact mfd_w rfl c8
    have e10 : hf10 t 0 (-1) = (2, 51) := by unfold hf10; rw [e9]; exact mfd_n (by decide : ¬ (2 : Int32) = 0)
    have e11 : hf11 t 0 (-1) = (2, 51) := by unfold hf11; rw [e10]; exact mfd_n (by decide : ¬ (2 : Int32) = 0)
    refine Or.inr ⟨by rw [ew]; decide, by rw [ew]; exact e11, ?_⟩
    unfold mgd
    rw [c8]
    simp only [Int32.zero_and, Int32.and_zero]
  by_cases c9 : hg9 t = 0
  · have ew : wfM t = 53 := by unfold wfM; rw [if_neg c0, if_neg c1, if_neg c2, if_neg c3, if_neg c4, if_neg c5, if_neg c6, if_neg c7, if_neg c8, if_pos c9]
    have e0 : hf0 t 0 (-1) = (0, -1) := rfl
    have e1 : hf1 t 0 (-1) = (0, -1) := by unfold hf1; rw [e0]; exact mfd_q rfl c0
    have e2 : hf2 t 0 (-1) = (0, -1) := by unfold hf2; rw [e1]; exact mfd_q rfl c1
    have e3 : hf3 t 0 (-1) = (0, -1) := by unfold hf3; rw [e2]; exact mfd_q rfl c2
    have e4 : hf4 t 0 (-1) = (0, -1) := by unfold hf4; rw [e3]; exact mfd_q rfl c3
    have e5 : hf5 t 0 (-1) = (0, -1) := by unfold hf5; rw [e4]; exact mfd_q rfl c4
    have e6 : hf6 t 0 (-1) = (0, -1) := by unfold hf6; rw [e5]; exact mfd_q rfl c5
    have e7 : hf7 t 0 (-1) = (0, -1) := by unfold hf7; rw [e6]; exact mfd_q rfl c6
    have e8 : hf8 t 0 (-1) = (0, -1) := by unfold hf8; rw [e7]; exact mfd_q rfl c7
    have e9 : hf9 t 0 (-1) = (0, -1) := by unfold hf9; rw [e8]; exact mfd_q rfl c8
    have e10 : hf10 t 0 (-1) = (2, 53) := by unfold hf10; rw [e9]; exact mfd_w rfl c9
    have e11 : hf11 t 0 (-1) = (2, 53) := by unfold hf11; rw [e10]; exact mfd_n (by decide : ¬ (2 : Int32) = 0)
    refine Or.inr ⟨by rw [ew]; decide, by rw [ew]; exact e11, ?_⟩
    unfold mgd
    rw [c9]
    simp only [Int32.zero_and, Int32.and_zero]
  by_cases c10 : hg10 t = 0
  · have ew : wfM t = 57 := by unfold wfM; rw [if_neg c0, if_neg c1, if_neg c2, if_neg c3, if_neg c4, if_neg c5, if_neg c6, if_neg c7, if_neg c8, if_neg c9, if_pos c10]
    have e0 : hf0 t 0 (-1) = (0, -1) := rfl
    have e1 : hf1 t 0 (-1) = (0, -1) := by unfold hf1; rw [e0]; exact mfd_q rfl c0
    have e2 : hf2 t 0 (-1) = (0, -1) := by unfold hf2; rw [e1]; exact mfd_q rfl c1
    have e3 : hf3 t 0 (-1) = (0, -1) := by unfold hf3; rw [e2]; exact mfd_q rfl c2
    have e4 : hf4 t 0 (-1) = (0, -1) := by unfold hf4; rw [e3]; exact mfd_q rfl c3
    have e5 : hf5 t 0 (-1) = (0, -1) := by unfold hf5; rw [e4]; exact mfd_q rfl c4
    have e6 : hf6 t 0 (-1) = (0, -1) := by unfold hf6; rw [e5]; exact mfd_q rfl c5
    have e7 : hf7 t 0 (-1) = (0, -1) := by unfold hf7; rw [e6]; exact mfd_q rfl c6
    have e8 : hf8 t 0 (-1) = (0, -1) := by unfold hf8; rw [e7]; exact mfd_q rfl c7
    have e9 : hf9 t 0 (-1) = (0, -1) := by unfold hf9; rw [e8]; exact mfd_q rfl c8
    have e10 : hf10 t 0 (-1) = (0, -1) := by unfold hf10; rw [e9]; exact mfd_q rfl c9
    have e11 : hf11 t 0 (-1) = (2, 57) := by unfold hf11; rw [e10]; exact mfd_w rfl c10
    refine Or.inr ⟨by rw [ew]; decide, by rw [ew]; exact e11, ?_⟩
    unfold mgd
    rw [c10]
    simp only [Int32.zero_and, Int32.and_zero]
  have e0 : hf0 t 0 (-1) = (0, -1) := rfl
  have e1 : hf1 t 0 (-1) = (0, -1) := by unfold hf1; rw [e0]; exact mfd_q rfl c0
  have e2 : hf2 t 0 (-1) = (0, -1) := by unfold hf2; rw [e1]; exact mfd_q rfl c1
  have e3 : hf3 t 0 (-1) = (0, -1) := by unfold hf3; rw [e2]; exact mfd_q rfl c2
  have e4 : hf4 t 0 (-1) = (0, -1) := by unfold hf4; rw [e3]; exact mfd_q rfl c3
  have e5 : hf5 t 0 (-1) = (0, -1) := by unfold hf5; rw [e4]; exact mfd_q rfl c4
  have e6 : hf6 t 0 (-1) = (0, -1) := by unfold hf6; rw [e5]; exact mfd_q rfl c5
  have e7 : hf7 t 0 (-1) = (0, -1) := by unfold hf7; rw [e6]; exact mfd_q rfl c6
  have e8 : hf8 t 0 (-1) = (0, -1) := by unfold hf8; rw [e7]; exact mfd_q rfl c7
  have e9 : hf9 t 0 (-1) = (0, -1) := by unfold hf9; rw [e8]; exact mfd_q rfl c8
  have e10 : hf10 t 0 (-1) = (0, -1) := by unfold hf10; rw [e9]; exact mfd_q rfl c9
  have e11 : hf11 t 0 (-1) = (0, -1) := by unfold hf11; rw [e10]; exact mfd_q rfl c10
  exact Or.inl ⟨by unfold wfM; rw [if_neg c0, if_neg c1, if_neg c2, if_neg c3, if_neg c4, if_neg c5, if_neg c6, if_neg c7, if_neg c8, if_neg c9, if_neg c10], e11⟩
