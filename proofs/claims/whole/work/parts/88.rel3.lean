/-! the head's fields, the checksum, the whole judgement -/
theorem fl_le {a b : Int64} {x y : Int32} : (if a ≤ b then x else y) = (if b < a then y else x) := by
  by_cases c : b < a
  · rw [if_pos c, if_neg (fun h => absurd c (Int64.not_lt.mpr h))]
  · rw [if_neg c, if_pos (Int64.not_lt.mp c)]
theorem fl_e {c : Prop} [Decidable c] {a b : Int32} : (if c then a else b) = (if (if c then (1 : Int32) else 0) = 0 then b else a) := by
  by_cases h : c
  · rw [if_pos h, if_pos h, if_neg (by decide)]
  · rw [if_neg h, if_neg h, if_pos rfl]
theorem fl_n {c : Prop} [Decidable c] {a b : Int32} : (if c then b else a) = (if (if c then (0 : Int32) else 1) = 0 then b else a) := by
  by_cases h : c
  · rw [if_pos h, if_pos h, if_pos rfl]
  · rw [if_neg h, if_neg h, if_neg (by decide)]
theorem fl_2 {c d : Prop} [Decidable c] [Decidable d] {a b : Int32} : (if c then b else if d then b else a) = (if (if c then (0 : Int32) else if d then 0 else 1) = 0 then b else a) := by
  by_cases h : c
  · rw [if_pos h, if_pos h, if_pos rfl]
  · rw [if_neg h, if_neg h]; exact fl_n
section RL3
variable {f t : Nat → Int32} {B : Nat → Nat} {k : Nat}
theorem sg (hB : pB f B k) (hT : pT t B k) (hk : k ≤ 16384) (p j : Nat) (h : p + j ≤ k) (hj : j = 1 ∨ j = 2 ∨ j = 4 ∨ j = 8) : sgn (tb f k) (nI p) j = mnum t p j := num_eq hB hT (by omega) h hj
theorem t16 (hT : pT t B k) (h : 17 ≤ k) : mnum t 16 1 = 2 ↔ t 16 = 2 := by
  obtain ⟨b1, b2⟩ := hT 16 (by omega)
  have hi := mnum_int (p := 16) (j := 0) hT (by omega) (by omega)
  have e2 : (2 : Int64).toInt = 2 := by decide
  have eU : pU B 16 (0 + 1) = B 16 := by
    show pU B 16 0 * 256 + B (16 + 0) = B 16
    show 0 * 256 + B 16 = B 16
    omega
  unfold sI at hi
  rw [eU] at hi
  have e3 : (2 : Int32) = nI 2 := rfl
  rw [b2, e3, nI_eq (by omega) (by omega), ← Int64.toInt_inj, e2, hi]
  by_cases c : 128 ≤ B 16
  · rw [if_pos c]; omega
  · rw [if_neg c]; omega
theorem wf_eq (hB : pB f B k) (hT : pT t B k) (hk : k ≤ 16384) (h61 : 61 ≤ k) : wfC (tb f k) = wfM t := by
  have a0 : sgn (tb f k) 0 8 = mnum t 0 8 := sg hB hT hk 0 8 (by omega) (by omega)
  have a12 : sgn (tb f k) 12 4 = mnum t 12 4 := sg hB hT hk 12 4 (by omega) (by omega)
  have a16 : sgn (tb f k) 16 1 = mnum t 16 1 := sg hB hT hk 16 1 (by omega) (by omega)
  have a21 : sgn (tb f k) 21 2 = mnum t 21 2 := sg hB hT hk 21 2 (by omega) (by omega)
  have a23 : sgn (tb f k) 23 4 = mnum t 23 4 := sg hB hT hk 23 4 (by omega) (by omega)
  have a27 : sgn (tb f k) 27 8 = mnum t 27 8 := sg hB hT hk 27 8 (by omega) (by omega)
  have a35 : sgn (tb f k) 35 8 = mnum t 35 8 := sg hB hT hk 35 8 (by omega) (by omega)
  have a43 : sgn (tb f k) 43 8 = mnum t 43 8 := sg hB hT hk 43 8 (by omega) (by omega)
  have a51 : sgn (tb f k) 51 2 = mnum t 51 2 := sg hB hT hk 51 2 (by omega) (by omega)
  have a53 : sgn (tb f k) 53 4 = mnum t 53 4 := sg hB hT hk 53 4 (by omega) (by omega)
  have a57 : sgn (tb f k) 57 4 = mnum t 57 4 := sg hB hT hk 57 4 (by omega) (by omega)
  have h16 := t16 hT (show 17 ≤ k by omega)
  unfold wfC wpC isT fitP wfM hg0 hg1 hg2 hg3 hg4 hg5 hg6 hg7 hg8 hg9 hg10
  rw [a0, a12, a16, a21, a23, a27, a35, a43, a51, a53, a57]
  generalize mnum t 0 8 = v0
  generalize mnum t 12 4 = v12
  generalize mnum t 16 1 = v16 at h16 ⊢
  generalize mnum t 21 2 = v21
  generalize mnum t 23 4 = v23
  generalize mnum t 27 8 = v27
  generalize mnum t 35 8 = v35
  generalize mnum t 43 8 = v43
  generalize mnum t 51 2 = v51
  generalize mnum t 53 4 = v53
  generalize mnum t 57 4 = v57
  generalize t 16 = t6 at h16 ⊢
  have one : ¬ (1 : Int32) = 0 := by decide
  by_cases c0 : v0 = 0
  rotate_left
  · rw [if_neg c0, if_neg c0, if_pos rfl]
  rw [if_pos c0, if_pos c0, if_neg one]
  by_cases c12 : v12 = 0
  rotate_left
  · rw [if_neg c12, if_neg c12, if_pos rfl]
  rw [if_pos c12, if_pos c12, if_neg one]
  by_cases c16 : t6 = 2
  rotate_left
  · rw [if_neg (fun h => c16 (h16.mp h)), if_neg c16, if_pos rfl]
  rw [if_pos (h16.mpr c16), if_pos c16, if_neg one]
  by_cases c21 : v21 = 0
  rotate_left
  · rw [if_neg c21, if_neg c21, if_pos rfl]
  rw [if_pos c21, if_pos c21, if_neg one]
  by_cases c23 : v23 = v57 - 1
  rotate_left
  · rw [if_neg c23, if_neg c23, if_pos rfl]
  rw [if_pos c23, if_pos c23, if_neg one]
  generalize (if v27 < 0 then (0 : Int32) else if 1125899906842624 < v27 then 0 else 1) = b5
  by_cases c5 : b5 = 0
  · rw [if_pos c5, if_pos c5]
  rw [if_neg c5, if_neg c5]
  generalize (if v35 < 0 then (0 : Int32) else if 1125899906842624 < v35 then 0 else 1) = b6
  by_cases c6 : b6 = 0
  · rw [if_pos c6, if_pos c6]
  rw [if_neg c6, if_neg c6]
  by_cases c7 : v43 < -1
  · rw [if_pos c7, if_pos c7, if_pos rfl]
  rw [if_neg c7, if_neg c7]
  by_cases c7b : 1125899906842624 < v43
  · rw [if_neg (fun h => absurd c7b (Int64.not_lt.mpr h)), if_pos c7b, if_pos rfl]
  rw [if_pos (Int64.not_lt.mp c7b), if_neg c7b, if_neg one]
  generalize (if v43 = -1 then (if v51 = -1 then (1 : Int32) else 0) else if v51 < 0 then 0 else 1) = b8
  by_cases c8 : b8 = 0
  · rw [if_pos c8, if_pos c8]
  rw [if_neg c8, if_neg c8]
  generalize (if v43 = -1 then (if v53 = -1 then (1 : Int32) else 0) else if v53 < 0 then 0 else 1) = b9
  by_cases c9 : b9 = 0
  · rw [if_pos c9, if_pos c9]
  rw [if_neg c9, if_neg c9]
  by_cases c10 : v57 < 1
  · rw [if_pos c10, if_pos c10, if_pos rfl]
  rw [if_neg c10, if_neg c10]
  by_cases c10b : 1000 < v57
  · rw [if_neg (fun h => absurd c10b (Int64.not_lt.mpr h)), if_pos c10b, if_pos rfl]
  rw [if_pos (Int64.not_lt.mp c10b), if_neg c10b, if_neg one]
theorem nI_hi {N : Nat} (h : N < 2 ^ 32) : (nI N).toInt = if N < 2 ^ 31 then (N : Int) else (N : Int) - 2 ^ 32 := by
  have e := pk_tn h
  show (nI N).toBitVec.toInt = _
  rw [BitVec.toInt_eq_toNat_cond, e]
  by_cases c : N < 2 ^ 31
  · rw [if_pos c, if_pos (by omega)]
  · rw [if_neg c, if_neg (by omega)]; rfl
theorem ck_iff (hB : pB f B k) (hT : pT t B k) (hk : k ≤ 16384) (h61 : 61 ≤ k) : sgn (tb f k) 17 4 = (ckC f 21 (k - 21)).toInt64 ↔ mnl t 0 17 4 = ckM t 21 (k - 21) := by
  have hN := ckN_lt (B := B) (i := 21) (n := k - 21) (fun j hj => (hB (21 + j) (by omega)).1)
  have s1 := sgn_int (p := 17) (j := 4) hB (by omega) (by omega) (by omega)
  have hb : ∀ i, i < 3 + 1 → B (17 + i) < 256 := fun i hi => (hB (17 + i) (by omega)).1
  have hU := pU_lt (p := 17) (j := 4) hb
  have hh := pU_hi (p := 17) (j := 3) hb
  rw [ckC_eq hB (by omega), ckM_eq hT (by omega), mnl0_eq hT 4 (by omega) (by omega), pk_lEQ (by omega) (by omega), ← Int64.toInt_inj]
  have s1' : (sgn (tb f k) 17 4).toInt = sI B 17 4 := s1
  rw [s1', Int32.toInt_toInt64, nI_hi hN]
  unfold sI
  have e4 : (256 : Nat) ^ 4 = 4294967296 := by decide
  have e3 : (256 : Nat) ^ 3 = 16777216 := by decide
  rw [e4] at hU ⊢
  rw [e3] at hh
  obtain ⟨h1, h2⟩ := hh
  have e5 : pU B 17 (3 + 1) = pU B 17 4 := rfl
  rw [e5] at h1 h2
  by_cases c : 128 ≤ B 17
  · have := h1 c
    rw [if_pos c]
    by_cases c2 : ckN B 21 (k - 21) < 2 ^ 31
    · rw [if_pos c2]; omega
    · rw [if_neg c2]; omega
  · have := h2 (by omega)
    rw [if_neg c]
    by_cases c2 : ckN B 21 (k - 21) < 2 ^ 31
    · rw [if_pos c2]; omega
    · rw [if_neg c2]; omega
theorem hg5_t (h : hg5 t = 1) : 0 ≤ mnum t 27 8 ∧ mnum t 27 8 ≤ 1125899906842624 := by
  unfold hg5 at h
  by_cases c : mnum t 27 8 < 0
  · rw [if_pos c] at h; exact absurd h (by decide)
  · rw [if_neg c] at h
    by_cases c2 : 1125899906842624 < mnum t 27 8
    · rw [if_pos c2] at h; exact absurd h (by decide)
    · exact ⟨Int64.not_lt.mp c, Int64.not_lt.mp c2⟩
/-- what the class and the reference find is the same -/
theorem jg_eq (hB : pB f B k) (hT : pT t B k) (hk : k ≤ 16384) : jgC f k = mrd t k := by
  unfold jgC mrd
  by_cases c61 : nI k < 61
  · rw [if_pos c61, if_pos c61]
  rw [if_neg c61, if_neg c61]
  have h61 : 61 ≤ k := by rcases Nat.lt_or_ge k 61 with h | h; exact absurd (nI_lt (b := 61) h (by omega)) c61; exact h
  have a8 : sgn (tb f k) 8 4 = mnum t 8 4 := sg hB hT hk 8 4 (by omega) (by omega)
  have a27 : sgn (tb f k) 27 8 = mnum t 27 8 := sg hB hT hk 27 8 (by omega) (by omega)
  have a35 : sgn (tb f k) 35 8 = mnum t 35 8 := sg hB hT hk 35 8 (by omega) (by omega)
  have a57 : sgn (tb f k) 57 4 = mnum t 57 4 := sg hB hT hk 57 4 (by omega) (by omega)
  rw [a8]
  by_cases c8 : mnum t 8 4 = (nI k - 12).toInt64
  rotate_left
  · rw [if_neg c8, if_neg c8]
  rw [if_pos c8, if_pos c8, wf_eq hB hT hk h61]
  rcases hf_wf t with ⟨w, h⟩ | ⟨w, h, g⟩
  · have h1 : (hf11 t 0 (-1)).1 = 0 := by rw [h]
    have hg := mgd_1 h1
    have hall := hf_all h1
    have hft := hg5_t hall.2.2.2.2.2.1
    have ci := ck_iff hB hT hk h61
    rw [if_pos w]
    by_cases cc : mnl t 0 17 4 = ckM t 21 (k - 21)
    · have eA : mhA t k 0 (-1) = 0 := by unfold mhA; rw [hg, if_neg (by decide : ¬ (1 : Int32) = 0), st8_4, if_pos cc, h]
      have eQ : mhQ t k 0 (-1) = -1 := by unfold mhQ; rw [hg, if_neg (by decide : ¬ (1 : Int32) = 0), st8_4, if_pos cc, h]
      rw [if_pos (ci.mpr cc), eA, eQ, if_pos (by decide : (0 : Int32) ≤ 0), a27, a35, a57]
      exact jr_rel hB hT hk hft.1 hft.2 _ 0 61 0 h61
    · have eA : mhA t k 0 (-1) = 3 := by unfold mhA; rw [hg, if_neg (by decide : ¬ (1 : Int32) = 0), st8_4, if_neg cc]
      have eQ : mhQ t k 0 (-1) = 17 := by unfold mhQ; rw [hg, if_neg (by decide : ¬ (1 : Int32) = 0), st8_4, if_neg cc]
      rw [if_neg (fun q => cc (ci.mp q)), eA, eQ, if_neg (by decide : ¬ (3 : Int32) ≤ 0)]
  · have eA : mhA t k 0 (-1) = 2 := by unfold mhA; rw [if_pos g, h]
    have eQ : mhQ t k 0 (-1) = wfM t := by unfold mhQ; rw [if_pos g, h]
    rw [if_neg w, eA, eQ, if_neg (by decide : ¬ (2 : Int32) ≤ 0)]
/-- a tape without fault -/
theorem jg_0 (hB : pB f B k) (hT : pT t B k) (hk : k ≤ 16384) (h : (jgC f k).1 = 0) : 61 ≤ k ∧ 0 ≤ mnum t 27 8 ∧ mnum t 27 8 ≤ 1125899906842624 ∧ (∃ cn, cn ≤ 1000 ∧ mnum t 57 4 = lN cn ∧ ∀ j, j < cn → rdP (tb f k) (nI k) (mnum t 27 8) j = nI (mdP t k (mnum t 27 8) j) ∧ mdP t k (mnum t 27 8) j ≤ k ∧ ¬ mrS t k (mnum t 27 8) (nI j) (mdP t k (mnum t 27 8) j) = 0) := by
  unfold jgC at h
  by_cases c61 : nI k < 61
  · rw [if_pos c61] at h; exact absurd h (by decide : ¬ (1 : Int32) = 0)
  rw [if_neg c61] at h
  have h61 : 61 ≤ k := by rcases Nat.lt_or_ge k 61 with h | h; exact absurd (nI_lt (b := 61) h (by omega)) c61; exact h
  by_cases c8 : sgn (tb f k) 8 4 = (nI k - 12).toInt64
  rotate_left
  · rw [if_neg c8] at h; exact absurd h (by decide : ¬ (1 : Int32) = 0)
  rw [if_pos c8] at h
  by_cases w : wfC (tb f k) = -1
  rotate_left
  · rw [if_neg w] at h; exact absurd h (by decide : ¬ (2 : Int32) = 0)
  rw [if_pos w] at h
  by_cases cc : sgn (tb f k) 17 4 = (ckC f 21 (k - 21)).toInt64
  rotate_left
  · rw [if_neg cc] at h; exact absurd h (by decide : ¬ (3 : Int32) = 0)
  rw [if_pos cc] at h
  have a27 : sgn (tb f k) 27 8 = mnum t 27 8 := sg hB hT hk 27 8 (by omega) (by omega)
  have a57 : sgn (tb f k) 57 4 = mnum t 57 4 := sg hB hT hk 57 4 (by omega) (by omega)
  have hcn := wf_cn w
  rw [wf_eq hB hT hk h61] at w
  rcases hf_wf t with ⟨-, g⟩ | ⟨g, -⟩
  rotate_left
  · exact absurd w g
  have hft := hg5_t (hf_all (show (hf11 t 0 (-1)).1 = 0 by rw [g])).2.2.2.2.2.1
  rw [a57] at hcn h
  rw [a27] at h
  exact ⟨h61, hft.1, hft.2, _, hcn.2, hcn.1, fun j hj => jr_all hB hT hk hft.1 hft.2 _ 0 0 rfl h61 h j (Nat.zero_le _) (by omega)⟩
end RL3
