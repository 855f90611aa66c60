/-! answers of head and told; bytes put; the draft -/
section RL4
variable {f t : Nat → Int32} {B : Nat → Nat} {k : Nat}
theorem hd_eq (hB : pB f B k) (hT : pT t B k) (hk : k ≤ 16384) (h61 : 61 ≤ k) {w : Int32} (h0 : ¬ w < 0) (h5 : w ≤ 5) : hdC (tb f k) w = mhd t w := by
  have a27 : sgn (tb f k) 27 8 = mnum t 27 8 := sg hB hT hk 27 8 (by omega) (by omega)
  have a35 : sgn (tb f k) 35 8 = mnum t 35 8 := sg hB hT hk 35 8 (by omega) (by omega)
  have a43 : sgn (tb f k) 43 8 = mnum t 43 8 := sg hB hT hk 43 8 (by omega) (by omega)
  have a51 : sgn (tb f k) 51 2 = mnum t 51 2 := sg hB hT hk 51 2 (by omega) (by omega)
  have a53 : sgn (tb f k) 53 4 = mnum t 53 4 := sg hB hT hk 53 4 (by omega) (by omega)
  have a57 : sgn (tb f k) 57 4 = mnum t 57 4 := sg hB hT hk 57 4 (by omega) (by omega)
  unfold hdC mhd
  rw [a27, a35, a43, a51, a53, a57]
  by_cases c0 : w = 0
  · rw [if_pos c0, if_pos c0]
  by_cases c1 : w = 1
  · rw [if_neg c0, if_neg c0, if_pos c1, if_pos c1]
  by_cases c2 : w = 2
  · rw [if_neg c0, if_neg c0, if_neg c1, if_neg c1, if_pos c2, if_pos c2]
  by_cases c3 : w = 3
  · rw [if_neg c0, if_neg c0, if_neg c1, if_neg c1, if_neg c2, if_neg c2, if_pos c3, if_pos c3]
  by_cases c4 : w = 4
  · rw [if_neg c0, if_neg c0, if_neg c1, if_neg c1, if_neg c2, if_neg c2, if_neg c3, if_neg c3, if_pos c4, if_pos c4]
  by_cases c5 : w = 5
  · rw [if_neg c0, if_neg c0, if_neg c1, if_neg c1, if_neg c2, if_neg c2, if_neg c3, if_neg c3, if_neg c4, if_neg c4, if_pos c5]
  exact (sw_no h0 h5 c0 c1 c2 c3 c4 c5).elim
theorem v_back {v : Int64} {p : Nat} (h : vOk v p k) (hk : k ≤ 16384) : v.toInt32.toInt64 = v := by
  rcases h with rfl | ⟨n, rfl, h⟩
  · decide
  · rw [lN_i, nI_l (by omega)]
theorem v_eight (hB : pB f B k) (hT : pT t B k) (hk : k ≤ 16384) {v : Int64} {p : Nat} (h : vOk v p k) : uns (tb f k) (nI p) (f8 v.toInt32) = mnl t 0 p (st8 v) := by
  rcases h with rfl | ⟨n, rfl, h⟩
  · have e1 : f8 (-1 : Int64).toInt32 = 0 := by decide
    have e2 : st8 (-1) = 0 := by decide
    rw [e1, e2]; rfl
  · have e1 : f8 (lN n).toInt32 = min 8 n := by unfold f8; rw [lN_i, nI_clamp (by omega)]
    have e2 : st8 (lN n) = min 8 n := by
      unfold st8
      have : (lN n).toNatClampNeg = n := by
        show (lN n).toInt.toNat = n
        rw [pk_lT (by omega)]; rfl
      rw [this]
    rw [e1, e2, uns_eq hB (by omega) _ (by omega) (by omega), mnl0_eq hT _ (by omega) (by omega)]
theorem td_eq (hB : pB f B k) (hT : pT t B k) (hk : k ≤ 16384) (h61 : 61 ≤ k) (hf0 : 0 ≤ mnum t 27 8) (hf1 : mnum t 27 8 ≤ 1125899906842624) {q : Nat} (hr : rdP (tb f k) (nI k) (mnum t 27 8) q = nI (mdP t k (mnum t 27 8) q)) (hm : mdP t k (mnum t 27 8) q ≤ k) (hs : ¬ mrS t k (mnum t 27 8) (nI q) (mdP t k (mnum t 27 8) q) = 0) {w : Int32} (h0 : ¬ w < 0) (h5 : w ≤ 5) : tdC (tb f k) (nI k) q w = mtd t k q w := by
  have a27 : sgn (tb f k) 27 8 = mnum t 27 8 := sg hB hT hk 27 8 (by omega) (by omega)
  rcases rec_rel (num := nI q) hB hT hk hf0 hf1 hm with ⟨-, -, -, -, tt, kl, ko, kp, vl, vo, vp⟩ | ⟨-, h⟩
  rotate_left
  · exact absurd h hs
  unfold tdC mtd
  rw [a27, hr, tt, kl, kp, vl, vp, v_back ko hk, v_back vo hk, v_eight hB hT hk ko, v_eight hB hT hk vo]
  by_cases c0 : w = 0
  · rw [if_pos c0, if_pos c0]
  by_cases c1 : w = 1
  · rw [if_neg c0, if_neg c0, if_pos c1, if_pos c1]
  by_cases c2 : w = 2
  · rw [if_neg c0, if_neg c0, if_neg c1, if_neg c1, if_pos c2, if_pos c2]
  by_cases c3 : w = 3
  · rw [if_neg c0, if_neg c0, if_neg c1, if_neg c1, if_neg c2, if_neg c2, if_pos c3, if_pos c3]
  by_cases c4 : w = 4
  · rw [if_neg c0, if_neg c0, if_neg c1, if_neg c1, if_neg c2, if_neg c2, if_neg c3, if_neg c3, if_pos c4, if_pos c4]
  by_cases c5 : w = 5
  · rw [if_neg c0, if_neg c0, if_neg c1, if_neg c1, if_neg c2, if_neg c2, if_neg c3, if_neg c3, if_neg c4, if_neg c4, if_pos c5]
  exact (sw_no h0 h5 c0 c1 c2 c3 c4 c5).elim
theorem hs_C (hB : pB f B k) (hT : pT t B k) (hk : k ≤ 16384) (hf0 : 0 ≤ mnum t 27 8) (hf1 : mnum t 27 8 ≤ 1125899906842624) {q : Nat} (hr : rdP (tb f k) (nI k) (mnum t 27 8) q = nI (mdP t k (mnum t 27 8) q)) (hm : mdP t k (mnum t 27 8) q ≤ k) (hs : ¬ mrS t k (mnum t 27 8) (nI q) (mdP t k (mnum t 27 8) q) = 0) : ¬ rrS (tb f k) (nI k) (mnum t 27 8) (nI q) (rdP (tb f k) (nI k) (mnum t 27 8) q) = 0 := by
  rw [hr]
  rcases rec_rel (num := nI q) hB hT hk hf0 hf1 hm with ⟨h, -⟩ | ⟨-, h⟩
  · exact h
  · exact absurd h hs
end RL4
section RL5
variable {f f1 tp : Nat → Int32} {k : Nat}
theorem rb_cong (h : RB tp f k) (he : ∀ i, i < k → f1 i = f i) : RB tp f1 k := fun i hi => by rw [he i hi]; exact h i hi
theorem rb_le (h : RB tp f k) {j : Nat} (hj : j ≤ k) : RB tp f j := fun i hi => h i (by omega)
theorem rb_wr (h : RB tp f k) (L : List Int32) : RB (wrI tp k L) (wrB f k L) (k + L.length) := by
  induction L generalizing tp f k with
  | nil => exact h
  | cons x L ih =>
    rw [wrI, wrB, List.length_cons, show k + (L.length + 1) = k + 1 + L.length by omega]
    refine ih (fun i hi => ?_)
    by_cases c : i = k
    · subst c; rw [pk_us, pk_us, bp_b]
    · rw [pk_un c, pk_un c]; exact h i (by omega)
theorem rb_upd (h : RB tp f k) {j : Nat} {x y : Int32} (e : y = x.toInt8.toInt32 &&& 255) : RB (upd tp j y) (upd f j x.toInt8.toInt32) k := fun i hi => by
  by_cases c : i = j
  · subst c; rw [pk_us, pk_us]; exact e
  · rw [pk_un c, pk_un c]; exact h i hi
theorem shr_b {N d : Nat} (hN : N < 2 ^ 32) (s : Int32) (hs : (s.toBitVec.smod 32).toNat = d) (hd : d = 0 ∨ d = 8 ∨ d = 16 ∨ d = 24) : (nI N >>> s) &&& 255 = nI (N / 2 ^ d % 256) := by
  rw [pk_and _ (m := 255) 8 (by decide)]
  refine congrArg nI ?_
  have h1 := pk_shr (nI N) s d hs
  rw [nI_hi hN, Int.shiftRight_eq_div_pow] at h1
  have h2 : (nI N >>> s).toInt = (nI N >>> s).toBitVec.toInt := rfl
  rw [h2, BitVec.toInt_eq_toNat_cond] at h1
  generalize (nI N >>> s).toBitVec.toNat = y at h1 ⊢
  rcases hd with rfl | rfl | rfl | rfl
  all_goals (by_cases c : N < 2 ^ 31 <;> by_cases c2 : 2 * y < 2 ^ 32)
  all_goals (first | rw [if_pos c] at h1 | rw [if_neg c] at h1)
  all_goals (first | rw [if_pos c2] at h1 | rw [if_neg c2] at h1)
  all_goals (simp only [Nat.reducePow, Int.reducePow] at h1 ⊢; omega)
theorem ck_byte {N i : Nat} (hN : N < 2 ^ 32) (hi : i < 4) : (lN N >>> ((24 - 8 * nI i : Int32).toInt64 &&& 63)).toInt32 &&& 255 = (nI N >>> ((24 - 8 * nI i : Int32) &&& 31)).toInt8.toInt32 &&& 255 := by
  rw [bp_b]
  rcases (show i = 0 ∨ i = 1 ∨ i = 2 ∨ i = 3 by omega) with rfl | rfl | rfl | rfl
  · rw [pf_shr (d := 24) (by decide) (by omega), shr_b (d := 24) hN _ (by decide) (by omega), lN_i, pk_andN (by omega) 8 (by decide)]
  · rw [pf_shr (d := 16) (by decide) (by omega), shr_b (d := 16) hN _ (by decide) (by omega), lN_i, pk_andN (by omega) 8 (by decide)]
  · rw [pf_shr (d := 8) (by decide) (by omega), shr_b (d := 8) hN _ (by decide) (by omega), lN_i, pk_andN (by omega) 8 (by decide)]
  · rw [pf_shr (d := 0) (by decide) (by omega), shr_b (d := 0) hN _ (by decide) (by omega), lN_i, pk_andN (by omega) 8 (by decide)]
theorem rb_ck (h : RB tp f k) {a N : Nat} (hN : N < 2 ^ 32) : ∀ i, i ≤ 4 → RB (mPs tp a (lN N) i) (pCk f a (nI N) i) k
  | 0, _ => h
  | i + 1, hi => by
    rw [mPs, pCk]
    exact rb_upd (rb_ck h hN i (by omega)) (ck_byte hN (by omega))
theorem rb_sum (h : RB tp f k) {a n : Nat} (ha : a + n ≤ k) : ∃ N, N < 2 ^ 32 ∧ ckC f a n = nI N ∧ ckM tp a n = lN N := by
  obtain ⟨hB, hT⟩ := rb_B h
  exact ⟨ckN (Bf f) a n, ckN_lt (fun j hj => (hB (a + j) (by omega)).1), ckC_eq hB ha, ckM_eq hT ha⟩
theorem rb_tb (h : RB tp f k) {j : Nat} (hj : j < k) (hk : k < 2 ^ 31) : tb f k (nI j) = tp j := by rw [tb_in hk hj, h j hj]
theorem rb_sp (h : RB tp f k) {j : Nat} (hj : j < k) (hk : k < 2 ^ 31) {xs : Int32} (h0 : ¬ xs < 0) (h1 : xs ≤ 255) : tp j ^^^ xs = (tb f k (nI j) ^^^ xs).toInt8.toInt32 &&& 255 := by
  rw [rb_tb h hj hk, bp_b, h j hj, (Bf_eq f j).2]
  obtain ⟨x, hx, rfl⟩ := nI_of2 (M := 255) (n := 255) (by decide) h0 h1
  have hb := (Bf_eq f j).1
  have hlt : (Bf f j ^^^ x) < 2 ^ 8 := Nat.xor_lt_two_pow (by omega) (by omega)
  rw [nx_xor, pk_andN (by omega) 8 (by decide), Nat.mod_eq_of_lt hlt]
theorem fit_ck (h : fitB f) {a : Nat} {c : Int32} : ∀ i, fitB (pCk f a c i)
  | 0 => h
  | i + 1 => by rw [pCk]; exact fitB_u (fit_ck h i)
end RL5
