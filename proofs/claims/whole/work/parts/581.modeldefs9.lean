/-! the reference: the draft -/
theorem lN_nneg {y : Nat} (h : y < 2 ^ 62) : ¬ lN y < 0 := fun q => by
  have := (pk_lLT (b := 0) (show y < 2 ^ 63 by omega) (by omega)).mp q
  omega
theorem vlN_1 {r y : Nat} (h : y < 128) : (vlN r y).length = 1 := by
  cases r with
  | zero => rfl
  | succ r => rw [vlN, if_pos h]; rfl
theorem vlN_s {r y : Nat} (h : 128 ≤ y) (hy : y < 128 ^ (r + 1)) : ∃ q, r = q + 1 ∧ (vlN r y).length = (vlN q (y / 128)).length + 1 ∧ y / 128 < 128 ^ (q + 1) := by
  cases r with
  | zero => exact absurd hy (by omega)
  | succ r =>
    refine ⟨r, rfl, ?_, ?_⟩
    · rw [vlN, if_neg (by omega)]; rfl
    · rw [Nat.pow_succ] at hy
      omega
/-- a drafted record's numbers -/
def dOk (kb vb dl : Int32) : Prop := pOk kb ∧ kb.toNatClampNeg ≤ 8 ∧ pOk vb ∧ vb.toNatClampNeg ≤ 300 ∧ pOk dl
theorem pOk_n {n : Nat} (h : n < 2 ^ 30) : pOk (nI n) := Or.inr ⟨n, h, rfl⟩
theorem pOk_0 {x : Int32} (h : pOk x) : (if x ≤ 0 then 0 else x) = nI x.toNatClampNeg := by
  rcases h with rfl | ⟨n, h, rfl⟩
  · decide
  · rw [nI_clamp (by omega)]
    by_cases c : n = 0
    · subst c; rfl
    · rw [if_neg (nI_nle (by omega) (by omega))]
def bdN (kb vb dl : Int32) (j : Nat) : Nat := 2 + vN dl + vN (nI j) + vN kb + vN vb + kb.toNatClampNeg + vb.toNatClampNeg
theorem bdN_le {kb vb dl : Int32} {j : Nat} (h : dOk kb vb dl) : bdN kb vb dl j ≤ 350 := by
  obtain ⟨_, h1, _, h2, _⟩ := h
  have a := vN_le dl
  have b := vN_le (nI j)
  have c := vN_le kb
  have d := vN_le vb
  unfold bdN
  omega
/-- the bytes of the first records -/
def wtN (kf vf df : Nat → Int32) : Nat → Nat
  | 0 => 0
  | j + 1 => wtN kf vf df j + (vN (nI (bdN (kf j) (vf j) (df j) j)) + bdN (kf j) (vf j) (df j) j)
theorem wtN_le {kf vf df : Nat → Int32} {n : Nat} (h : ∀ j, j < n → dOk (kf j) (vf j) (df j)) : wtN kf vf df n ≤ 360 * n := by
  induction n with
  | zero => exact Nat.le_refl _
  | succ n ih =>
    have a := ih (fun j hj => h j (by omega))
    have b := bdN_le (j := n) (h n (by omega))
    have c := vN_le (nI (bdN (kf n) (vf n) (df n) n))
    rw [wtN]
    omega
theorem zg_128 {x : Int32} (h : pOk x) : zg x < 128 ^ (9 + 1) := by
  have a := zg_lt h
  have b : (2 : Nat) ^ 32 ≤ 128 ^ (9 + 1) := by decide
  omega
