/-! the reference: readVarint's loop, with 'more' and 'right' -/
def rvW (t : Nat → Int32) (k : Nat) (mo r : Int32) (fl i : Nat) (z : Int64) (a : Nat) : Int64 × Nat × Int32 := if mo = 0 then (z, a, r) else if r = 0 then (z, a, r) else rvM t k fl i z a
section RVW
variable {t : Nat → Int32} {k fl i a : Nat} {mo r : Int32} {z : Int64}
theorem rvW_exit (h : mo = 0 ∨ r = 0) : rvW t k mo r fl i z a = (z, a, r) := by
  unfold rvW
  by_cases c : mo = 0
  · rw [if_pos c]
  · rw [if_neg c, if_pos (h.resolve_left c)]
theorem rvW_no (hf : 0 < fl) (h1 : ¬ mo = 0) (h2 : ¬ r = 0) (h : k ≤ a ∨ 10 ≤ i) : rvW t k mo 0 (fl - 1) i z a = rvW t k mo r fl i z a := by
  obtain ⟨q, rfl⟩ : ∃ q, fl = q + 1 := ⟨fl - 1, by omega⟩
  rw [rvW_exit (Or.inr rfl)]
  unfold rvW
  rw [if_neg h1, if_neg h2, rvM]
  by_cases c : k ≤ a
  · rw [if_pos c]
  · rw [if_neg c, if_pos (h.resolve_left c)]
theorem rvW_step (hf : 0 < fl) (h1 : ¬ mo = 0) (h2 : ¬ r = 0) (h3 : a < k) (h4 : i < 10) : rvW t k mo r fl i z a = rvW t k (if t a ≤ 127 then 0 else 1) (okM (nI i) (t a)) (fl - 1) (i + 1) (z ||| ((t a &&& 127).toInt64 <<< ((7 * nI i : Int32).toInt64 &&& 63))) (a + 1) := by
  obtain ⟨q, rfl⟩ : ∃ q, fl = q + 1 := ⟨fl - 1, by omega⟩
  unfold rvW
  rw [if_neg h1, if_neg h2, rvM, if_neg (by omega), if_neg (by omega)]
  by_cases c : t a ≤ 127
  · rw [if_pos c, if_pos c, if_pos rfl]
  · rw [if_neg c, if_neg c, if_neg (show ¬ (1 : Int32) = 0 by decide)]
    by_cases c2 : okM (nI i) (t a) = 0
    · rw [if_pos c2, if_pos c2, c2]
    · rw [if_neg c2, if_neg c2]; rfl
end RVW
theorem okM_alt (n b : Int32) : (if n < 9 then (if (if b ≤ 127 then (0 : Int32) else 1) = 0 then (if 0 < b then (1 : Int32) else if n = 0 then 1 else 0) else 1) else if 2 ≤ b then 0 else if (if b ≤ 127 then (0 : Int32) else 1) = 0 then (if 0 < b then 1 else if n = 0 then 1 else 0) else 1) = okM n b := by
  unfold okM
  by_cases c : b ≤ 127
  · rw [if_pos c, if_pos rfl, if_neg (Int32.not_lt.mpr c)]
  · rw [if_neg c, if_neg (show ¬ (1 : Int32) = 0 by decide), if_pos (Int32.not_le.mp c)]
theorem mv_W {t : Nat → Int32} {k a : Nat} {r : Int32} : mv t k a r = (mUF (rvW t k 1 r 11 0 0 a).1, (rvW t k 1 r 11 0 0 a).2.1, (rvW t k 1 r 11 0 0 a).2.2) := by
  unfold mv rvW
  rw [if_neg (show ¬ (1 : Int32) = 0 by decide)]
  by_cases c : r = 0
  · rw [if_pos c, if_pos c, c]
    rw [show mUF 0 = 0 by decide]
  · rw [if_neg c, if_neg c]
