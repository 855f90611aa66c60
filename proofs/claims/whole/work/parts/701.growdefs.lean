/-! the tape's row when it grows -/
def fitB (f : Nat → Int32) : Prop := ∀ i : Nat, fits .byte (.int (f i)) = true
theorem fitB_0 : fitB (fun _ => 0) := fun _ => (by decide : fits .byte (.int 0) = true)
theorem fitB_u {f : Nat → Int32} {k : Nat} {x : Int32} (h : fitB f) : fitB (upd f k x.toInt8.toInt32) := fun i => by
  by_cases e : i = k
  · subst e; rw [pk_us]; exact pk_fb x
  · rw [pk_un e]; exact h i
theorem fitB_w {f : Nat → Int32} (h : fitB f) : ∀ (L : List Int32) (k : Nat), fitB (wrB f k L) := by
  intro L
  induction L generalizing f with
  | nil => intro k; exact h
  | cons x L ih => intro k; rw [wrB]; exact ih (fitB_u h) (k + 1)
theorem fitB_c {f : Nat → Int32} {n : Nat} (h : fitB f) : fitB (va_cpy f (fun _ => 0) 0 0 n) := fun i => by
  by_cases e : i < n
  · rw [pk_cpy_in (Nat.zero_le _) (by omega)]; exact h _
  · rw [pk_cpy_out (Or.inr (by omega))]; exact fitB_0 i
/-- places of the row when m are wanted -/
def grN (n m : Nat) : Nat := if m ≤ n then n else if m < min (2 * n) 16384 then min (2 * n) 16384 else m
def grC (n m : Nat) : Nat := if m ≤ n then 0 else 1
def grS (n m : Nat) : Nat := if m ≤ n then 0 else grN n m
theorem gr_no {n m : Nat} (h : m ≤ n) : grN n m = n ∧ grC n m = 0 ∧ grS n m = 0 := by
  unfold grS grN grC
  exact ⟨if_pos h, if_pos h, if_pos h⟩
theorem gr_yes {n m : Nat} (h : n < m) (hm : m ≤ 16384) : n < grN n m ∧ m ≤ grN n m ∧ grN n m ≤ 16384 ∧ grC n m = 1 ∧ grS n m = grN n m := by
  have h2 : ¬ m ≤ n := by omega
  have e : grN n m = if m < min (2 * n) 16384 then min (2 * n) 16384 else m := by unfold grN; rw [if_neg h2]
  refine ⟨?_, ?_, ?_, ?_, ?_⟩
  · rw [e]; split <;> omega
  · rw [e]; split <;> omega
  · rw [e]; split <;> omega
  · unfold grC; rw [if_neg h2]
  · unfold grS; rw [if_neg h2]
theorem grN_ge {n m : Nat} (hm : m ≤ 16384) (hn : n ≤ 16384) : m ≤ grN n m ∧ n ≤ grN n m ∧ grN n m ≤ 16384 := by
  rcases Nat.lt_or_ge n m with h | h
  · have := gr_yes h hm; omega
  · have := (gr_no h).1; omega
theorem mk_min {n : Nat} (hn : n ≤ 16384) : (if (16384 : Int32) < 2 * nI n then 16384 else 2 * nI n) = nI (min (2 * n) 16384) := by
  have e2 : (2 : Int32) * nI n = nI (2 * n) := pk_mul 2 n
  have e3 : (16384 : Int32) = nI 16384 := rfl
  rw [e2, e3]
  by_cases h : 16384 < 2 * n
  · rw [if_pos (nI_lt h (by omega)), show min (2 * n) 16384 = 16384 by omega]
  · rw [if_neg (nI_nlt (by omega) (by omega)), show min (2 * n) 16384 = 2 * n by omega]
theorem mk_max {n k j : Nat} (h : n < k + j) (hm : k + j ≤ 16384) : (if nI k + nI j < nI (min (2 * n) 16384) then nI (min (2 * n) 16384) else nI k + nI j) = nI (grN n (k + j)) := by
  rw [nI_add]
  unfold grN
  rw [if_neg (show ¬ k + j ≤ n by omega)]
  by_cases c : k + j < min (2 * n) 16384
  · rw [if_pos (nI_lt c (by omega)), if_pos c]
  · rw [if_neg (nI_nlt (by omega) (by omega)), if_neg c]
