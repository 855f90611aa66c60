/-! the reference: bytes put behind one another -/
def wrI (t : Nat → Int32) (k : Nat) : List Int32 → Nat → Int32
  | [] => t
  | x :: L => wrI (upd t k (x &&& 255)) (k + 1) L
theorem wrI_app (f : Nat → Int32) (k : Nat) (L M : List Int32) : wrI f k (L ++ M) = wrI (wrI f k L) (k + L.length) M := by
  induction L generalizing f k with
  | nil => rfl
  | cons x L ih => rw [List.cons_append, wrI, ih, wrI, List.length_cons, show k + (L.length + 1) = k + 1 + L.length by omega]
theorem wrI_lt {f : Nat → Int32} {k i : Nat} (L : List Int32) (h : i < k) : wrI f k L i = f i := by
  induction L generalizing f k with
  | nil => rfl
  | cons x L ih => rw [wrI, ih (by omega), pk_un (by omega)]
theorem mnum_alt (t : Nat → Int32) (p j : Nat) : mnum t p j = mnl t (if t p ≤ 127 then 0 else -1) p j := by
  unfold mnum
  by_cases c : t p ≤ 127
  · rw [if_neg (Int32.not_lt.mpr c), if_pos c]
  · rw [if_pos (Int32.not_le.mp c), if_neg c]
