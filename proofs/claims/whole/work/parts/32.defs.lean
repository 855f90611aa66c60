/-! words for the contracts -/
def hasC (k : Nat) (i : Int32) : Int32 := if i < 0 then 0 else if nI k ≤ i then 0 else 1
theorem in_of {i : Int32} {k n : Nat} (h1 : ¬ i < 0) (h2 : ¬ nI k ≤ i) (hk : k ≤ n) (hn : n < 2 ^ 31) : vp_in i n := by
  obtain ⟨j, hj, rfl, -⟩ := pk_mu h1 h2 (by omega)
  exact vp_in_nI (by omega) hn
/-- bytes put behind one another -/
def wrB (f : Nat → Int32) (k : Nat) : List Int32 → Nat → Int32
  | [] => f
  | x :: L => wrB (upd f k x.toInt8.toInt32) (k + 1) L
theorem wrB_app (f : Nat → Int32) (k : Nat) (L M : List Int32) : wrB f k (L ++ M) = wrB (wrB f k L) (k + L.length) M := by
  induction L generalizing f k with
  | nil => rfl
  | cons x L ih => rw [List.cons_append, wrB, ih, wrB, List.length_cons, show k + (L.length + 1) = k + 1 + L.length by omega]
theorem wrB_lt {f : Nat → Int32} {k i : Nat} (L : List Int32) (h : i < k) : wrB f k L i = f i := by
  induction L generalizing f k with
  | nil => rfl
  | cons x L ih => rw [wrB, ih (by omega), pk_un (by omega)]
theorem numL_len (v : Int64) : ∀ j, (numL v j).length = j
  | 0 => rfl
  | j + 1 => by rw [numL, List.length_cons, numL_len v j]
/-- how many places a tape's row gets when r are wanted -/
def gro (n r : Nat) : Nat := if r ≤ n then 0 else max r (min (2 * n) 16384)
