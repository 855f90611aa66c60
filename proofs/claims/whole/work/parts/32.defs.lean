/-! words for the contracts -/
def hasC (k : Nat) (i : Int32) : Int32 := if i < 0 then 0 else if nI k ≤ i then 0 else 1
theorem in_of {i : Int32} {k n : Nat} (h1 : ¬ i < 0) (h2 : ¬ nI k ≤ i) (hk : k ≤ n) (hn : n < 2 ^ 31) : vp_in i n := by
  obtain ⟨j, hj, rfl, -⟩ := pk_mu h1 h2 (by omega)
  exact vp_in_nI (by omega) hn
/-- bytes put behind one another -/
def wrB (f : Nat → Int32) (k : Nat) : List Int32 → Nat → Int32
  | [] => f
  | x :: L => wrB (upd f k x.toInt8.toInt32) (k + 1) L
theorem wrB_app (f : Nat → Int32) (k : Nat) (L M : List Int32) : wrB f k (L ++ M) = wrB (wrB f k L) (k + L.length) M := by
  induction L generalizing f k with
  | nil => rfl
  | cons x L ih => rw [List.cons_append, wrB, ih, wrB, List.length_cons, show k + (L.length + 1) = k + 1 + L.length by omega]
theorem wrB_lt {f : Nat → Int32} {k i : Nat} (L : List Int32) (h : i < k) : wrB f k L i = f i := by
  induction L generalizing f k with
  | nil => rfl
  | cons x L ih => rw [wrB, ih (by omega), pk_un (by omega)]
theorem numL_len (v : Int64) : ∀ j, (numL v j).length = j
  | 0 => rfl
  | j + 1 => by rw [numL, List.length_cons, numL_len v j]
/-- how many places a tape's row gets when r are wanted -/
def gro (n r : Nat) : Nat := if r ≤ n then 0 else max r (min (2 * n) 16384)
theorem hasC_in {k j : Nat} (h : j < k) (hk : k < 2 ^ 31) : ¬ hasC k (nI j) = 0 := by
  unfold hasC
  rw [if_neg (nI_pos (by omega)), if_neg (nI_ge h hk)]
  decide
theorem dn_neg {i : Nat} (h : nI i - 1 < 0) (hi : i < 2 ^ 31) : i = 0 := by
  cases i with
  | zero => rfl
  | succ i => rw [nI_pred] at h; exact absurd h (nI_pos (by omega))
theorem dn_pos {i : Nat} (h : ¬ nI i - 1 < 0) : 0 < i := by
  cases i with
  | zero => exact absurd (by decide) h
  | succ i => omega
theorem dn_eq {i : Nat} (h : 0 < i) : nI i - 1 = nI (i - 1) := by
  obtain ⟨q, rfl⟩ : ∃ q, i = q + 1 := ⟨i - 1, by omega⟩
  rw [nI_pred]; rfl
theorem dn_step {i : Nat} (h : 0 < i) : nI i - 1 + (-1) = nI (i - 1) - 1 := by
  rw [dn_eq h]; exact (Int32.sub_eq_add_neg (nI (i - 1)) 1).symm
theorem numL_pos (v : Int64) {i : Nat} (h : 0 < i) : numL v i = (v >>> ((8 * (nI i - 1) : Int32).toInt64 &&& 63)).toInt32 :: numL v (i - 1) := by
  obtain ⟨q, rfl⟩ : ∃ q, i = q + 1 := ⟨i - 1, by omega⟩
  rw [nI_pred]; rfl
theorem rn_0 {r : Nat} (h : 10 ≤ nI (10 - r)) (hr : r ≤ 9) : r = 0 := by
  have := (nI_leI (a := 10) (b := 10 - r) (by omega) (by omega)).mp h
  omega
theorem rn_pos {r : Nat} (h : ¬ 10 ≤ nI (10 - r)) : 0 < r := by
  cases r with
  | zero => exact absurd (by decide) h
  | succ r => omega
theorem rn_step {r : Nat} (h : 0 < r) (hr : r ≤ 9) : nI (10 - r) + 1 = nI (10 - (r - 1)) := by
  rw [nI_1, show 10 - r + 1 = 10 - (r - 1) by omega]
theorem vbL_0 {r : Nat} {z : Int64} (h : r = 0 ∨ z = 0) : vbL r z = 0 := by
  cases r with
  | zero => rfl
  | succ r => rw [vbL, if_pos (h.resolve_left (by omega))]
theorem vbL_pos {r : Nat} {z : Int64} (h : 0 < r) (hz : ¬ z = 0) : vbL r z = vbL (r - 1) (us7 z) + 1 := by
  obtain ⟨q, rfl⟩ : ∃ q, r = q + 1 := ⟨r - 1, by omega⟩
  rw [vbL, if_neg hz]; rfl
theorem vlC_0 {r : Nat} {z : Int64} (h : r = 0 ∨ us7 z = 0) : vlC z r = [z.toInt32] := by
  cases r with
  | zero => rfl
  | succ r => rw [vlC, if_pos (h.resolve_left (by omega))]
theorem vlC_pos {r : Nat} {z : Int64} (h : 0 < r) (hz : ¬ us7 z = 0) : vlC z r = ((z &&& 127).toInt32 ||| 128) :: vlC (us7 z) (r - 1) := by
  obtain ⟨q, rfl⟩ : ∃ q, r = q + 1 := ⟨r - 1, by omega⟩
  rw [vlC, if_neg hz]; rfl
theorem vlC_len (z : Int64) (r : Nat) : 1 ≤ (vlC z r).length := by
  cases r with
  | zero => exact Nat.le_refl _
  | succ r => rw [vlC]; split <;> exact Nat.succ_le_succ (Nat.zero_le _)
/-- the checksum's bytes put at a place, i of them -/
def pCk (f : Nat → Int32) (a : Nat) (x : Int32) : Nat → Nat → Int32
  | 0 => f
  | i + 1 => upd (pCk f a x i) (a + i) (x >>> ((24 - 8 * nI i : Int32) &&& 31)).toInt8.toInt32
theorem rn10_0 {r : Nat} (h : 10 ≤ nI (10 - r)) (hr : r ≤ 10) : r = 0 := by
  have := (nI_leI (a := 10) (b := 10 - r) (by omega) (by omega)).mp h
  omega
theorem rn10_step {r : Nat} (h : 0 < r) (hr : r ≤ 10) : nI (10 - r) + 1 = nI (10 - (r - 1)) := by
  rw [nI_1, show 10 - r + 1 = 10 - (r - 1) by omega]
section RVC
variable {g : Int32 → Int32} {e p s : Int32} {r : Nat} {z : Int64}
theorem rvC_end {k : Nat} (h : r = 0) : rvC g e r k z p s = (0, p, 0) := by subst h; rfl
theorem rvC_go (h : 0 < r) (hr : r ≤ 10) (hb : 128 ≤ (rbC g e p s).1) : rvC g e r (10 - r) z p s = rvC g e (r - 1) (10 - (r - 1)) (z ||| (((rbC g e p s).1 &&& 127).toInt64 <<< ((7 * nI (10 - r) : Int32).toInt64 &&& 63))) (rbC g e p s).2.1 (rbC g e p s).2.2 := by
  obtain ⟨q, rfl⟩ : ∃ q, r = q + 1 := ⟨r - 1, by omega⟩
  rw [rvC, if_pos hb, show 10 - (q + 1) + 1 = 10 - (q + 1 - 1) by omega]; rfl
theorem rvC_stop {k : Nat} (h : 0 < r) (hb : ¬ 128 ≤ (rbC g e p s).1) : rvC g e r k z p s = (cUF (z ||| (((rbC g e p s).1 &&& 127).toInt64 <<< ((7 * nI k : Int32).toInt64 &&& 63))), (rbC g e p s).2.1, exC (rbC g e p s).2.2 (rvh (nI k) (rbC g e p s).1)) := by
  obtain ⟨q, rfl⟩ : ∃ q, r = q + 1 := ⟨r - 1, by omega⟩
  rw [rvC, if_neg hb]
end RVC
theorem wP_eq {D : va_G} {cl : List vw_C} {ws ws' : va_W} {H : Heap} (h : va_P D cl ws H) (e : ws = ws') : va_P D cl ws' H := e ▸ h
theorem wD_eq {A : Nat → Prop} {ws ws' : va_W} (h : va_D A ws) (e : ws = ws') : va_D A ws' := e ▸ h
theorem wL_eq {ls : Array Slot} {n : Nat} {lv lv' : List (Nat × Value)} (h : lv_has ls n lv) (e : lv = lv') : lv_has ls n lv' := e ▸ h
