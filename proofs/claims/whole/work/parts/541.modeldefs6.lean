/-! the reference's readHead and read -/
def mfd (q : Int32 × Int32) (g w : Int32) : Int32 × Int32 := if q.1 = 0 then (if g = 0 then (2, w) else q) else q
theorem mfd_1 (q : Int32 × Int32) (g w : Int32) : (if q.1 = 0 then (if g = 0 then 2 else q.1) else q.1) = (mfd q g w).1 := by
  unfold mfd
  split
  · split <;> rfl
  · rfl
theorem mfd_2 (q : Int32 × Int32) (g w : Int32) : (if q.1 = 0 then (if g = 0 then w else q.2) else q.2) = (mfd q g w).2 := by
  unfold mfd
  split
  · split <;> rfl
  · rfl
def hg0 (t : Nat → Int32) : Int32 := if mnum t 0 8 = 0 then 1 else 0
theorem hg0_01 (t : Nat → Int32) : hg0 t = 0 ∨ hg0 t = 1 := by unfold hg0; exact i01 (Or.inr rfl) (Or.inl rfl)
def hg1 (t : Nat → Int32) : Int32 := if mnum t 12 4 = 0 then 1 else 0
theorem hg1_01 (t : Nat → Int32) : hg1 t = 0 ∨ hg1 t = 1 := by unfold hg1; exact i01 (Or.inr rfl) (Or.inl rfl)
def hg2 (t : Nat → Int32) : Int32 := if t 16 = 2 then 1 else 0
theorem hg2_01 (t : Nat → Int32) : hg2 t = 0 ∨ hg2 t = 1 := by unfold hg2; exact i01 (Or.inr rfl) (Or.inl rfl)
def hg3 (t : Nat → Int32) : Int32 := if mnum t 21 2 = 0 then 1 else 0
theorem hg3_01 (t : Nat → Int32) : hg3 t = 0 ∨ hg3 t = 1 := by unfold hg3; exact i01 (Or.inr rfl) (Or.inl rfl)
def hg4 (t : Nat → Int32) : Int32 := if mnum t 23 4 = mnum t 57 4 - 1 then 1 else 0
theorem hg4_01 (t : Nat → Int32) : hg4 t = 0 ∨ hg4 t = 1 := by unfold hg4; exact i01 (Or.inr rfl) (Or.inl rfl)
def hg5 (t : Nat → Int32) : Int32 := if mnum t 27 8 < 0 then 0 else if 1125899906842624 < mnum t 27 8 then 0 else 1
theorem hg5_01 (t : Nat → Int32) : hg5 t = 0 ∨ hg5 t = 1 := by unfold hg5; exact i01 (Or.inl rfl) (i01 (Or.inl rfl) (Or.inr rfl))
def hg6 (t : Nat → Int32) : Int32 := if mnum t 35 8 < 0 then 0 else if 1125899906842624 < mnum t 35 8 then 0 else 1
theorem hg6_01 (t : Nat → Int32) : hg6 t = 0 ∨ hg6 t = 1 := by unfold hg6; exact i01 (Or.inl rfl) (i01 (Or.inl rfl) (Or.inr rfl))
def hg7 (t : Nat → Int32) : Int32 := if mnum t 43 8 < -1 then 0 else if 1125899906842624 < mnum t 43 8 then 0 else 1
theorem hg7_01 (t : Nat → Int32) : hg7 t = 0 ∨ hg7 t = 1 := by unfold hg7; exact i01 (Or.inl rfl) (i01 (Or.inl rfl) (Or.inr rfl))
def hg8 (t : Nat → Int32) : Int32 := if mnum t 43 8 = -1 then (if mnum t 51 2 = -1 then 1 else 0) else if mnum t 51 2 < 0 then 0 else 1
theorem hg8_01 (t : Nat → Int32) : hg8 t = 0 ∨ hg8 t = 1 := by unfold hg8; exact i01 (i01 (Or.inr rfl) (Or.inl rfl)) (i01 (Or.inl rfl) (Or.inr rfl))
def hg9 (t : Nat → Int32) : Int32 := if mnum t 43 8 = -1 then (if mnum t 53 4 = -1 then 1 else 0) else if mnum t 53 4 < 0 then 0 else 1
theorem hg9_01 (t : Nat → Int32) : hg9 t = 0 ∨ hg9 t = 1 := by unfold hg9; exact i01 (i01 (Or.inr rfl) (Or.inl rfl)) (i01 (Or.inl rfl) (Or.inr rfl))
def hg10 (t : Nat → Int32) : Int32 := if mnum t 57 4 < 1 then 0 else if 1000 < mnum t 57 4 then 0 else 1
theorem hg10_01 (t : Nat → Int32) : hg10 t = 0 ∨ hg10 t = 1 := by unfold hg10; exact i01 (Or.inl rfl) (i01 (Or.inl rfl) (Or.inr rfl))
def hf0 (_t : Nat → Int32) (a q : Int32) : Int32 × Int32 := (a, q)
def hf1 (t : Nat → Int32) (a q : Int32) : Int32 × Int32 := mfd (hf0 t a q) (hg0 t) 0
def hf2 (t : Nat → Int32) (a q : Int32) : Int32 × Int32 := mfd (hf1 t a q) (hg1 t) 12
def hf3 (t : Nat → Int32) (a q : Int32) : Int32 × Int32 := mfd (hf2 t a q) (hg2 t) 16
def hf4 (t : Nat → Int32) (a q : Int32) : Int32 × Int32 := mfd (hf3 t a q) (hg3 t) 21
def hf5 (t : Nat → Int32) (a q : Int32) : Int32 × Int32 := mfd (hf4 t a q) (hg4 t) 23
def hf6 (t : Nat → Int32) (a q : Int32) : Int32 × Int32 := mfd (hf5 t a q) (hg5 t) 27
def hf7 (t : Nat → Int32) (a q : Int32) : Int32 × Int32 := mfd (hf6 t a q) (hg6 t) 35
def hf8 (t : Nat → Int32) (a q : Int32) : Int32 × Int32 := mfd (hf7 t a q) (hg7 t) 43
def hf9 (t : Nat → Int32) (a q : Int32) : Int32 × Int32 := mfd (hf8 t a q) (hg8 t) 51
def hf10 (t : Nat → Int32) (a q : Int32) : Int32 × Int32 := mfd (hf9 t a q) (hg9 t) 53
def hf11 (t : Nat → Int32) (a q : Int32) : Int32 × Int32 := mfd (hf10 t a q) (hg10 t) 57
def mgd (t : Nat → Int32) : Int32 := hg0 t &&& hg1 t &&& hg2 t &&& hg3 t &&& hg4 t &&& (hg5 t &&& hg6 t) &&& hg7 t &&& hg8 t &&& hg9 t &&& hg10 t
def mhA (t : Nat → Int32) (k : Nat) (a q : Int32) : Int32 := if mgd t = 0 then (hf11 t a q).1 else if mnl t 0 17 (st8 4) = ckM t 21 (k - 21) then (hf11 t a q).1 else 3
def mhQ (t : Nat → Int32) (k : Nat) (a q : Int32) : Int32 := if mgd t = 0 then (hf11 t a q).2 else if mnl t 0 17 (st8 4) = ckM t 21 (k - 21) then (hf11 t a q).2 else 17
theorem st8_4 : st8 4 = 4 := by decide
