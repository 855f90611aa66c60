/-! the class's public methods -/
def hdC (g : Int32 → Int32) (w : Int32) : Int64 := if w = 0 then sgn g 27 8 else if w = 1 then sgn g 35 8 else if w = 2 then sgn g 43 8 else if w = 3 then sgn g 51 2 else if w = 4 then sgn g 53 4 else if w = 5 then sgn g 57 4 else 0
def tdC (g : Int32 → Int32) (u : Int32) (q : Nat) (w : Int32) : Int64 := if w = 0 then (rdP g u (sgn g 27 8) q).toInt64 else if w = 1 then rrT g u (sgn g 27 8) (rdP g u (sgn g 27 8) q) 0
  else if w = 2 then (rrKl g u (sgn g 27 8) (nI q) (rdP g u (sgn g 27 8) q) 0).toInt64 else if w = 3 then uns g (rrKp g u (sgn g 27 8) (nI q) (rdP g u (sgn g 27 8) q) 0) (f8 (rrKl g u (sgn g 27 8) (nI q) (rdP g u (sgn g 27 8) q) 0))
  else if w = 4 then (rrVl g u (sgn g 27 8) (nI q) (rdP g u (sgn g 27 8) q) 0).toInt64 else if w = 5 then uns g (rrVp g u (sgn g 27 8) (nI q) (rdP g u (sgn g 27 8) q) 0) (f8 (rrVl g u (sgn g 27 8) (nI q) (rdP g u (sgn g 27 8) q) 0)) else 0
theorem sw_no {x : Int32} (h0 : ¬ x < 0) (h5 : x ≤ 5) (c0 : ¬ x = 0) (c1 : ¬ x = 1) (c2 : ¬ x = 2) (c3 : ¬ x = 3) (c4 : ¬ x = 4) (c5 : ¬ x = 5) : False := by
  obtain ⟨j, hj, rfl⟩ := nI_of2 (M := 5) (n := 5) (by decide) h0 h5
  rcases (show j = 0 ∨ j = 1 ∨ j = 2 ∨ j = 3 ∨ j = 4 ∨ j = 5 by omega) with rfl | rfl | rfl | rfl | rfl | rfl
  · exact c0 rfl
  · exact c1 rfl
  · exact c2 rfl
  · exact c3 rfl
  · exact c4 rfl
  · exact c5 rfl
