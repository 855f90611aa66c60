/-! the tape judged: BatchBytes.isTime .. judge -/
def isT (v : Int64) : Int32 := if v < 0 then 0 else if 1125899906842624 < v then 0 else 1
def fitP (v p : Int64) : Int32 := if p = -1 then (if v = -1 then 1 else 0) else if v < 0 then 0 else 1
def wpC (g : Int32 → Int32) : Int32 :=
  if sgn g 43 8 < -1 then 43 else if sgn g 43 8 ≤ 1125899906842624 then
    (if fitP (sgn g 51 2) (sgn g 43 8) = 0 then 51 else if fitP (sgn g 53 4) (sgn g 43 8) = 0 then 53 else if sgn g 57 4 < 1 then 57 else if sgn g 57 4 ≤ 1000 then -1 else 57)
  else 43
def wfC (g : Int32 → Int32) : Int32 :=
  if sgn g 0 8 = 0 then (if sgn g 12 4 = 0 then (if sgn g 16 1 = 2 then (if sgn g 21 2 = 0 then (if sgn g 23 4 = sgn g 57 4 - 1 then
    (if isT (sgn g 27 8) = 0 then 27 else if isT (sgn g 35 8) = 0 then 35 else wpC g) else 23) else 21) else 16) else 12) else 0
/-- the records one behind the other from the i-th on, rem of them, at place p, with the greatest time so far: kind and place of the fault -/
def jrC (g : Int32 → Int32) (u : Int32) (ft gt : Int64) : Nat → Nat → Int32 → Int64 → Int32 × Int32
  | 0, _, p, gr => if u ≤ p then (if gt = gr then (0, -1) else (5, 35)) else (4, p)
  | r + 1, i, p, gr => if rrS g u ft (nI i) p = 0 then (4, p) else jrC g u ft gt r (i + 1) (rrP g u ft (nI i) p) (if rrT g u ft p 0 < gr then gr else rrT g u ft p 0)
section JRC
variable {g : Int32 → Int32} {u p : Int32} {ft gt gr ti : Int64} {i cn : Nat}
theorem rrT_of {num : Int32} (h : ¬ rrS g u ft num p = 0) : rrT g u ft p ti = rrT g u ft p 0 := by
  unfold rrT
  have h2 : ¬ rs0 g u p = 0 := fun q => h (by unfold rrS; rw [if_pos q])
  rw [if_neg h2, if_neg h2]
theorem jrC_go (h : i < cn) (hs : ¬ rrS g u ft (nI i) p = 0) : jrC g u ft gt (cn - i) i p gr = jrC g u ft gt (cn - (i + 1)) (i + 1) (rrP g u ft (nI i) p) (if rrT g u ft p ti < gr then gr else rrT g u ft p ti) := by
  rw [show cn - i = (cn - (i + 1)) + 1 by omega, jrC, if_neg hs, rrT_of (ti := ti) hs]
theorem jrC_bad (h : i < cn) (hs : rrS g u ft (nI i) p = 0) : jrC g u ft gt (cn - i) i p gr = (4, p) := by
  rw [show cn - i = (cn - (i + 1)) + 1 by omega, jrC, if_pos hs]
theorem jrC_end0 {r : Nat} (h : r = 0) : jrC g u ft gt r i p gr = if u ≤ p then (if gt = gr then (0, -1) else (5, 35)) else (4, p) := by subst h; rfl
end JRC
/-- BatchBytes.judge, once the tape has changed -/
def jgC (f : Nat → Int32) (k : Nat) : Int32 × Int32 :=
  if nI k < 61 then (1, 8) else if sgn (tb f k) 8 4 = (nI k - 12).toInt64 then
    (if wfC (tb f k) = -1 then (if sgn (tb f k) 17 4 = (ckC f 21 (k - 21)).toInt64 then jrC (tb f k) (nI k) (sgn (tb f k) 27 8) (sgn (tb f k) 35 8) (sgn (tb f k) 57 4).toNatClampNeg 0 61 0 else (3, 17)) else (2, wfC (tb f k)))
  else (1, 8)
