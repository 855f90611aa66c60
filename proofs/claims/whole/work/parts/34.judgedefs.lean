/-! the tape judged: BatchBytes.isTime .. judge -/
def isT (v : Int64) : Int32 := if v < 0 then 0 else if 1125899906842624 < v then 0 else 1
def fitP (v p : Int64) : Int32 := if p = -1 then (if v = -1 then 1 else 0) else if v < 0 then 0 else 1
def wpC (g : Int32 → Int32) : Int32 :=
  if sgn g 43 8 < -1 then 43 else if sgn g 43 8 ≤ 1125899906842624 then
    (if fitP (sgn g 51 2) (sgn g 43 8) = 0 then 51 else if fitP (sgn g 53 4) (sgn g 43 8) = 0 then 53 else if sgn g 57 4 < 1 then 57 else if sgn g 57 4 ≤ 1000 then -1 else 57)
  else 43
def wfC (g : Int32 → Int32) : Int32 :=
  if sgn g 0 8 = 0 then (if sgn g 12 4 = 0 then (if sgn g 16 1 = 2 then (if sgn g 21 2 = 0 then (if sgn g 23 4 = sgn g 57 4 - 1 then
    (if isT (sgn g 27 8) = 0 then 27 else if isT (sgn g 35 8) = 0 then 35 else wpC g) else 23) else 21) else 16) else 12) else 0
