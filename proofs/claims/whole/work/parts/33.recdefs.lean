/-! Reader.readRecord: what it leaves, out of the bytes g, the tape's end u, FIRST TIME, the record's number, the place p -/
def rq (g : Int32 → Int32) (u p : Int32) : Int64 × Int32 × Int32 := cv g u p 1
def rs0 (g : Int32 → Int32) (u p : Int32) : Int32 := exC (rq g u p).2.2 (if (rq g u p).1 < 0 then 0 else if (u - (rq g u p).2.1).toInt64 < (rq g u p).1 then 0 else 1)
def ren (g : Int32 → Int32) (u p : Int32) : Int32 := (rq g u p).2.1 + (rq g u p).1.toInt32
def ra (g : Int32 → Int32) (u p : Int32) : Int32 × Int32 := c1 g (ren g u p) (rq g u p).2.1 (rs0 g u p)
def rbp (g : Int32 → Int32) (u : Int32) (ft : Int64) (p : Int32) : Int32 × Int32 := c2 g (ren g u p) ft (ra g u p).1 (ra g u p).2
def rcp (g : Int32 → Int32) (u : Int32) (ft : Int64) (num p : Int32) : Int32 × Int32 := c3 g (ren g u p) num (rbp g u ft p).1 (rbp g u ft p).2
def rkp (g : Int32 → Int32) (u : Int32) (ft : Int64) (num p : Int32) : Int32 × Int32 := (c4p g (ren g u p) (rcp g u ft num p).1 (rcp g u ft num p).2, c4s g (ren g u p) (rcp g u ft num p).1 (rcp g u ft num p).2)
def rvp (g : Int32 → Int32) (u : Int32) (ft : Int64) (num p : Int32) : Int32 × Int32 := (c4p g (ren g u p) (rkp g u ft num p).1 (rkp g u ft num p).2, c4s g (ren g u p) (rkp g u ft num p).1 (rkp g u ft num p).2)
def rzp (g : Int32 → Int32) (u : Int32) (ft : Int64) (num p : Int32) : Int32 × Int32 := c1 g (ren g u p) (rvp g u ft num p).1 (rvp g u ft num p).2
def rrS (g : Int32 → Int32) (u : Int32) (ft : Int64) (num p : Int32) : Int32 := if rs0 g u p = 0 then 0 else exC (rzp g u ft num p).2 (if (rzp g u ft num p).1 = ren g u p then 1 else 0)
def rrP (g : Int32 → Int32) (u : Int32) (ft : Int64) (num p : Int32) : Int32 := if rs0 g u p = 0 then (rq g u p).2.1 else (rzp g u ft num p).1
def rrE (g : Int32 → Int32) (u p : Int32) : Int32 := if rs0 g u p = 0 then u else ren g u p
def rrT (g : Int32 → Int32) (u : Int32) (ft : Int64) (p : Int32) (ti : Int64) : Int64 := if rs0 g u p = 0 then ti else ft + (cv g (ren g u p) (ra g u p).1 (ra g u p).2).1
def rrKl (g : Int32 → Int32) (u : Int32) (ft : Int64) (num p o : Int32) : Int32 := if rs0 g u p = 0 then o else c4l g (ren g u p) (rcp g u ft num p).1 (rcp g u ft num p).2
def rrKp (g : Int32 → Int32) (u : Int32) (ft : Int64) (num p o : Int32) : Int32 := if rs0 g u p = 0 then o else (cv g (ren g u p) (rcp g u ft num p).1 (rcp g u ft num p).2).2.1
def rrVl (g : Int32 → Int32) (u : Int32) (ft : Int64) (num p o : Int32) : Int32 := if rs0 g u p = 0 then o else c4l g (ren g u p) (rkp g u ft num p).1 (rkp g u ft num p).2
def rrVp (g : Int32 → Int32) (u : Int32) (ft : Int64) (num p o : Int32) : Int32 := if rs0 g u p = 0 then o else (cv g (ren g u p) (rkp g u ft num p).1 (rkp g u ft num p).2).2.1
theorem exC_01 (s h : Int32) : exC s h = 0 ∨ exC s h = 1 := by
  unfold exC
  repeat' (first | exact Or.inl rfl | exact Or.inr rfl | split)
theorem exC_n (s h : Int32) : narrow .boolean (.int (exC s h)) = .int (exC s h) := by rcases exC_01 s h with h | h <;> rw [h] <;> rfl
theorem i01 {c : Prop} [Decidable c] {a b : Int32} (ha : a = 0 ∨ a = 1) (hb : b = 0 ∨ b = 1) : (if c then a else b) = 0 ∨ (if c then a else b) = 1 := by split <;> assumption
