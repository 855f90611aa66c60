/-! the reference's readRecord, step by step -/
def mq (t : Nat → Int32) (k a : Nat) : Int64 × Nat × Int32 := mv t k a 1
def ms0 (t : Nat → Int32) (k a : Nat) : Int32 := if (mq t k a).2.2 = 0 then 0 else if (mq t k a).1 < 0 then 0 else if (nI k - nI (mq t k a).2.1).toInt64 < (mq t k a).1 then 0 else 1
def men (t : Nat → Int32) (k a : Nat) : Int32 := nI (mq t k a).2.1 + (mq t k a).1.toInt32
def ma (t : Nat → Int32) (k a : Nat) : Nat × Int32 := m1 t k (mq t k a).2.1 (ms0 t k a)
def mb (t : Nat → Int32) (k : Nat) (ft : Int64) (a : Nat) : Nat × Int32 := m2 t k ft (ma t k a).1 (ma t k a).2
def mc_ (t : Nat → Int32) (k : Nat) (ft : Int64) (num : Int32) (a : Nat) : Nat × Int32 := m3 t k num (mb t k ft a).1 (mb t k ft a).2
def mk_ (t : Nat → Int32) (k : Nat) (ft : Int64) (num : Int32) (a : Nat) : Nat × Int32 := (m4a t k (mc_ t k ft num a).1 (mc_ t k ft num a).2, m4s t k (mc_ t k ft num a).1 (mc_ t k ft num a).2)
def mw (t : Nat → Int32) (k : Nat) (ft : Int64) (num : Int32) (a : Nat) : Nat × Int32 := (m4a t k (mk_ t k ft num a).1 (mk_ t k ft num a).2, m4s t k (mk_ t k ft num a).1 (mk_ t k ft num a).2)
def mz_ (t : Nat → Int32) (k : Nat) (ft : Int64) (num : Int32) (a : Nat) : Nat × Int32 := m1 t k (mw t k ft num a).1 (mw t k ft num a).2
def mrS (t : Nat → Int32) (k : Nat) (ft : Int64) (num : Int32) (a : Nat) : Int32 := if ms0 t k a = 0 then 0 else if (mz_ t k ft num a).2 = 0 then 0 else if nI (mz_ t k ft num a).1 = men t k a then 1 else 0
def mrA (t : Nat → Int32) (k : Nat) (ft : Int64) (num : Int32) (a : Nat) : Nat := if ms0 t k a = 0 then (mq t k a).2.1 else (mz_ t k ft num a).1
def mrR (t : Nat → Int32) (k : Nat) (ft : Int64) (num : Int32) (a : Nat) : Int32 := if ms0 t k a = 0 then 0 else (mz_ t k ft num a).2
def mrT (t : Nat → Int32) (k : Nat) (ft : Int64) (a : Nat) (o : Int64) : Int64 := if ms0 t k a = 0 then o else ft + (mv t k (ma t k a).1 (ma t k a).2).1
def mrKb (t : Nat → Int32) (k : Nat) (ft : Int64) (num : Int32) (a : Nat) (o : Int64) : Int64 := if ms0 t k a = 0 then o else (mv t k (mc_ t k ft num a).1 (mc_ t k ft num a).2).1
def mrKa (t : Nat → Int32) (k : Nat) (ft : Int64) (num : Int32) (a : Nat) (o : Int32) : Int32 := if ms0 t k a = 0 then o else nI (mk_ t k ft num a).1 - (if (mv t k (mc_ t k ft num a).1 (mc_ t k ft num a).2).1 ≤ 0 then 0 else if (mk_ t k ft num a).2 = 0 then 0 else (mv t k (mc_ t k ft num a).1 (mc_ t k ft num a).2).1.toInt32)
def mrVb (t : Nat → Int32) (k : Nat) (ft : Int64) (num : Int32) (a : Nat) (o : Int64) : Int64 := if ms0 t k a = 0 then o else (mv t k (mk_ t k ft num a).1 (mk_ t k ft num a).2).1
def mrVa (t : Nat → Int32) (k : Nat) (ft : Int64) (num : Int32) (a : Nat) (o : Int32) : Int32 := if ms0 t k a = 0 then o else nI (mw t k ft num a).1 - (if (mv t k (mk_ t k ft num a).1 (mk_ t k ft num a).2).1 ≤ 0 then 0 else if (mw t k ft num a).2 = 0 then 0 else (mv t k (mk_ t k ft num a).1 (mk_ t k ft num a).2).1.toInt32)
theorem ma_1 {t : Nat → Int32} {k a : Nat} : (ma t k a).1 = (mq t k a).2.1 + 1 := by unfold ma m1; with_reducible rfl
theorem mb_1 {t : Nat → Int32} {k a : Nat} {ft : Int64} : (mb t k ft a).1 = (mv t k (ma t k a).1 (ma t k a).2).2.1 := by unfold mb m2; with_reducible rfl
theorem mc_1 {t : Nat → Int32} {k a : Nat} {ft : Int64} {num : Int32} : (mc_ t k ft num a).1 = (mv t k (mb t k ft a).1 (mb t k ft a).2).2.1 := by unfold mc_ m3; with_reducible rfl
theorem mk_1 {t : Nat → Int32} {k a : Nat} {ft : Int64} {num : Int32} : (mk_ t k ft num a).1 = m4a t k (mc_ t k ft num a).1 (mc_ t k ft num a).2 := by unfold mk_; with_reducible rfl
theorem mw_1 {t : Nat → Int32} {k a : Nat} {ft : Int64} {num : Int32} : (mw t k ft num a).1 = m4a t k (mk_ t k ft num a).1 (mk_ t k ft num a).2 := by unfold mw; with_reducible rfl
theorem mz_1 {t : Nat → Int32} {k a : Nat} {ft : Int64} {num : Int32} : (mz_ t k ft num a).1 = (mw t k ft num a).1 + 1 := by unfold mz_ m1; with_reducible rfl
theorem mr_bounds {t : Nat → Int32} {k a : Nat} {ft : Int64} {num : Int32} (hk : k ≤ 16384) (ha : a ≤ 16390) : (mq t k a).2.1 ≤ 16390 ∧ (ma t k a).1 ≤ 16391 ∧ (mb t k ft a).1 ≤ 16391 ∧ (mc_ t k ft num a).1 ≤ 16391 ∧ (mk_ t k ft num a).1 ≤ 16391 ∧ (mw t k ft num a).1 ≤ 16391 ∧ (mz_ t k ft num a).1 ≤ 16392 := by
  have h0 : (mq t k a).2.1 ≤ 16390 := by
    have := mv_le (t := t) (k := k) (a := a) (r := 1)
    unfold mq
    omega
  have h1 : (ma t k a).1 ≤ 16391 := by rw [ma_1]; omega
  have h2 : (mb t k ft a).1 ≤ 16391 := by
    have := mv_le (t := t) (k := k) (a := (ma t k a).1) (r := (ma t k a).2)
    rw [mb_1]
    omega
  have h3 : (mc_ t k ft num a).1 ≤ 16391 := by
    have := mv_le (t := t) (k := k) (a := (mb t k ft a).1) (r := (mb t k ft a).2)
    rw [mc_1]
    omega
  have h4 : (mk_ t k ft num a).1 ≤ 16391 := by
    have := m4a_le (t := t) (k := k) (a := (mc_ t k ft num a).1) (r := (mc_ t k ft num a).2) hk (by omega)
    rw [mk_1]
    omega
  have h5 : (mw t k ft num a).1 ≤ 16391 := by
    have := m4a_le (t := t) (k := k) (a := (mk_ t k ft num a).1) (r := (mk_ t k ft num a).2) hk (by omega)
    rw [mw_1]
    omega
  exact ⟨h0, h1, h2, h3, h4, h5, by rw [mz_1]; omega⟩
