/-! the reference: record -/
def flL (f : Nat → Int64) (a : Nat) (v : Int64) : Nat → Nat → Int64
  | 0 => f
  | i + 1 => vp_updL (flL f a v i) (a + i) (v + (nI i).toInt64)
def flC (f : Nat → Int32) (a : Nat) (v : Int32) : Nat → Nat → Int32
  | 0 => f
  | i + 1 => upd (flC f a v i) (a + i) v
def flP (f : Nat → Int32) (a : Nat) (v : Int32) : Nat → Nat → Int32
  | 0 => f
  | i + 1 => upd (flP f a v i) (a + i) (v + nI i)
theorem flC_old {f : Nat → Int32} {a q : Nat} {v : Int32} (h : q < a) (j : Nat) : flC f a v j q = f q := by
  induction j with
  | zero => rfl
  | succ j ih => rw [flC, pk_un (by omega), ih]
theorem flP_old {f : Nat → Int32} {a q : Nat} {v : Int32} (h : q < a) (j : Nat) : flP f a v j q = f q := by
  induction j with
  | zero => rfl
  | succ j ih => rw [flP, pk_un (by omega), ih]
theorem flC_new {f : Nat → Int32} {a i : Nat} {v : Int32} {j : Nat} (h : i < j) : flC f a v j (a + i) = v := by
  induction j with
  | zero => omega
  | succ j ih =>
    rw [flC]
    by_cases c : i = j
    · subst c; exact pk_us
    · rw [pk_un (by omega)]; exact ih (by omega)
theorem flP_new {f : Nat → Int32} {a i : Nat} {v : Int32} {j : Nat} (h : i < j) : flP f a v j (a + i) = v + nI i := by
  induction j with
  | zero => omega
  | succ j ih =>
    rw [flP]
    by_cases c : i = j
    · subst c; exact pk_us
    · rw [pk_un (by omega)]; exact ih (by omega)
theorem pOk_of {x : Int32} {M : Int32} {n : Nat} (hM : M.toInt = n) (hn : n < 2 ^ 30) (h0 : ¬ x < -1) (h1 : x ≤ M) : pOk x ∧ x.toNatClampNeg ≤ n := by
  have em : (-1 : Int32).toInt = -1 := by decide
  rw [Int32.lt_iff_toInt_lt, em] at h0
  have h1' := h1
  rw [Int32.le_iff_toInt_le, hM] at h1'
  by_cases c : x = -1
  · subst c
    exact ⟨Or.inl rfl, Nat.zero_le _⟩
  · have hx : ¬ x < 0 := fun q => by
      rw [Int32.lt_iff_toInt_lt, Int32.toInt_zero] at q
      exact c (Int32.toInt_inj.mp (by rw [em]; omega))
    obtain ⟨k, hk, rfl⟩ := nI_of2 hM hx h1
    exact ⟨pOk_n (by omega), by rw [nI_clamp (by omega)]; exact hk⟩
theorem dOk_new {kb vb la : Int32} (h1 : ¬ kb < -1) (h2 : kb ≤ 8) (h3 : ¬ vb < -1) (h4 : vb ≤ 300) (h5 : ¬ la < 0) (h6 : la ≤ 1000000) {i : Nat} (hi : i < 100) : dOk kb vb (la + nI i) := by
  obtain ⟨a1, a2⟩ := pOk_of (M := 8) (n := 8) (by decide) (by decide) h1 h2
  obtain ⟨b1, b2⟩ := pOk_of (M := 300) (n := 300) (by decide) (by decide) h3 h4
  obtain ⟨k, hk, rfl⟩ := nI_of2 (M := 1000000) (n := 1000000) (by decide) h5 h6
  exact ⟨a1, a2, b1, b2, by rw [nI_add]; exact pOk_n (by omega)⟩
theorem hd_new {kf vf df : Nat → Int32} {kb vb la : Int32} {n j : Nat} (h : ∀ q, q < n → dOk (kf q) (vf q) (df q)) (hj : j ≤ 100) (h1 : ¬ kb < -1) (h2 : kb ≤ 8) (h3 : ¬ vb < -1) (h4 : vb ≤ 300) (h5 : ¬ la < 0) (h6 : la ≤ 1000000) : ∀ q, q < n + j → dOk (flC kf n kb j q) (flC vf n vb j q) (flP df n la j q) := by
  intro q hq
  rcases Nat.lt_or_ge q n with c | c
  · rw [flC_old c, flC_old c, flP_old c]; exact h q c
  · obtain ⟨i, rfl⟩ : ∃ i, q = n + i := ⟨q - n, by omega⟩
    rw [flC_new (by omega), flC_new (by omega), flP_new (by omega)]
    exact dOk_new h1 h2 h3 h4 h5 h6 (by omega)
