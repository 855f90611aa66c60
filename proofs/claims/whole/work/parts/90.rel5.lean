/-! the draft: the class's groups and the reference's rows -/
section RL6
variable {gs : Nat → GR} {g : GR} {N : Nat}
theorem gnum_up : ∀ {j : Nat}, j ≤ N → gnum (va_up gs N g) j = gnum gs j
  | 0, _ => rfl
  | j + 1, h => by rw [gnum, gnum, gnum_up (by omega), va_up_ne _ _ (by omega)]
theorem gsL_up : ∀ {j : Nat}, j ≤ N → gsL (va_up gs N g) j = gsL gs j
  | 0, _ => rfl
  | j + 1, h => by rw [gsL, gsL, gsL_up (by omega), gnum_up (by omega), va_up_ne _ _ (by omega)]
theorem gnum_new : gnum (va_up gs N g) (N + 1) = gnum gs N + g.1 := by rw [gnum, gnum_up (Nat.le_refl _), va_up_self]
theorem gsL_new : gsL (va_up gs N g) (N + 1) = gsL gs N ++ goL g (gnum gs N) g.1 := by rw [gsL, gsL_up (Nat.le_refl _), gnum_up (Nat.le_refl _), va_up_self]
theorem gnum_ge : ∀ {N : Nat}, (∀ j, j < N → 1 ≤ (gs j).1) → N ≤ gnum gs N
  | 0, _ => Nat.le_refl _
  | N + 1, h => by
    have a := gnum_ge (N := N) (fun j hj => h j (by omega))
    have b := h N (by omega)
    rw [gnum]
    omega
end RL6
section RL7
variable {kf vf df : Nat → Int32} {gk gv : Nat → Int64} {kb vb la : Int32} {ky vy : Int64} {dn : Nat}
theorem flL_old {f : Nat → Int64} {a q : Nat} {v : Int64} (h : q < a) (j : Nat) : flL f a v j q = f q := by
  induction j with
  | zero => rfl
  | succ j ih => rw [flL, pk_uLn (by omega), ih]
theorem flL_new {f : Nat → Int64} {a i : Nat} {v : Int64} {j : Nat} (h : i < j) : flL f a v j (a + i) = v + (nI i).toInt64 := by
  induction j with
  | zero => omega
  | succ j ih =>
    rw [flL]
    by_cases c : i = j
    · subst c; exact pk_uLs
    · rw [pk_uLn (by omega)]; exact ih (by omega)
theorem flL_step {f : Nat → Int64} {a : Nat} {v : Int64} {j q : Nat} (h : q < a + j) : flL f a v (j + 1) q = flL f a v j q := by rw [flL, pk_uLn (by omega)]
theorem rsL_cong {kf' vf' df' : Nat → Int32} {gk' gv' : Nat → Int64} {n : Nat} (h1 : ∀ q, q < n → kf q = kf' q) (h2 : ∀ q, q < n → vf q = vf' q) (h3 : ∀ q, q < n → df q = df' q) (h4 : ∀ q, q < n → gk q = gk' q) (h5 : ∀ q, q < n → gv q = gv' q) : rsL kf vf df gk gv n = rsL kf' vf' df' gk' gv' n := by
  induction n with
  | zero => rfl
  | succ n ih => rw [rsL, rsL, ih (fun q hq => h1 q (by omega)) (fun q hq => h2 q (by omega)) (fun q hq => h3 q (by omega)) (fun q hq => h4 q (by omega)) (fun q hq => h5 q (by omega)), h1 n (by omega), h2 n (by omega), h3 n (by omega), h4 n (by omega), h5 n (by omega)]
theorem rs_go {n0 : Nat} (n : Nat) : rsL (flC kf dn kb n) (flC vf dn vb n) (flP df dn la n) (flL gk dn ky n) (flL gv dn vy n) (dn + n) = rsL kf vf df gk gv dn ++ goL (n0, ky, kb, vy, vb, la) dn n := by
  induction n with
  | zero => exact (List.append_nil _).symm
  | succ n ih =>
    rw [show dn + (n + 1) = dn + n + 1 by omega, rsL, rsL_cong (kf' := flC kf dn kb n) (vf' := flC vf dn vb n) (df' := flP df dn la n) (gk' := flL gk dn ky n) (gv' := flL gv dn vy n) (fun q hq => flC_step hq) (fun q hq => flC_step hq) (fun q hq => flP_step hq) (fun q hq => flL_step hq) (fun q hq => flL_step hq), ih, flC_new (by omega), flC_new (by omega), flP_new (by omega), flL_new (by omega), flL_new (by omega), goL, List.append_assoc]
/-- the greatest difference to FIRST TIME -/
def mxN (df : Nat → Int32) : Nat → Nat
  | 0 => 0
  | i + 1 => max (mxN df i) (df i).toNatClampNeg
def dlOk (df : Nat → Int32) (n : Nat) : Prop := ∀ q, q < n → ∃ d, d ≤ 1000100 ∧ df q = nI d
theorem mxN_cong {df' : Nat → Int32} : ∀ {n : Nat}, (∀ q, q < n → df q = df' q) → mxN df n = mxN df' n
  | 0, _ => rfl
  | n + 1, h => by rw [mxN, mxN, mxN_cong (fun q hq => h q (by omega)), h n (by omega)]
theorem mxN_le : ∀ {n : Nat}, dlOk df n → mxN df n ≤ 1000100
  | 0, _ => Nat.zero_le _
  | n + 1, h => by
    have a := mxN_le (n := n) (fun q hq => h q (by omega))
    obtain ⟨d, h1, h2⟩ := h n (by omega)
    rw [mxN, h2, nI_clamp (by omega)]
    omega
theorem mx_new {L : Nat} (hL : L ≤ 1000000) : ∀ {n : Nat}, n < 100 → mxN (flP df dn (nI L) (n + 1)) (dn + (n + 1)) = max (mxN df dn) (L + n)
  | 0, _ => by
    show max (mxN (flP df dn (nI L) 1) dn) (flP df dn (nI L) 1 dn).toNatClampNeg = _
    have e : flP df dn (nI L) 1 dn = nI L + nI 0 := flP_new (i := 0) (by omega)
    rw [mxN_cong (df' := df) (fun q hq => flP_old hq 1), e, nI_add, nI_clamp (by omega)]
  | n + 1, h => by
    rw [show dn + (n + 1 + 1) = dn + (n + 1) + 1 by omega, mxN, mxN_cong (df' := flP df dn (nI L) (n + 1)) (fun q hq => flP_step hq), mx_new hL (n := n) (by omega), flP_new (by omega), nI_add, nI_clamp (by omega)]
    omega
theorem dl_new {L n : Nat} (h : dlOk df dn) (hL : L ≤ 1000000) (hn : n ≤ 100) : dlOk (flP df dn (nI L) n) (dn + n) := by
  intro q hq
  rcases Nat.lt_or_ge q dn with c | c
  · rw [flP_old c]; exact h q c
  · obtain ⟨i, rfl⟩ : ∃ i, q = dn + i := ⟨q - dn, by omega⟩
    rw [flP_new (by omega), nI_add]
    exact ⟨L + i, by omega, rfl⟩
theorem lt_new {L n m : Nat} (hL : L ≤ 1000000) (hn : n < 100) (hm : m ≤ 1000100) : (if nI m < nI L + nI (n + 1) - 1 then nI L + nI (n + 1) - 1 else nI m) = nI (max m (L + n)) := by
  have e : nI L + nI (n + 1) - 1 = nI (L + n) := by rw [nI_add, show L + (n + 1) = L + n + 1 by omega, nI_pred]
  rw [e]
  exact nl_max (by omega) (by omega)
theorem gt_lN {F : Nat} (hF : F ≤ 562949953421312) : ∀ {n : Nat}, dlOk df (n + 1) → gtM df (lN F) (n + 1) = lN (F + mxN df (n + 1))
  | 0, h => by
    obtain ⟨d, h1, h2⟩ := h 0 (by omega)
    have e : mxN df 1 = d := by
      show max 0 (df 0).toNatClampNeg = d
      rw [h2, nI_clamp (by omega)]; omega
    rw [gtM, gtM, h2, nI_l (by omega), lN_add, e]
    by_cases c : lN (F + d) ≤ 0
    · rw [if_pos c]
      have := (pk_lLE (a := F + d) (b := 0) (by omega) (by omega)).mp c
      rw [show F + d = 0 by omega]; rfl
    · rw [if_neg c]
  | n + 1, h => by
    obtain ⟨d, h1, h2⟩ := h (n + 1) (by omega)
    have a := mxN_le (df := df) (n := n + 1) (fun q hq => h q (by omega))
    rw [gtM, gt_lN hF (n := n) (fun q hq => h q (by omega)), h2, nI_l (by omega), lN_add]
    rw [show mxN df (n + 1 + 1) = max (mxN df (n + 1)) d by rw [mxN, h2, nI_clamp (by omega)]]
    by_cases c : d ≤ mxN df (n + 1)
    · rw [if_pos ((pk_lLE (by omega) (by omega)).mpr (by omega)), Nat.max_eq_left c]
    · rw [if_neg (fun q => by rw [pk_lLE (by omega) (by omega)] at q; omega), Nat.max_eq_right (by omega)]
theorem gt_eq {ft : Int64} (h0 : ¬ ft < 0) (h1 : ft ≤ 562949953421312) {n : Nat} (hn : n ≤ 1000) (h : dlOk df n) : (if nI n = 0 then 0 else ft + (nI (mxN df n)).toInt64) = gtM df ft n := by
  cases n with
  | zero => rw [if_pos nI_0]; rfl
  | succ n =>
    obtain ⟨F, hF, rfl⟩ := pk_lOf h0
    have e : (562949953421312 : Int64) = lN 562949953421312 := rfl
    rw [e, pk_lLE hF (by omega)] at h1
    have a := mxN_le h
    rw [if_neg (nI_ne0 (by omega) (by omega)), nI_l (by omega), lN_add, gt_lN h1 h]
/-- how the drafts belong together -/
def RD (dn wt : Nat) (lt : Int32) (N : Nat) (gs : Nat → GR) (gk gv : Nat → Int64) (kf vf df : Nat → Int32) : Prop :=
  gnum gs N = dn ∧ dn ≤ 1000 ∧ wt = wtN kf vf df dn ∧ wt ≤ 16000 ∧ gsL gs N = rsL kf vf df gk gv dn ∧ (∀ q, q < dn → dOk (kf q) (vf q) (df q)) ∧ (∀ j, j < N → 1 ≤ (gs j).1) ∧
  (∀ j, j < N → (gs j).1 ≤ 100 ∧ ∀ i, i < (gs j).1 → dOk (gs j).2.2.1 (gs j).2.2.2.2.1 ((gs j).2.2.2.2.2 + nI i)) ∧ lt = nI (mxN df dn) ∧ dlOk df dn
theorem rd_0 {gs : Nat → GR} : RD 0 0 0 0 gs gk gv kf vf df := ⟨rfl, Nat.zero_le _, rfl, Nat.zero_le _, rfl, fun q h => absurd h (Nat.not_lt_zero _), fun q h => absurd h (Nat.not_lt_zero _), fun q h => absurd h (Nat.not_lt_zero _), rfl, fun q h => absurd h (Nat.not_lt_zero _)⟩
theorem rd_new {wt N n : Nat} {lt : Int32} {gs : Nat → GR} (h : RD dn wt lt N gs gk gv kf vf df) (h1 : ¬ kb < -1) (h2 : kb ≤ 8) (h3 : ¬ vb < -1) (h4 : vb ≤ 300) (h5 : ¬ la < 0) (h6 : la ≤ 1000000) (hn1 : 1 ≤ n) (hn : n ≤ 100) (hdn : dn + n ≤ 1000) (hwt : wt + gwN kb vb la dn n ≤ 16000) :
    RD (dn + n) (wt + gwN kb vb la dn n) (if lt < la + nI n - 1 then la + nI n - 1 else lt) (N + 1) (va_up gs N (n, ky, kb, vy, vb, la)) (flL gk dn ky n) (flL gv dn vy n) (flC kf dn kb n) (flC vf dn vb n) (flP df dn la n) := by
  obtain ⟨e1, e2, e3, e4, e5, e6, e7, e8, e9, e10⟩ := h
  obtain ⟨L, hL, rfl⟩ := nI_of2 (M := 1000000) (n := 1000000) (by decide) h5 h6
  refine ⟨by rw [gnum_new, e1], hdn, by rw [e3, wt_gw], hwt, ?_, hd_new e6 hn h1 h2 h3 h4 h5 h6, ?_, ?_, ?_, dl_new e10 hL hn⟩
  · rw [gsL_new, e1, e5, rs_go (n0 := n)]
  · intro j hj
    by_cases c : j = N
    · subst c; rw [va_up_self]; exact hn1
    · rw [va_up_ne _ _ c]; exact e7 j (by omega)
  · intro j hj
    by_cases c : j = N
    · subst c; rw [va_up_self]; exact ⟨hn, fun i hi => dOk_new h1 h2 h3 h4 h5 h6 (by have hi' : i < n := hi; omega)⟩
    · rw [va_up_ne _ _ c]; exact e8 j (by omega)
  · obtain ⟨n', rfl⟩ : ∃ n', n = n' + 1 := ⟨n - 1, by omega⟩
    rw [e9, mx_new hL (by omega)]
    exact lt_new hL (by omega) (mxN_le e10)
end RL7
/-- a sealed batch -/
theorem rb_seal {tp f f1 : Nat → Int32} {k dn wt N : Nat} {lt : Int32} {gs : Nat → GR} {gk gv : Nat → Int64} {kf vf df : Nat → Int32} {ft pr : Int64} {ep sq : Int32} (h : RB tp f k) (he : ∀ i, i < k → f1 i = f i) (hd : RD dn wt lt N gs gk gv kf vf df) (h0 : ¬ ft < 0) (h1 : ft ≤ 562949953421312) :
    RB (mPs (wrI tp k (sbL kf vf df gk gv (wtN kf vf df dn) dn ft (gtM df ft dn) pr ep sq dn)) (k + 17) (ckM (wrI tp k (sbL kf vf df gk gv (wtN kf vf df dn) dn ft (gtM df ft dn) pr ep sq dn)) (k + 21) (40 + wtN kf vf df dn)) 4)
       (pCk (wrB (wrB f1 k (sd13 wt dn ft (if nI dn = 0 then 0 else ft + lt.toInt64) pr ep sq)) (k + 61) (gsL gs N)) (k + 17) (ckC (wrB (wrB f1 k (sd13 wt dn ft (if nI dn = 0 then 0 else ft + lt.toInt64) pr ep sq)) (k + 61) (gsL gs N)) (k + 21) ((k + 61) + (gsL gs N).length - (k + 21))) 4) (k + (61 + wtN kf vf df dn)) ∧ (k + 61) + (gsL gs N).length = k + (61 + wtN kf vf df dn) := by
  obtain ⟨e1, e2, e3, e4, e5, e6, e7, e8, e9, e10⟩ := hd
  have eg : (if nI dn = 0 then 0 else ft + lt.toInt64) = gtM df ft dn := by rw [e9]; exact gt_eq h0 h1 e2 e10
  have el : (gsL gs N).length = wtN kf vf df dn := by rw [e5, rsL_len]
  have ef : wrB (wrB f1 k (sd13 wt dn ft (gtM df ft dn) pr ep sq)) (k + 61) (gsL gs N) = wrB f1 k (sbL kf vf df gk gv (wtN kf vf df dn) dn ft (gtM df ft dn) pr ep sq dn) := by
    rw [e3, e5]
    exact wb_go2 (by unfold sbL; with_reducible rfl) (sd13_len ..)
  have hr := rb_wr (rb_cong h he) (sbL kf vf df gk gv (wtN kf vf df dn) dn ft (gtM df ft dn) pr ep sq dn)
  rw [sbL_len] at hr
  rw [eg, ef, el, show k + 61 + wtN kf vf df dn - (k + 21) = 40 + wtN kf vf df dn by omega]
  obtain ⟨M, h2, h3, h4⟩ := rb_sum hr (a := k + 21) (n := 40 + wtN kf vf df dn) (by omega)
  rw [h3, h4]
  exact ⟨rb_ck hr h2 4 (Nat.le_refl _), by omega⟩
