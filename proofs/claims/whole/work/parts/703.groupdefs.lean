/-! groups of records, the class's side -/
theorem vL_C {x : Int32} (h : pOk x) : vlC (cF x.toInt64) 9 = vL x := vlC_z h
theorem wb_go {f : Nat → Int32} {k : Nat} {A B C : List Int32} (h : C = A ++ B) : wrB (wrB f k A) (k + A.length) B = wrB f k C := by rw [h, wrB_app]
theorem wb_go2 {f : Nat → Int32} {k n : Nat} {A B C : List Int32} (h : C = A ++ B) (hl : A.length = n) : wrB (wrB f k A) (k + n) B = wrB f k C := by rw [h, wrB_app, hl]
theorem upd_wrB (f : Nat → Int32) (k : Nat) (x : Int32) : upd f k x.toInt8.toInt32 = wrB f k [x] := rfl
theorem pOk_max {x : Int32} (h : pOk x) : (if x < 0 then 0 else x) = nI x.toNatClampNeg := by
  rcases h with rfl | ⟨n, h, rfl⟩
  · decide
  · rw [nI_clamp (by omega), if_neg (nI_pos (by omega))]
theorem part_eq {x : Int32} (h : pOk x) : vbC x.toInt64 + (if x < 0 then 0 else x) = nI (vN x + x.toNatClampNeg) := by
  rw [vbC_z h, pOk_max h, nI_add]
theorem bd_eq {kb vb dl : Int32} {j : Nat} (h : dOk kb vb dl) (hj : j < 2 ^ 30) : 2 + vbC dl.toInt64 + vbC (nI j).toInt64 + nI (vN kb + kb.toNatClampNeg) + nI (vN vb + vb.toNatClampNeg) = nI (bdN kb vb dl j) := by
  rw [vbC_z h.2.2.2.2, vbC_z (pOk_n hj), show (2 : Int32) = nI 2 from rfl, nI_add, nI_add, nI_add, nI_add]
  refine congrArg nI ?_
  unfold bdN
  omega
/-- the bytes of a group's first records -/
def gwN (kb vb la : Int32) (num : Nat) : Nat → Nat
  | 0 => 0
  | i + 1 => gwN kb vb la num i + (vN (nI (bdN kb vb (la + nI i) (num + i))) + bdN kb vb (la + nI i) (num + i))
theorem gwN_le {kb vb la : Int32} {num n : Nat} (h : ∀ i, i < n → dOk kb vb (la + nI i)) : gwN kb vb la num n ≤ 360 * n := by
  induction n with
  | zero => exact Nat.le_refl _
  | succ n ih =>
    have a := ih (fun j hj => h j (by omega))
    have b := bdN_le (j := num + n) (h n (by omega))
    have c := vN_le (nI (bdN kb vb (la + nI n) (num + n)))
    rw [gwN]
    omega
theorem gw_step {b v : Nat} {x : Int32} (h : x = nI v) : nI b + (x + nI v) = nI (b + (v + v)) := by rw [h, nI_add, nI_add]
theorem flC_step {f : Nat → Int32} {a : Nat} {v : Int32} {j q : Nat} (h : q < a + j) : flC f a v (j + 1) q = flC f a v j q := by rw [flC, pk_un (by omega)]
theorem flP_step {f : Nat → Int32} {a : Nat} {v : Int32} {j q : Nat} (h : q < a + j) : flP f a v (j + 1) q = flP f a v j q := by rw [flP, pk_un (by omega)]
theorem wtN_cong {kf vf df kf' vf' df' : Nat → Int32} {n : Nat} (h1 : ∀ q, q < n → kf q = kf' q) (h2 : ∀ q, q < n → vf q = vf' q) (h3 : ∀ q, q < n → df q = df' q) : wtN kf vf df n = wtN kf' vf' df' n := by
  induction n with
  | zero => rfl
  | succ n ih => rw [wtN, wtN, ih (fun q hq => h1 q (by omega)) (fun q hq => h2 q (by omega)) (fun q hq => h3 q (by omega)), h1 n (by omega), h2 n (by omega), h3 n (by omega)]
theorem wt_gw {kf vf df : Nat → Int32} {kb vb la : Int32} {dn : Nat} (n : Nat) : wtN (flC kf dn kb n) (flC vf dn vb n) (flP df dn la n) (dn + n) = wtN kf vf df dn + gwN kb vb la dn n := by
  induction n with
  | zero => rfl
  | succ n ih =>
    rw [show dn + (n + 1) = dn + n + 1 by omega, wtN, wtN_cong (kf' := flC kf dn kb n) (vf' := flC vf dn vb n) (df' := flP df dn la n) (fun q hq => flC_step hq) (fun q hq => flC_step hq) (fun q hq => flP_step hq), ih, flC_new (by omega), flC_new (by omega), flP_new (by omega), gwN]
    omega
theorem rem8 {j : Nat} (h : j < 1000) : nI j &&& 7 = nI j - nI j / 8 * 8 := by
  rw [pk_andN (by omega) 3 (by decide)]
  exact (pk_rem (d := 8) (by omega) (by omega) (by omega)).symm
theorem numL_v (v : Int64) {j : Nat} (h : j < 1000) : numL (v >>> ((8 * (nI j - nI j / 8 * 8) : Int32).toInt64 &&& 63)) 1 = [(v >>> ((8 * (nI j &&& 7) : Int32).toInt64 &&& 63)).toInt32] := by rw [numL_1, rem8 h]
theorem numL_0 : numL 0 1 = [0] := by rw [numL_1]; rfl
theorem gw_go {kb vb la : Int32} {nu i : Nat} (h : dOk kb vb (la + nI i)) : nI (gwN kb vb la nu i) + (vbC (nI (bdN kb vb (la + nI i) (nu + i))).toInt64 + nI (bdN kb vb (la + nI i) (nu + i))) = nI (gwN kb vb la nu (i + 1)) := by
  have b := bdN_le (j := nu + i) h
  rw [vbC_z (pOk_n (by omega)), nI_add, nI_add, gwN]
theorem wb_add {f : Nat → Int32} {k : Nat} {A C : List Int32} {x : Int32} (h : C = A ++ [x]) : upd (wrB f k A) (k + A.length) x.toInt8.toInt32 = wrB f k C := by rw [h, wrB_app]; rfl
