/-! the reference: a record's bytes, and a batch's -/
def vL (x : Int32) : List Int32 := (vlN 9 (zg x)).map nI
theorem vL_len (x : Int32) : (vL x).length = vN x := by unfold vL vN; rw [List.length_map]
theorem vL_M {x : Int32} (h : pOk x) : vlM (mz x.toInt64) (vN x) = vL x := vlM_z h
theorem wrI_vlM {f : Nat → Int32} {k lf : Nat} {z : Int64} (h : 0 < lf) : wrI f k (vlM z lf) = wrI (wrI f k (numL ((z &&& 127) + (if nI lf ≤ 1 then 0 else 128)) 1)) (k + 1) (vlM (us7 z) (lf - 1)) := by
  obtain ⟨q, rfl⟩ : ∃ q, lf = q + 1 := ⟨lf - 1, by omega⟩
  rw [vlM, wrI_app, numL_len, Nat.add_sub_cancel]
theorem pOk_n2 {x : Int32} (h : pOk x) (h2 : ¬ x ≤ 0) : x = nI x.toNatClampNeg := by
  have := pOk_0 h
  rw [if_neg h2] at this
  exact this
theorem pOk_n0 {x : Int32} (h2 : x ≤ 0) : x.toNatClampNeg = 0 := by
  rw [Int32.le_iff_toInt_le, Int32.toInt_zero] at h2
  show x.toInt.toNat = 0
  omega
theorem pOk_le {x : Int32} {i : Nat} (h : pOk x) (hi : i ≤ x.toNatClampNeg) : x ≤ nI i ↔ i = x.toNatClampNeg := by
  rcases h with rfl | ⟨n, h, rfl⟩
  · have : i = 0 := by
      have e : (-1 : Int32).toNatClampNeg = 0 := by decide
      omega
    subst this
    exact ⟨fun _ => by decide, fun _ => by decide⟩
  · rw [nI_clamp (by omega)] at hi ⊢
    rw [nI_leI (by omega) (by omega)]
    omega
/-- the value's bytes -/
def vaL (v : Int64) : Nat → List Int32
  | 0 => []
  | j + 1 => vaL v j ++ numL (v >>> ((8 * (nI j - nI j / 8 * 8) : Int32).toInt64 &&& 63)) 1
theorem vaL_len (v : Int64) (j : Nat) : (vaL v j).length = j := by
  induction j with
  | zero => rfl
  | succ j ih => rw [vaL, List.length_append, ih, numL_len]
section RC
variable (kb vb dl : Int32) (ky vy : Int64) (j : Nat)
def rc1 : List Int32 := vL (nI (bdN kb vb dl j))
def rc2 : List Int32 := rc1 kb vb dl j ++ numL 0 1
def rc3 : List Int32 := rc2 kb vb dl j ++ vL dl
def rc4 : List Int32 := rc3 kb vb dl j ++ vL (nI j)
def rc5 : List Int32 := rc4 kb vb dl j ++ vL kb
def rc6 : List Int32 := rc5 kb vb dl j ++ numL ky kb.toNatClampNeg
def rc7 : List Int32 := rc6 kb vb dl ky j ++ vL vb
def rc8 (i : Nat) : List Int32 := rc7 kb vb dl ky j ++ vaL vy i
def rc9 : List Int32 := rc8 kb vb dl ky vy j vb.toNatClampNeg ++ numL 0 1
theorem rc_len : (rc1 kb vb dl j).length = vN (nI (bdN kb vb dl j)) ∧ (rc2 kb vb dl j).length = (rc1 kb vb dl j).length + 1 ∧ (rc3 kb vb dl j).length = (rc2 kb vb dl j).length + vN dl ∧ (rc4 kb vb dl j).length = (rc3 kb vb dl j).length + vN (nI j) ∧ (rc5 kb vb dl j).length = (rc4 kb vb dl j).length + vN kb ∧ (rc6 kb vb dl ky j).length = (rc5 kb vb dl j).length + kb.toNatClampNeg ∧ (rc7 kb vb dl ky j).length = (rc6 kb vb dl ky j).length + vN vb ∧ (∀ i, (rc8 kb vb dl ky vy j i).length = (rc7 kb vb dl ky j).length + i) ∧ (rc9 kb vb dl ky vy j).length = vN (nI (bdN kb vb dl j)) + bdN kb vb dl j := by
  have h1 : (rc1 kb vb dl j).length = vN (nI (bdN kb vb dl j)) := by unfold rc1; exact vL_len _
  have h2 : (rc2 kb vb dl j).length = (rc1 kb vb dl j).length + 1 := by unfold rc2; rw [List.length_append, numL_len]
  have h3 : (rc3 kb vb dl j).length = (rc2 kb vb dl j).length + vN dl := by unfold rc3; rw [List.length_append, vL_len]
  have h4 : (rc4 kb vb dl j).length = (rc3 kb vb dl j).length + vN (nI j) := by unfold rc4; rw [List.length_append, vL_len]
  have h5 : (rc5 kb vb dl j).length = (rc4 kb vb dl j).length + vN kb := by unfold rc5; rw [List.length_append, vL_len]
  have h6 : (rc6 kb vb dl ky j).length = (rc5 kb vb dl j).length + kb.toNatClampNeg := by unfold rc6; rw [List.length_append, numL_len]
  have h7 : (rc7 kb vb dl ky j).length = (rc6 kb vb dl ky j).length + vN vb := by unfold rc7; rw [List.length_append, vL_len]
  have h8 : ∀ i, (rc8 kb vb dl ky vy j i).length = (rc7 kb vb dl ky j).length + i := fun i => by unfold rc8; rw [List.length_append, vaL_len]
  refine ⟨h1, h2, h3, h4, h5, h6, h7, h8, ?_⟩
  unfold rc9
  rw [List.length_append, numL_len, h8]
  rw [h7, h6, h5, h4, h3, h2, h1]
  generalize vN (nI (bdN kb vb dl j)) = w
  unfold bdN
  omega
end RC
/-- bytes put behind bytes -/
theorem wr_go {f : Nat → Int32} {k : Nat} {A B C : List Int32} (h : C = A ++ B) : wrI (wrI f k A) (k + A.length) B = wrI f k C := by rw [h, wrI_app]
theorem sz_go {k n : Nat} {A C : List Int32} (h : C.length = A.length + n) : nI (k + A.length + n) = nI (k + C.length) := by rw [h, Nat.add_assoc]
/-- a key of no bytes puts none -/
theorem rc6_tp {tp : Nat → Int32} {ks j : Nat} {kb vb dl : Int32} {ky : Int64} : (if kb ≤ 0 then wrI tp ks (rc5 kb vb dl j) else wrI (wrI tp ks (rc5 kb vb dl j)) (ks + (rc5 kb vb dl j).length) (numL ky kb.toNatClampNeg)) = wrI tp ks (rc6 kb vb dl ky j) := by
  by_cases c : kb ≤ 0
  · rw [if_pos c]
    unfold rc6
    rw [pOk_n0 c, numL, List.append_nil]
  · rw [if_neg c]
    exact wr_go rfl
theorem rc6_sz {ks j : Nat} {kb vb dl : Int32} {ky : Int64} : (if kb ≤ 0 then nI (ks + (rc5 kb vb dl j).length) else nI (ks + (rc5 kb vb dl j).length + kb.toNatClampNeg)) = nI (ks + (rc6 kb vb dl ky j).length) := by
  have h6 := (rc_len kb vb dl ky 0 j).2.2.2.2.2.1
  by_cases c : kb ≤ 0
  · rw [if_pos c, h6, pOk_n0 c]
    rfl
  · rw [if_neg c]
    exact sz_go h6
/-- the bytes of the first records -/
def rsL (kf vf df : Nat → Int32) (gk gv : Nat → Int64) : Nat → List Int32
  | 0 => []
  | j + 1 => rsL kf vf df gk gv j ++ rc9 (kf j) (vf j) (df j) (gk j) (gv j) j
theorem rsL_len {kf vf df : Nat → Int32} {gk gv : Nat → Int64} (n : Nat) : (rsL kf vf df gk gv n).length = wtN kf vf df n := by
  induction n with
  | zero => rfl
  | succ n ih => rw [rsL, List.length_append, ih, wtN, (rc_len (kf n) (vf n) (df n) (gk n) (gv n) n).2.2.2.2.2.2.2.2]
theorem rc8_0 {kb vb dl : Int32} {ky vy : Int64} {j : Nat} : rc8 kb vb dl ky vy j 0 = rc7 kb vb dl ky j := by unfold rc8 vaL; exact List.append_nil _
theorem nI_dec {n : Nat} (h : 0 < n) : nI n + (-1) = nI (n - 1) := by
  obtain ⟨q, rfl⟩ : ∃ q, n = q + 1 := ⟨n - 1, by omega⟩
  rw [← Int32.sub_eq_add_neg, nI_pred]
  rfl
