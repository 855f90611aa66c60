/-! the reference: seal -/
def gtM (df : Nat → Int32) (ft : Int64) : Nat → Int64
  | 0 => 0
  | i + 1 => if ft + (df i).toInt64 ≤ gtM df ft i then gtM df ft i else ft + (df i).toInt64
theorem wr_go2 {f : Nat → Int32} {k n : Nat} {A B C : List Int32} (h : C = A ++ B) (hl : A.length = n) : wrI (wrI f k A) (k + n) B = wrI f k C := by rw [h, wrI_app, hl]
def sd1 (wt dn : Nat) (ft gt pr : Int64) (ep sq : Int32) : List Int32 := numL (0) 8
theorem sd1_len (wt dn : Nat) (ft gt pr : Int64) (ep sq : Int32) : (sd1 wt dn ft gt pr ep sq).length = 8 := by unfold sd1; exact numL_len _ _
def sd2 (wt dn : Nat) (ft gt pr : Int64) (ep sq : Int32) : List Int32 := sd1 wt dn ft gt pr ep sq ++ numL ((49 + nI wt : Int32).toInt64) 4
theorem sd2_len (wt dn : Nat) (ft gt pr : Int64) (ep sq : Int32) : (sd2 wt dn ft gt pr ep sq).length = 12 := by unfold sd2; rw [List.length_append, numL_len, sd1_len]
def sd3 (wt dn : Nat) (ft gt pr : Int64) (ep sq : Int32) : List Int32 := sd2 wt dn ft gt pr ep sq ++ numL (0) 4
theorem sd3_len (wt dn : Nat) (ft gt pr : Int64) (ep sq : Int32) : (sd3 wt dn ft gt pr ep sq).length = 16 := by unfold sd3; rw [List.length_append, numL_len, sd2_len]
def sd4 (wt dn : Nat) (ft gt pr : Int64) (ep sq : Int32) : List Int32 := sd3 wt dn ft gt pr ep sq ++ numL (2) 1
theorem sd4_len (wt dn : Nat) (ft gt pr : Int64) (ep sq : Int32) : (sd4 wt dn ft gt pr ep sq).length = 17 := by unfold sd4; rw [List.length_append, numL_len, sd3_len]
def sd5 (wt dn : Nat) (ft gt pr : Int64) (ep sq : Int32) : List Int32 := sd4 wt dn ft gt pr ep sq ++ numL (0) 4
theorem sd5_len (wt dn : Nat) (ft gt pr : Int64) (ep sq : Int32) : (sd5 wt dn ft gt pr ep sq).length = 21 := by unfold sd5; rw [List.length_append, numL_len, sd4_len]
def sd6 (wt dn : Nat) (ft gt pr : Int64) (ep sq : Int32) : List Int32 := sd5 wt dn ft gt pr ep sq ++ numL (0) 2
theorem sd6_len (wt dn : Nat) (ft gt pr : Int64) (ep sq : Int32) : (sd6 wt dn ft gt pr ep sq).length = 23 := by unfold sd6; rw [List.length_append, numL_len, sd5_len]
def sd7 (wt dn : Nat) (ft gt pr : Int64) (ep sq : Int32) : List Int32 := sd6 wt dn ft gt pr ep sq ++ numL ((nI dn - 1 : Int32).toInt64) 4
theorem sd7_len (wt dn : Nat) (ft gt pr : Int64) (ep sq : Int32) : (sd7 wt dn ft gt pr ep sq).length = 27 := by unfold sd7; rw [List.length_append, numL_len, sd6_len]
def sd8 (wt dn : Nat) (ft gt pr : Int64) (ep sq : Int32) : List Int32 := sd7 wt dn ft gt pr ep sq ++ numL (ft) 8
theorem sd8_len (wt dn : Nat) (ft gt pr : Int64) (ep sq : Int32) : (sd8 wt dn ft gt pr ep sq).length = 35 := by unfold sd8; rw [List.length_append, numL_len, sd7_len]
def sd9 (wt dn : Nat) (ft gt pr : Int64) (ep sq : Int32) : List Int32 := sd8 wt dn ft gt pr ep sq ++ numL (gt) 8
theorem sd9_len (wt dn : Nat) (ft gt pr : Int64) (ep sq : Int32) : (sd9 wt dn ft gt pr ep sq).length = 43 := by unfold sd9; rw [List.length_append, numL_len, sd8_len]
def sd10 (wt dn : Nat) (ft gt pr : Int64) (ep sq : Int32) : List Int32 := sd9 wt dn ft gt pr ep sq ++ numL (pr) 8
theorem sd10_len (wt dn : Nat) (ft gt pr : Int64) (ep sq : Int32) : (sd10 wt dn ft gt pr ep sq).length = 51 := by unfold sd10; rw [List.length_append, numL_len, sd9_len]
def sd11 (wt dn : Nat) (ft gt pr : Int64) (ep sq : Int32) : List Int32 := sd10 wt dn ft gt pr ep sq ++ numL (ep.toInt64) 2
theorem sd11_len (wt dn : Nat) (ft gt pr : Int64) (ep sq : Int32) : (sd11 wt dn ft gt pr ep sq).length = 53 := by unfold sd11; rw [List.length_append, numL_len, sd10_len]
def sd12 (wt dn : Nat) (ft gt pr : Int64) (ep sq : Int32) : List Int32 := sd11 wt dn ft gt pr ep sq ++ numL (sq.toInt64) 4
theorem sd12_len (wt dn : Nat) (ft gt pr : Int64) (ep sq : Int32) : (sd12 wt dn ft gt pr ep sq).length = 57 := by unfold sd12; rw [List.length_append, numL_len, sd11_len]
def sd13 (wt dn : Nat) (ft gt pr : Int64) (ep sq : Int32) : List Int32 := sd12 wt dn ft gt pr ep sq ++ numL ((nI dn).toInt64) 4
theorem sd13_len (wt dn : Nat) (ft gt pr : Int64) (ep sq : Int32) : (sd13 wt dn ft gt pr ep sq).length = 61 := by unfold sd13; rw [List.length_append, numL_len, sd12_len]
/-- a batch's bytes, with its first records -/
def sbL (kf vf df : Nat → Int32) (gk gv : Nat → Int64) (wt dn : Nat) (ft gt pr : Int64) (ep sq : Int32) (i : Nat) : List Int32 := sd13 wt dn ft gt pr ep sq ++ rsL kf vf df gk gv i
theorem sbL_len {kf vf df : Nat → Int32} {gk gv : Nat → Int64} {wt dn : Nat} {ft gt pr : Int64} {ep sq : Int32} (i : Nat) : (sbL kf vf df gk gv wt dn ft gt pr ep sq i).length = 61 + wtN kf vf df i := by unfold sbL; rw [List.length_append, sd13_len, rsL_len]
theorem wtN_mono {kf vf df : Nat → Int32} {i n : Nat} (h : i ≤ n) : wtN kf vf df i ≤ wtN kf vf df n := by
  induction n with
  | zero => rw [show i = 0 by omega]; exact Nat.le_refl _
  | succ n ih =>
    by_cases c : i = n + 1
    · rw [c]; exact Nat.le_refl _
    · have := ih (by omega)
      rw [wtN]
      omega
theorem sb_go {tp : Nat → Int32} {ks i : Nat} {kf vf df : Nat → Int32} {gk gv : Nat → Int64} {wt dn : Nat} {ft gt pr : Int64} {ep sq : Int32} : wrI (wrI tp ks (sbL kf vf df gk gv wt dn ft gt pr ep sq i)) (ks + (61 + wtN kf vf df i)) (rc9 (kf i) (vf i) (df i) (gk i) (gv i) i) = wrI tp ks (sbL kf vf df gk gv wt dn ft gt pr ep sq (i + 1)) :=
  wr_go2 (by unfold sbL; rw [rsL, List.append_assoc]) (sbL_len ..)
theorem sb_0 {kf vf df : Nat → Int32} {gk gv : Nat → Int64} {wt dn : Nat} {ft gt pr : Int64} {ep sq : Int32} : sbL kf vf df gk gv wt dn ft gt pr ep sq 0 = sd13 wt dn ft gt pr ep sq := by unfold sbL rsL; exact List.append_nil _
