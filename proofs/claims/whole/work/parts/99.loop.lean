/-! the law's loop -/
def R_law : String := "BatchBytesLaw"
def lw_P (b : Addr) (xs : List Int32) (args : Array Value) (s : State) : Prop := args = #[.ref b] ∧ s.IntsAt b xs ∧ xs.length ≤ 4608 ∧ (Jvm.Cond.and given_1 narrow_1).before args s = true
def lw_Q (_ : Array Value) (s : State) (o : Outcome) (t : State) : Prop := o = .returned (some (.int 1)) ∧ Framed s o t [] 601024 7293034
def lw_Z (below : List Frame) (a : Array Value) (s : State) : State → Prop := fun t => ∃ o, t.status = .running ∧ Ended t below o ∧ lw_Q a s o t
/-- the law's own end, with 1 on the stack, nothing written that was there before, its room as the claim has it -/
theorem lw_ret {p : Program} {l : Launch} {e : Env} {s : State} {m : MethodId} {below : List Frame} {meth : Method} {c : Code} {b : Nat} (hx : p.tables.exec = Jvm.exec) (hb : c.code = code) (hr : meth.sig.returnType = ret) (hlocks : meth.locks = false) {pc : Nat} {H : Heap} {ls : Array Slot} (hdg : decode code pc = .ok (.ireturn, 1)) : W p l e room_1 s m #[Value.ref b] below meth c H [] 601024 7293034 (lw_Z below #[Value.ref b] s) (F0 m pc ls [.int 1]) := by
  intro T hT X
  obtain ⟨fs, hret, hrun, hended, hW, hframe⟩ := X.leave (v := some (.int 1)) (hlocks := hlocks) (fun h => by rw [hr] at h; cases h)
  have hmeth' : T.vm.method? m = some meth := X.method'
  refine ⟨T.setFrames fs, ?_, .returned (some (.int 1)), hrun, hended, rfl, ⟨_, rfl⟩, hW, hframe⟩
  jvm_step X.here [X.here.top, hx, hb, hdg, hmeth', hr, ret, narrow_b1]
  (try refine ⟨rfl, ?_⟩); (try refine ⟨rfl, ?_⟩)
  first | (intro acts; rw [hret _ acts rfl rfl rfl]) | rw [hret _ _ rfl rfl rfl]
  exact Steps.refl _
/-- what holds at the law's entry: the machine, the code, the tables' words (any of lw_tbl by 'hts w (by decide +kernel)'), the script of L ints xs at the cell b, what the Statement gives of the start (any of its parts by flat_of_before) -/
def lw_At (p : Program) (s : State) (m : MethodId) (meth : Method) (c : Code) (b L : Nat) (xs : Nat → Int32) : Prop :=
  p.tables.exec = Jvm.exec ∧ c.code = code ∧ meth.sig.returnType = ret ∧ c.maxLocals = 8 ∧ s.vm.findClass R_law = some m.cls ∧ (∀ w ∈ lw_tbl, w.before #[Value.ref b] s = true) ∧ va_X b L xs s s.heap ∧ b < s.heap.size ∧ meth.locks = false ∧ (Jvm.Cond.and given_1 narrow_1).before #[Value.ref b] s = true
theorem lp_out {i L : Nat} (h : L < i + 9) (hi : i < 2 ^ 29) : nI L - 9 < nI i := by
  have e9 : (9 : Int32) = nI 9 := rfl
  rw [e9]
  rcases Nat.lt_or_ge L 9 with c | c
  · have a := pk_sneg (a := L) (b := 9) (by omega) c
    exact Int32.lt_of_lt_of_le a (nI_pos' (by omega))
  · rw [pk_sub c]
    exact nI_lt (by omega) (by omega)
theorem sw_out11 {x : Int32} (h0 : ¬ x = 0) (h1 : ¬ x = 1) (h2 : ¬ x = 2) (h3 : ¬ x = 3) (h4 : ¬ x = 4) (h5 : ¬ x = 5) (h6 : ¬ x = 6) (h7 : ¬ x = 7) (h8 : ¬ x = 8) (h9 : ¬ x = 9) (h10 : ¬ x = 10) (h11 : ¬ x = 11) : x.toInt < 0 ∨ 11 < x.toInt := by
  have e0 := sw_ne h0
  rw [show (0 : Int32).toInt = 0 by decide] at e0
  have e1 := sw_ne h1
  rw [show (1 : Int32).toInt = 1 by decide] at e1
  have e2 := sw_ne h2
  rw [show (2 : Int32).toInt = 2 by decide] at e2
  have e3 := sw_ne h3
  rw [show (3 : Int32).toInt = 3 by decide] at e3
  have e4 := sw_ne h4
  rw [show (4 : Int32).toInt = 4 by decide] at e4
  have e5 := sw_ne h5
  rw [show (5 : Int32).toInt = 5 by decide] at e5
  have e6 := sw_ne h6
  rw [show (6 : Int32).toInt = 6 by decide] at e6
  have e7 := sw_ne h7
  rw [show (7 : Int32).toInt = 7 by decide] at e7
  have e8 := sw_ne h8
  rw [show (8 : Int32).toInt = 8 by decide] at e8
  have e9 := sw_ne h9
  rw [show (9 : Int32).toInt = 9 by decide] at e9
  have e10 := sw_ne h10
  rw [show (10 : Int32).toInt = 10 by decide] at e10
  have e11 := sw_ne h11
  rw [show (11 : Int32).toInt = 11 by decide] at e11
  omega
set_option maxHeartbeats 8000000 in
set_option maxRecDepth 100000 in
theorem law_loop {p : Program} {l : Launch} {e : Env} {s : State} {m : MethodId} {below : List Frame} {meth : Method} {c : Code} {b L : Nat} {xs : Nat → Int32} {dC : Nat → ClassId} {dI : Nat → Nat → Nat} {eE : Nat} {cO : ClassId} {cJ : ClassId} {c1_ : ClassId} {c2_ : ClassId} {c3_ : ClassId} {c4_ : ClassId} {c5_ : ClassId} {c6_ : ClassId} {aB : Nat} {aT : Nat} {aF : Nat} {aQ : Nat} {aK : Nat} {aV : Nat} {aL : Nat} {aM : Nat} {a1 : Nat} {a2 : Nat} {a3 : Nat} {a4 : Nat} {a5 : Nat} {a6 : Nat} {aO : Nat} (hx : p.tables.exec = Jvm.exec) (hb : c.code = code) (hr : meth.sig.returnType = ret) (hlocks : meth.locks = false) (hml : c.maxLocals = 8) (hown : s.vm.findClass rn_L = some m.cls) (hts : ∀ w ∈ bigT, w.before #[Value.ref b] s = true) (hX : va_X b L xs s s.heap) (hbl : b < s.heap.size) (hbA : ¬ (fun q : Nat => s.heap.size ≤ q) b) (hA : ∀ q, s.heap.size ≤ q → (fun q : Nat => s.heap.size ≤ q) q) (hG : GV (fun q : Nat => s.heap.size ≤ q) s s.heap) (hE : ZE eE (fun q : Nat => s.heap.size ≤ q) s s.heap) (hst : l.stackTraces = false) (hL : L ≤ 4608) : ∀ (x : Nat × Nat × Nat) (H : Heap) (locs : List Loc) (ls : Array Slot), (x.1 ≤ 4700 ∧ INV (dC, dI) (fun q : Nat => s.heap.size ≤ q) s eE cO cJ c1_ c2_ c3_ c4_ c5_ c6_ aB aT aF aQ aK aV aL aM a1 a2 a3 a4 a5 a6 aO x.2.1 x.2.2 H ∧ va_S (fun q : Nat => s.heap.size ≤ q) s.heap H locs ∧ lv_has ls 8 [(4, .int (nI x.1)), (3, .ref aO), (2, .ref aM), (1, .ref aB), (0, .ref b)]) → W p l e room_1 s m #[Value.ref b] below meth c H locs (CN x.1) (SN x.1 x.2.1 x.2.2) (lw_Z below #[Value.ref b] s) (F0 m 23 ls []) := by
  refine w_loop (σ := Nat × Nat × Nat) (fun x H locs ls => x.1 ≤ 4700 ∧ INV (dC, dI) (fun q : Nat => s.heap.size ≤ q) s eE cO cJ c1_ c2_ c3_ c4_ c5_ c6_ aB aT aF aQ aK aV aL aM a1 a2 a3 a4 a5 a6 aO x.2.1 x.2.2 H ∧ va_S (fun q : Nat => s.heap.size ≤ q) s.heap H locs ∧ lv_has ls 8 [(4, .int (nI x.1)), (3, .ref aO), (2, .ref aM), (1, .ref aB), (0, .ref b)]) (fun _ ls => F0 m 23 ls []) (fun x => CN x.1) (fun x => SN x.1 x.2.1 x.2.2) (fun x => 5000 - x.1) ?_
  rintro ⟨i, n, ln⟩ H locs ls ⟨hi, hI, hS, hl⟩ ih
  have hi : i ≤ 4700 := hi
  have hI : INV (dC, dI) (fun q : Nat => s.heap.size ≤ q) s eE cO cJ c1_ c2_ c3_ c4_ c5_ c6_ aB aT aF aQ aK aV aL aM a1 a2 a3 a4 a5 a6 aO n ln H := hI
  have hl : lv_has ls 8 [(4, .int (nI i)), (3, .ref aO), (2, .ref aM), (1, .ref aB), (0, .ref b)] := hl
  show W p l e room_1 s m #[Value.ref b] below meth c H locs (CN i) (SN i n ln) (lw_Z below #[Value.ref b] s) (F0 m 23 ls [])
  have hCN := cn_le (i := i) (by omega)
  have hSN : SN i n ln ≤ 200000 := by
    obtain ⟨_, _, _, _, _, _, _, _, _, _, _, _, _, _, _, _, _, _, _, _, _, _, _, _, _, _, _, _, _, _, _, _, _, _, _, _, _, _, _, _, _, _, -, r2, -, -, -, -, -, r8, -, -, -⟩ := hI
    exact sn_le (by omega) r2 r8
  have KK : i + 9 ≤ L → ∀ (n' ln' : Nat) (H' : Heap) (locs' : List Loc) (ls' : Array Slot), INV (dC, dI) (fun q : Nat => s.heap.size ≤ q) s eE cO cJ c1_ c2_ c3_ c4_ c5_ c6_ aB aT aF aQ aK aV aL aM a1 a2 a3 a4 a5 a6 aO n' ln' H' → va_S (fun q : Nat => s.heap.size ≤ q) s.heap H' locs' → lv_has ls' 8 [(4, .int (nI i)), (3, .ref aO), (2, .ref aM), (1, .ref aB), (0, .ref b)] → W p l e room_1 s m #[Value.ref b] below meth c H' locs' (CN (i + 9)) (SN (i + 9) n' ln') (lw_Z below #[Value.ref b] s) (F0 m 949 ls' []) := by
    intro hi9 n' ln' H' locs' ls hI hS hl
    refine lv_iinc (v := (nI i + 9)) (lv' := [(4, .int (nI i + 9)), (3, .ref aO), (2, .ref aM), (1, .ref aB), (0, .ref b)]) hx hb dc_L_law_949 hl (k := 0) rfl rfl (by decide) rfl (fun ls hl => ?_)
    refine lv_goto (tgt := 23) hx hb dc_L_law_952 (by decide) ?_
    have hl := wL_eq (lv' := [(4, .int (nI (i + 9))), (3, .ref aO), (2, .ref aM), (1, .ref aB), (0, .ref b)]) hl (by rw [show nI i + 9 = nI (i + 9) from nI_add i 9])
    exact ih (i + 9, n', ln') _ _ _ ⟨by show i + 9 ≤ 4700; omega, hI, hS, hl⟩ (by show 5000 - (i + 9) < 5000 - i; omega)
  refine lv_iload hx hb dc_L_law_23 (lv_at hl 0 rfl) ?_
  refine lv_aload_n hx hb dc_L_law_25 rfl (lv_at hl 4 rfl) ?_
  refine va_slen hx hb hX hbl hbA hS dc_L_law_26 ?_
  refine W.eq (g2 := F0 m 27 ls [.int (nI L), .int (nI i)]) rfl ?_
  refine lv_bipush (v := 9) hx hb dc_L_law_27 (by decide) ?_
  refine lv_isub hx hb dc_L_law_29 ?_
  refine lv_icmp_gt (tgt := 955) hx hb dc_L_law_30 (by decide) (fun c0 => ?_) (fun c0 => ?_)
  · refine lv_iconst (v := 1) hx hb dc_L_law_955 (by decide) ?_
    refine W.widen (k := 601024) (n := 7293034) (by omega) (by omega) ?_
    refine va_forget (fun q hq => hS.2.2 q hq) ?_
    exact lw_ret hx hb hr hlocks dc_L_law_956
  have hi9 : i + 9 ≤ L := by
    rcases Nat.lt_or_ge L (i + 9) with h | h
    · exact absurd (lp_out h (by omega)) c0
    · exact h
  have KK := KK hi9
  refine lv_aload_n hx hb dc_L_law_33 rfl (lv_at hl 4 rfl) ?_
  refine lv_iload hx hb dc_L_law_34 (lv_at hl 0 rfl) ?_
  refine va_sld hx hb hX hbl hbA hS (vp_in_nI (by omega) (by omega)) dc_L_law_36 ?_
  rw [show (nI (i)).toNatClampNeg = i from nI_clamp (by omega)]
  refine lv_bipush (v := 15) hx hb dc_L_law_37 (by decide) ?_
  refine lv_iand hx hb dc_L_law_39 ?_
  by_cases c_1 : ((xs i) &&& 15) = 0
  · refine lv_tableIn (off := 64) (tgt := 104) hx hb dc_L_law_40 (by rw [c_1]; decide) (by rw [c_1]; decide) (by rw [c_1]; rfl) (by decide) ?_
    exact st_feed hx hb hml hown hts hX hbl hbA hA hG hE hst hL hi9 hI hS hl KK
  by_cases c_2 : ((xs i) &&& 15) = 1
  · refine lv_tableIn (off := 168) (tgt := 208) hx hb dc_L_law_40 (by rw [c_2]; decide) (by rw [c_2]; decide) (by rw [c_2]; rfl) (by decide) ?_
    exact st_trim hx hb hml hown hts hX hbl hbA hA hG hE hst hL hi9 hI hS hl KK
  by_cases c_3 : ((xs i) &&& 15) = 2
  · refine lv_tableIn (off := 224) (tgt := 264) hx hb dc_L_law_40 (by rw [c_3]; decide) (by rw [c_3]; decide) (by rw [c_3]; rfl) (by decide) ?_
    exact st_spoil hx hb hml hown hts hX hbl hbA hA hG hE hst hL hi9 hI hS hl KK
  by_cases c_4 : ((xs i) &&& 15) = 3
  · refine lv_tableIn (off := 292) (tgt := 332) hx hb dc_L_law_40 (by rw [c_4]; decide) (by rw [c_4]; decide) (by rw [c_4]; rfl) (by decide) ?_
    exact st_check hx hb hml hown hts hX hbl hbA hA hG hE hst hL hi9 hI hS hl KK
  by_cases c_5 : ((xs i) &&& 15) = 4
  · refine lv_tableIn (off := 305) (tgt := 345) hx hb dc_L_law_40 (by rw [c_5]; decide) (by rw [c_5]; decide) (by rw [c_5]; rfl) (by decide) ?_
    exact st_record hx hb hml hown hts hX hbl hbA hA hG hE hst hL hi9 hI hS hl KK
  by_cases c_6 : ((xs i) &&& 15) = 5
  · refine lv_tableIn (off := 491) (tgt := 531) hx hb dc_L_law_40 (by rw [c_6]; decide) (by rw [c_6]; decide) (by rw [c_6]; rfl) (by decide) ?_
    exact st_clear hx hb hml hown hts hX hbl hbA hA hG hE hst hL hi9 hI hS hl KK
  by_cases c_7 : ((xs i) &&& 15) = 6
  · refine lv_tableIn (off := 504) (tgt := 544) hx hb dc_L_law_40 (by rw [c_7]; decide) (by rw [c_7]; decide) (by rw [c_7]; rfl) (by decide) ?_
    exact st_seal hx hb hml hown hts hX hbl hbA hA hG hE hst hL hi9 hI hS hl KK
  by_cases c_8 : ((xs i) &&& 15) = 7
  · refine lv_tableIn (off := 662) (tgt := 702) hx hb dc_L_law_40 (by rw [c_8]; decide) (by rw [c_8]; decide) (by rw [c_8]; rfl) (by decide) ?_
    exact st_size hx hb hml hown hts hX hbl hbA hA hG hE hst hL hi9 hI hS hl KK
  by_cases c_9 : ((xs i) &&& 15) = 8
  · refine lv_tableIn (off := 675) (tgt := 715) hx hb dc_L_law_40 (by rw [c_9]; decide) (by rw [c_9]; decide) (by rw [c_9]; rfl) (by decide) ?_
    exact st_byteAt hx hb hml hown hts hX hbl hbA hA hG hE hst hL hi9 hI hS hl KK
  by_cases c_10 : ((xs i) &&& 15) = 9
  · refine lv_tableIn (off := 731) (tgt := 771) hx hb dc_L_law_40 (by rw [c_10]; decide) (by rw [c_10]; decide) (by rw [c_10]; rfl) (by decide) ?_
    exact st_fault hx hb hml hown hts hX hbl hbA hA hG hE hst hL hi9 hI hS hl KK
  by_cases c_11 : ((xs i) &&& 15) = 10
  · refine lv_tableIn (off := 787) (tgt := 827) hx hb dc_L_law_40 (by rw [c_11]; decide) (by rw [c_11]; decide) (by rw [c_11]; rfl) (by decide) ?_
    exact st_head hx hb hml hown hts hX hbl hbA hA hG hE hst hL hi9 hI hS hl KK
  by_cases c_12 : ((xs i) &&& 15) = 11
  · refine lv_tableIn (off := 842) (tgt := 882) hx hb dc_L_law_40 (by rw [c_12]; decide) (by rw [c_12]; decide) (by rw [c_12]; rfl) (by decide) ?_
    exact st_told hx hb hml hown hts hX hbl hbA hA hG hE hst hL hi9 hI hS hl KK
  refine lv_tableOut (tgt := 949) hx hb dc_L_law_40 (sw_out11 c_1 c_2 c_3 c_4 c_5 c_6 c_7 c_8 c_9 c_10 c_11 c_12) (by decide) ?_
  exact W.widen (k := CN (i + 9)) (n := SN (i + 9) n ln) (by unfold CN; omega) (by unfold SN; omega) (KK n ln _ _ _ hI hS hl)