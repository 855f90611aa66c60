set_option maxHeartbeats 1000000 in
set_option maxRecDepth 100000 in
theorem c_R_readVarint (l : Launch) (dC : Nat → ClassId) (dI : Nat → Nat → Nat) (sz : Nat) (aQ : Nat) (aT : Nat) (aK : Nat) (aV : Nat) (pl : Int32) (en : Int32) (so : Int32) (sa : Int32) (ti : Int64) (aR : Nat) (cA : ClassId) (n : Nat) (f : Nat → Int32) (k : Nat) (ch : Int32) (hk : k ≤ n) (hn : n ≤ 16384) : Met l my_R_readVarint (wB my_R_readVarint cd_R_readVarint 5 (some .long)) ({ frames := 2, cells := 0, slots := 0, locals := 42 }) (va_Pc [.ref aQ] (PcW (dC, dI) [(aQ, .inr (4, [.ref aT, .ref aK, .ref aV, .int pl, .int en, .int so, .int sa, .long ti])), (aT, .inr (5, [.ref aR, .int (nI k), .int ch])), (aR, .inl (cA, n, .inl f))] [(cA, .byte)] sz)) (va_Ql (fun (r : Int64) => fun (_ : Unit) => r = (cv (tb f k) en pl so).1) (fun _ => EnW (dC, dI) (va_A [(aQ, .inr (4, [.ref aT, .ref aK, .ref aV, .int pl, .int en, .int so, .int sa, .long ti])), (aT, .inr (5, [.ref aR, .int (nI k), .int ch])), (aR, .inl (cA, n, .inl f))] sz) [(aQ, .inr (4, [.ref aT, .ref aK, .ref aV, .int ((cv (tb f k) en pl so).2.1), .int en, .int ((cv (tb f k) en pl so).2.2), .int sa, .long ti])), (aT, .inr (5, [.ref aR, .int (nI k), .int ch])), (aR, .inl (cA, n, .inl f))] [(cA, .byte)]) (va_A [(aQ, .inr (4, [.ref aT, .ref aK, .ref aV, .int pl, .int en, .int so, .int sa, .long ti])), (aT, .inr (5, [.ref aR, .int (nI k), .int ch])), (aR, .inl (cA, n, .inl f))] sz)) 0 0 (va_A [(aQ, .inr (4, [.ref aT, .ref aK, .ref aV, .int pl, .int en, .int so, .int sa, .long ti])), (aT, .inr (5, [.ref aR, .int (nI k), .int ch])), (aR, .inl (cA, n, .inl f))] sz) := by
  refine Met.ofW (cc := cd_R_readVarint) (maxL := 5) (ret := (some .long)) (by decide) rfl ?_
  intro p e s m args below meth c s₁ B hml hv
  obtain ⟨rfl, hsz, hP, hK, hD0, hG⟩ := hv
  have hx := B.exec
  have hb := B.bytes
  have hr := B.returns
  have hts := fun (w : Cond) (h : w ∈ bigT) => atoms_spec (ws := (wB my_R_readVarint cd_R_readVarint 5 (some .long))) B.pre w (List.mem_cons_of_mem _ h)
  have hown : s.vm.findClass rn_R = some m.cls := findClass_of_methodNamed B.named
  have hlocks := B.notSynchronized
  subst hsz
  have hD := hD0.self (sz := s.heap.size)
  generalize hAe : va_A [(aQ, .inr (4, [.ref aT, .ref aK, .ref aV, .int pl, .int en, .int so, .int sa, .long ti])), (aT, .inr (5, [.ref aR, .int (nI k), .int ch])), (aR, .inl (cA, n, .inl f))] s.heap.size = A at hD hG ⊢
  have hA : ∀ q : Nat, s.heap.size ≤ q → A q := fun q h => by rw [← hAe]; exact Or.inr h
  have hS : va_S A s.heap s.heap [] := va_S.rf
  have hP : va_P (dC, dI) vwCl [(aQ, .inr (4, [.ref aT, .ref aK, .ref aV, .int pl, .int en, .int so, .int sa, .long ti])), (aT, .inr (5, [.ref aR, .int (nI k), .int ch])), (aR, .inl (cA, n, .inl f))] s.heap := hP
  have hl := lv_entry ([.ref aQ]) (n := 5) (Nat.le_of_ble_eq_true rfl)
  rw [lg_entry_eq]
  generalize (lg_sl ([.ref aQ]) ++ List.replicate (5 - (lg_sl ([.ref aQ])).length) Slot.unset).toArray = ls at hl ⊢
  have hl : lv_has ls 5 [(0, .ref aQ)] := hl
  refine lv_lconst (v := 0) hx hb dc_R_readVarint_0 rfl ?_
  refine lv_lstore_n (lv' := [(1, .long 0), (0, .ref aQ)]) hx hb dc_R_readVarint_1 rfl hl (by decide) rfl (fun ls hl => ?_)
  refine lv_iconst (v := 0) hx hb dc_R_readVarint_2 (by decide) ?_
  refine lv_istore_n (lv' := [(3, .int 0), (1, .long 0), (0, .ref aQ)]) hx hb dc_R_readVarint_3 rfl hl (by decide) rfl (fun ls hl => ?_)
  have e_1 : 0 = (nI (10 - 10)) := by rfl
  have hl := wL_eq (lv' := [(3, .int (nI (10 - 10))), (1, .long 0), (0, .ref aQ)]) hl (cg1 (fun y0 => ([(3, .int y0), (1, .long 0), (0, .ref aQ)] : List (Nat × Value))) e_1)
  refine w_loop (σ := Nat × Int64 × Int32 × Int32) (fun x H locs ls => x.1 ≤ 10 ∧ rvC (tb f k) en x.1 (10 - x.1) x.2.1 x.2.2.1 x.2.2.2 = cv (tb f k) en pl so ∧ va_P (dC, dI) vwCl [(aQ, .inr (4, [.ref aT, .ref aK, .ref aV, .int x.2.2.1, .int en, .int x.2.2.2, .int sa, .long ti])), (aT, .inr (5, [.ref aR, .int (nI k), .int ch])), (aR, .inl (cA, n, .inl f))] H ∧ va_D A [(aQ, .inr (4, [.ref aT, .ref aK, .ref aV, .int x.2.2.1, .int en, .int x.2.2.2, .int sa, .long ti])), (aT, .inr (5, [.ref aR, .int (nI k), .int ch])), (aR, .inl (cA, n, .inl f))] ∧ va_S A s.heap H locs ∧ lv_has ls 5 [(3, .int (nI (10 - x.1))), (1, .long x.2.1), (0, .ref aQ)]) (fun x ls => F0 m 4 ls []) (fun _ => 0) (fun _ => 0) (fun x => x.1) ?_ (10, 0, pl, so) _ _ _ ⟨by show 10 ≤ 10; omega, (show rvC (tb f k) en 10 (10 - 10) 0 pl so = cv (tb f k) en pl so from rfl), hP.sub [0, 1, 2] rfl, hD.sub [0, 1, 2] (by decide) rfl, hS, lv_sub hl [0, 1, 2] rfl⟩
  rintro ⟨r, z, pp, ss⟩ H locs ls ⟨hr9, hv, hP, hD, hS, hl⟩ ih4
  have hP : va_P (dC, dI) vwCl [(aQ, .inr (4, [.ref aT, .ref aK, .ref aV, .int pp, .int en, .int ss, .int sa, .long ti])), (aT, .inr (5, [.ref aR, .int (nI k), .int ch])), (aR, .inl (cA, n, .inl f))] H := hP
  have hD : va_D A [(aQ, .inr (4, [.ref aT, .ref aK, .ref aV, .int pp, .int en, .int ss, .int sa, .long ti])), (aT, .inr (5, [.ref aR, .int (nI k), .int ch])), (aR, .inl (cA, n, .inl f))] := hD
  have hl : lv_has ls 5 [(3, .int (nI (10 - r))), (1, .long z), (0, .ref aQ)] := hl
  show W _ _ _ _ _ _ _ _ _ _ _ _ _ _ _ (F0 m 4 ls [])
  have hr9 : r ≤ 10 := hr9
  have hv : rvC (tb f k) en r (10 - r) z pp ss = cv (tb f k) en pl so := hv
  refine lv_iload_n hx hb dc_R_readVarint_4 rfl (lv_at hl 0 rfl) ?_
  refine lv_bipush (v := 10) hx hb dc_R_readVarint_5 (by decide) ?_
  refine lv_icmp_ge (tgt := 79) hx hb dc_R_readVarint_7 (by decide) (fun c_2 => ?_) (fun c_2 => ?_)
  · have hR : cv (tb f k) en pl so = (0, pp, 0) := hv.symm.trans (rvC_end (rn10_0 c_2 hr9))
    refine lv_aload_n hx hb dc_R_readVarint_79 rfl (lv_at hl 2 rfl) ?_
    refine lv_iconst (v := 0) hx hb dc_R_readVarint_80 (by decide) ?_
    refine va_put (D := (dC, dI)) (ci := 4) (v := .int 0) (ty := .boolean) (C := rn_R) (T := ft_R) (N := 8) hx hb hts fw_R fy_R fo_R fn_R hown hK hP hD hS 0 rfl rfl 5 (by decide) (hts _ bw1_129) (fun _ h9 => h9) rfl (by decide +kernel) rfl rfl (Nat.le_of_ble_eq_true rfl) dc_R_readVarint_81 (fun H locs hP hD hS => ?_)
    have hP : va_P (dC, dI) vwCl [(aQ, .inr (4, [.ref aT, .ref aK, .ref aV, .int pp, .int en, .int 0, .int sa, .long ti])), (aT, .inr (5, [.ref aR, .int (nI k), .int ch])), (aR, .inl (cA, n, .inl f))] H := hP
    have hD : va_D A [(aQ, .inr (4, [.ref aT, .ref aK, .ref aV, .int pp, .int en, .int 0, .int sa, .long ti])), (aT, .inr (5, [.ref aR, .int (nI k), .int ch])), (aR, .inl (cA, n, .inl f))] := hD
    refine lv_lconst (v := 0) hx hb dc_R_readVarint_84 rfl ?_
    have e_3 : pp = ((cv (tb f k) en pl so).2.1) := by rw [hR]
    have e_4 : 0 = ((cv (tb f k) en pl so).2.2) := by rw [hR]
    have hP := wP_eq (ws' := [(aQ, .inr (4, [.ref aT, .ref aK, .ref aV, .int ((cv (tb f k) en pl so).2.1), .int en, .int ((cv (tb f k) en pl so).2.2), .int sa, .long ti])), (aT, .inr (5, [.ref aR, .int (nI k), .int ch])), (aR, .inl (cA, n, .inl f))]) hP (cg2 (fun y0 y1 => ([(aQ, .inr (4, [.ref aT, .ref aK, .ref aV, .int y0, .int en, .int y1, .int sa, .long ti])), (aT, .inr (5, [.ref aR, .int (nI k), .int ch])), (aR, .inl (cA, n, .inl f))] : va_W)) e_3 e_4)
    have hD := wD_eq (ws' := [(aQ, .inr (4, [.ref aT, .ref aK, .ref aV, .int ((cv (tb f k) en pl so).2.1), .int en, .int ((cv (tb f k) en pl so).2.2), .int sa, .long ti])), (aT, .inr (5, [.ref aR, .int (nI k), .int ch])), (aR, .inl (cA, n, .inl f))]) hD (cg2 (fun y0 y1 => ([(aQ, .inr (4, [.ref aT, .ref aK, .ref aV, .int y0, .int en, .int y1, .int sa, .long ti])), (aT, .inr (5, [.ref aR, .int (nI k), .int ch])), (aR, .inl (cA, n, .inl f))] : va_W)) e_3 e_4)
    have hP9 := hP.sub (ws' := [(aQ, .inr (4, [.ref aT, .ref aK, .ref aV, .int ((cv (tb f k) en pl so).2.1), .int en, .int ((cv (tb f k) en pl so).2.2), .int sa, .long ti])), (aT, .inr (5, [.ref aR, .int (nI k), .int ch])), (aR, .inl (cA, n, .inl f))]) [0, 1, 2] rfl
    have hD9 := hD.sub (ws' := [(aQ, .inr (4, [.ref aT, .ref aK, .ref aV, .int ((cv (tb f k) en pl so).2.1), .int en, .int ((cv (tb f k) en pl so).2.2), .int sa, .long ti])), (aT, .inr (5, [.ref aR, .int (nI k), .int ch])), (aR, .inl (cA, n, .inl f))]) [0, 1, 2] (by decide) rfl
    have hK9 := hK.sub (tys' := [(cA, .byte)]) [0] rfl
    exact W.lret (v := 0) hx hb hr (fun t ht hW => ⟨⟨0, (), rfl, by rw [hR], by rw [ht]; exact hP9, va_K.moved hW.alike hK9, hD9⟩, hS.F ht⟩) hS.2.2 dc_R_readVarint_85
  · have hrp : 0 < r := rn_pos c_2
    refine lv_aload_n hx hb dc_R_readVarint_10 rfl (lv_at hl 2 rfl) ?_
    refine kc_i (wc := [(aQ, .inr (4, [.ref aT, .ref aK, .ref aV, .int pp, .int en, .int ss, .int sa, .long ti])), (aT, .inr (5, [.ref aR, .int (nI k), .int ch])), (aR, .inl (cA, n, .inl f))]) (wr := []) hP hD hS hA [0, 1, 2] [] rfl rfl (by decide) (by decide) (va_runV (As := []) (rest := []) ⟨hx, hb, hml, hown, hts⟩ (c_R_readByte l dC dI _ aQ aT aK aV pp en ss sa ti aR cA n f k ch (by omega) (by omega)) (kw_V 0 hts bw3_103 bw3_104 bw3_105 bw1_7 bw3_106 rfl rfl (by decide +kernel) ⟨Nat.le_of_ble_eq_true rfl, Nat.le_of_ble_eq_true rfl⟩) (kp_V (wc := [(aQ, .inr (4, [.ref aT, .ref aK, .ref aV, .int pp, .int en, .int ss, .int sa, .long ti])), (aT, .inr (5, [.ref aR, .int (nI k), .int ch])), (aR, .inl (cA, n, .inl f))]) (tc := [(cA, .byte)]) (As := []) hG hS hA hP hD hK [0, 1, 2] rfl (by decide) rfl [0] rfl (ci := 4) (q0 := 0) rfl rfl) rfl rfl hl.1 rfl (lv_room (Nat.le_of_ble_eq_true rfl)) dc_R_readVarint_11 ⟨Nat.zero_le _, Nat.zero_le _⟩) (fun r_5 _ H locs hw hP hD hK1 hS => ?_)
    subst hw
    have hP : va_P (dC, dI) vwCl [(aQ, .inr (4, [.ref aT, .ref aK, .ref aV, .int ((rbC (tb f k) en pp ss).2.1), .int en, .int ((rbC (tb f k) en pp ss).2.2), .int sa, .long ti])), (aT, .inr (5, [.ref aR, .int (nI k), .int ch])), (aR, .inl (cA, n, .inl f))] H := hP
    have hD : va_D A [(aQ, .inr (4, [.ref aT, .ref aK, .ref aV, .int ((rbC (tb f k) en pp ss).2.1), .int en, .int ((rbC (tb f k) en pp ss).2.2), .int sa, .long ti])), (aT, .inr (5, [.ref aR, .int (nI k), .int ch])), (aR, .inl (cA, n, .inl f))] := hD
    refine lv_istore (lv' := [(4, .int ((rbC (tb f k) en pp ss).1)), (3, .int (nI (10 - r))), (1, .long z), (0, .ref aQ)]) hx hb dc_R_readVarint_14 hl (by decide) rfl (fun ls hl => ?_)
    refine lv_lload_n hx hb dc_R_readVarint_16 rfl (lv_at hl 2 rfl) ?_
    refine lv_iload hx hb dc_R_readVarint_17 (lv_at hl 0 rfl) ?_
    refine lv_bipush (v := 127) hx hb dc_R_readVarint_19 (by decide) ?_
    refine lv_iand hx hb dc_R_readVarint_21 ?_
    refine lv_i2l (v := (((rbC (tb f k) en pp ss).1) &&& 127).toInt64) hx hb dc_R_readVarint_22 rfl ?_
    refine lv_bipush (v := 7) hx hb dc_R_readVarint_23 (by decide) ?_
    refine lv_iload_n hx hb dc_R_readVarint_25 rfl (lv_at hl 1 rfl) ?_
    refine lv_imul hx hb dc_R_readVarint_26 ?_
    refine lv_lshl (v := ((((rbC (tb f k) en pp ss).1) &&& 127).toInt64) <<< ((7 * (nI (10 - r)) : Int32).toInt64 &&& 63)) hx hb dc_R_readVarint_27 rfl ?_
    refine lv_lor hx hb dc_R_readVarint_28 ?_
    refine lv_lstore_n (lv' := [(1, .long (z ||| (((((rbC (tb f k) en pp ss).1) &&& 127).toInt64) <<< ((7 * (nI (10 - r)) : Int32).toInt64 &&& 63)))), (4, .int ((rbC (tb f k) en pp ss).1)), (3, .int (nI (10 - r))), (0, .ref aQ)]) hx hb dc_R_readVarint_29 rfl hl (by decide) rfl (fun ls hl => ?_)
    refine lv_iload hx hb dc_R_readVarint_30 (lv_at hl 1 rfl) ?_
    refine lv_sipush (v := 128) hx hb dc_R_readVarint_32 (by decide) ?_
    refine lv_icmp_ge (tgt := 73) hx hb dc_R_readVarint_35 (by decide) (fun c_6 => ?_) (fun c_6 => ?_)
    · have hgo := c_6
      refine lv_iinc (v := ((nI (10 - r)) + 1)) (lv' := [(3, .int ((nI (10 - r)) + 1)), (1, .long (z ||| (((((rbC (tb f k) en pp ss).1) &&& 127).toInt64) <<< ((7 * (nI (10 - r)) : Int32).toInt64 &&& 63)))), (4, .int ((rbC (tb f k) en pp ss).1)), (0, .ref aQ)]) hx hb dc_R_readVarint_73 hl (k := 2) rfl rfl (by decide) rfl (fun ls hl => ?_)
      refine lv_goto (tgt := 4) hx hb dc_R_readVarint_76 (by decide) ?_
      obtain ⟨w_7, hw_7⟩ : ∃ y, y = (z ||| (((((rbC (tb f k) en pp ss).1) &&& 127).toInt64) <<< ((7 * (nI (10 - r)) : Int32).toInt64 &&& 63))) := ⟨_, rfl⟩
      have e_8 : (z ||| (((((rbC (tb f k) en pp ss).1) &&& 127).toInt64) <<< ((7 * (nI (10 - r)) : Int32).toInt64 &&& 63))) = w_7 := by exact hw_7.symm
      have hl := wL_eq (lv' := [(3, .int ((nI (10 - r)) + 1)), (1, .long w_7), (4, .int ((rbC (tb f k) en pp ss).1)), (0, .ref aQ)]) hl (cg1 (fun y0 => ([(3, .int ((nI (10 - r)) + 1)), (1, .long y0), (4, .int ((rbC (tb f k) en pp ss).1)), (0, .ref aQ)] : List (Nat × Value))) e_8)
      obtain ⟨w_9, hw_9⟩ : ∃ y, y = ((rbC (tb f k) en pp ss).2.1) := ⟨_, rfl⟩
      have e_10 : ((rbC (tb f k) en pp ss).2.1) = w_9 := by exact hw_9.symm
      have hP := wP_eq (ws' := [(aQ, .inr (4, [.ref aT, .ref aK, .ref aV, .int w_9, .int en, .int ((rbC (tb f k) en pp ss).2.2), .int sa, .long ti])), (aT, .inr (5, [.ref aR, .int (nI k), .int ch])), (aR, .inl (cA, n, .inl f))]) hP (cg1 (fun y0 => ([(aQ, .inr (4, [.ref aT, .ref aK, .ref aV, .int y0, .int en, .int ((rbC (tb f k) en pp ss).2.2), .int sa, .long ti])), (aT, .inr (5, [.ref aR, .int (nI k), .int ch])), (aR, .inl (cA, n, .inl f))] : va_W)) e_10)
      have hD := wD_eq (ws' := [(aQ, .inr (4, [.ref aT, .ref aK, .ref aV, .int w_9, .int en, .int ((rbC (tb f k) en pp ss).2.2), .int sa, .long ti])), (aT, .inr (5, [.ref aR, .int (nI k), .int ch])), (aR, .inl (cA, n, .inl f))]) hD (cg1 (fun y0 => ([(aQ, .inr (4, [.ref aT, .ref aK, .ref aV, .int y0, .int en, .int ((rbC (tb f k) en pp ss).2.2), .int sa, .long ti])), (aT, .inr (5, [.ref aR, .int (nI k), .int ch])), (aR, .inl (cA, n, .inl f))] : va_W)) e_10)
      obtain ⟨w_11, hw_11⟩ : ∃ y, y = ((rbC (tb f k) en pp ss).2.2) := ⟨_, rfl⟩
      have e_12 : ((rbC (tb f k) en pp ss).2.2) = w_11 := by exact hw_11.symm
      have hP := wP_eq (ws' := [(aQ, .inr (4, [.ref aT, .ref aK, .ref aV, .int w_9, .int en, .int w_11, .int sa, .long ti])), (aT, .inr (5, [.ref aR, .int (nI k), .int ch])), (aR, .inl (cA, n, .inl f))]) hP (cg1 (fun y0 => ([(aQ, .inr (4, [.ref aT, .ref aK, .ref aV, .int w_9, .int en, .int y0, .int sa, .long ti])), (aT, .inr (5, [.ref aR, .int (nI k), .int ch])), (aR, .inl (cA, n, .inl f))] : va_W)) e_12)
      have hD := wD_eq (ws' := [(aQ, .inr (4, [.ref aT, .ref aK, .ref aV, .int w_9, .int en, .int w_11, .int sa, .long ti])), (aT, .inr (5, [.ref aR, .int (nI k), .int ch])), (aR, .inl (cA, n, .inl f))]) hD (cg1 (fun y0 => ([(aQ, .inr (4, [.ref aT, .ref aK, .ref aV, .int w_9, .int en, .int y0, .int sa, .long ti])), (aT, .inr (5, [.ref aR, .int (nI k), .int ch])), (aR, .inl (cA, n, .inl f))] : va_W)) e_12)
      have e_13 : ((nI (10 - r)) + 1) = (nI (10 - (r - 1))) := by first | exact rn10_step hrp hr9 | rfl
      have hl := wL_eq (lv' := [(3, .int (nI (10 - (r - 1)))), (1, .long w_7), (4, .int ((rbC (tb f k) en pp ss).1)), (0, .ref aQ)]) hl (cg1 (fun y0 => ([(3, .int y0), (1, .long w_7), (4, .int ((rbC (tb f k) en pp ss).1)), (0, .ref aQ)] : List (Nat × Value))) e_13)
      exact ih4 (r - 1, w_7, w_9, w_11) _ _ _ ⟨by show (r - 1) ≤ 10; omega, by show rvC (tb f k) en (r - 1) (10 - (r - 1)) w_7 w_9 w_11 = cv (tb f k) en pl so; (try simp only [hw_7, hw_9, hw_11]); rw [← hv, rvC_go hrp hr9 hgo], hP.sub [0, 1, 2] rfl, hD.sub [0, 1, 2] (by decide) rfl, hS, lv_sub hl [0, 1, 3] rfl⟩ (by show (r - 1) < r; omega)
    · have hR := hv.symm.trans (rvC_stop hrp c_6)
      refine lv_aload_n hx hb dc_R_readVarint_38 rfl (lv_at hl 3 rfl) ?_
      refine lv_iload_n hx hb dc_R_readVarint_39 rfl (lv_at hl 2 rfl) ?_
      refine w_join (σ := Int32) (fun v65_0 H locs ls => v65_0 = (if (nI (10 - r)) = 0 then if (nI (10 - r)) < 9 then 1 else if ((rbC (tb f k) en pp ss).1) = 1 then 1 else 0 else if ((rbC (tb f k) en pp ss).1) = 0 then 0 else if (nI (10 - r)) < 9 then 1 else if ((rbC (tb f k) en pp ss).1) = 1 then 1 else 0) ∧ va_P (dC, dI) vwCl [(aQ, .inr (4, [.ref aT, .ref aK, .ref aV, .int ((rbC (tb f k) en pp ss).2.1), .int en, .int ((rbC (tb f k) en pp ss).2.2), .int sa, .long ti])), (aT, .inr (5, [.ref aR, .int (nI k), .int ch])), (aR, .inl (cA, n, .inl f))] H ∧ va_D A [(aQ, .inr (4, [.ref aT, .ref aK, .ref aV, .int ((rbC (tb f k) en pp ss).2.1), .int en, .int ((rbC (tb f k) en pp ss).2.2), .int sa, .long ti])), (aT, .inr (5, [.ref aR, .int (nI k), .int ch])), (aR, .inl (cA, n, .inl f))] ∧ va_S A s.heap H locs ∧ lv_has ls 5 [(1, .long (z ||| (((((rbC (tb f k) en pp ss).1) &&& 127).toInt64) <<< ((7 * (nI (10 - r)) : Int32).toInt64 &&& 63)))), (4, .int ((rbC (tb f k) en pp ss).1)), (3, .int (nI (10 - r))), (0, .ref aQ)]) (fun v65_0 ls => F0 m 65 ls [.int v65_0, .ref aQ]) ?_ (fun hJ65 => ?_)
      · rintro v65_0 H locs ls ⟨ev65_0, hP, hD, hS, hl⟩
        have hP : va_P (dC, dI) vwCl [(aQ, .inr (4, [.ref aT, .ref aK, .ref aV, .int ((rbC (tb f k) en pp ss).2.1), .int en, .int ((rbC (tb f k) en pp ss).2.2), .int sa, .long ti])), (aT, .inr (5, [.ref aR, .int (nI k), .int ch])), (aR, .inl (cA, n, .inl f))] H := hP
        have hD : va_D A [(aQ, .inr (4, [.ref aT, .ref aK, .ref aV, .int ((rbC (tb f k) en pp ss).2.1), .int en, .int ((rbC (tb f k) en pp ss).2.2), .int sa, .long ti])), (aT, .inr (5, [.ref aR, .int (nI k), .int ch])), (aR, .inl (cA, n, .inl f))] := hD
        have hl : lv_has ls 5 [(1, .long (z ||| (((((rbC (tb f k) en pp ss).1) &&& 127).toInt64) <<< ((7 * (nI (10 - r)) : Int32).toInt64 &&& 63)))), (4, .int ((rbC (tb f k) en pp ss).1)), (3, .int (nI (10 - r))), (0, .ref aQ)] := hl
        show W _ _ _ _ _ _ _ _ _ _ _ _ _ _ _ (F0 m 65 ls [.int v65_0, .ref aQ])
        have h01v65_0 : v65_0 = 0 ∨ v65_0 = 1 := by rw [ev65_0]; exact i01 (i01 (Or.inr rfl) (i01 (Or.inr rfl) (Or.inl rfl))) (i01 (Or.inl rfl) (i01 (Or.inr rfl) (i01 (Or.inr rfl) (Or.inl rfl))))
        refine kc_v (wc := [(aQ, .inr (4, [.ref aT, .ref aK, .ref aV, .int ((rbC (tb f k) en pp ss).2.1), .int en, .int ((rbC (tb f k) en pp ss).2.2), .int sa, .long ti]))]) (wr := [(aT, .inr (5, [.ref aR, .int (nI k), .int ch])), (aR, .inl (cA, n, .inl f))]) hP hD hS hA [0] [1, 2] rfl rfl (by decide) (by decide) (va_runV (As := [.int v65_0]) (rest := []) ⟨hx, hb, hml, hown, hts⟩ (c_R_expect l dC dI _ aQ aT aK aV ((rbC (tb f k) en pp ss).2.1) en ((rbC (tb f k) en pp ss).2.2) sa ti v65_0 ) (kw_V 1 hts bw3_108 bw3_109 bw3_110 bw1_7 bw3_111 rfl rfl (by decide +kernel) ⟨Nat.le_of_ble_eq_true rfl, Nat.le_of_ble_eq_true rfl⟩) (kp_V (wc := [(aQ, .inr (4, [.ref aT, .ref aK, .ref aV, .int ((rbC (tb f k) en pp ss).2.1), .int en, .int ((rbC (tb f k) en pp ss).2.2), .int sa, .long ti]))]) (tc := []) (As := [.int v65_0]) hG hS hA hP hD hK [0] rfl (by decide) rfl [] rfl (ci := 4) (q0 := 0) rfl rfl) rfl rfl hl.1 rfl (lv_room (Nat.le_of_ble_eq_true rfl)) dc_R_readVarint_65 ⟨Nat.zero_le _, Nat.zero_le _⟩) (fun _ H locs hw hP hD hK1 hS => ?_)
        have hP : va_P (dC, dI) vwCl [(aT, .inr (5, [.ref aR, .int (nI k), .int ch])), (aR, .inl (cA, n, .inl f)), (aQ, .inr (4, [.ref aT, .ref aK, .ref aV, .int ((rbC (tb f k) en pp ss).2.1), .int en, .int (exC ((rbC (tb f k) en pp ss).2.2) v65_0), .int sa, .long ti]))] H := hP
        have hD : va_D A [(aT, .inr (5, [.ref aR, .int (nI k), .int ch])), (aR, .inl (cA, n, .inl f)), (aQ, .inr (4, [.ref aT, .ref aK, .ref aV, .int ((rbC (tb f k) en pp ss).2.1), .int en, .int (exC ((rbC (tb f k) en pp ss).2.2) v65_0), .int sa, .long ti]))] := hD
        refine lv_lload_n hx hb dc_R_readVarint_68 rfl (lv_at hl 0 rfl) ?_
        refine kc_l (wc := []) (wr := [(aT, .inr (5, [.ref aR, .int (nI k), .int ch])), (aR, .inl (cA, n, .inl f)), (aQ, .inr (4, [.ref aT, .ref aK, .ref aV, .int ((rbC (tb f k) en pp ss).2.1), .int en, .int (exC ((rbC (tb f k) en pp ss).2.2) v65_0), .int sa, .long ti]))]) hP hD hS hA [] [0, 1, 2] rfl rfl (by decide) (by decide) (va_runSN (As := [.long (z ||| (((((rbC (tb f k) en pp ss).1) &&& 127).toInt64) <<< ((7 * (nI (10 - r)) : Int32).toInt64 &&& 63)))]) (rest := []) ⟨hx, hb, hml, hown, hts⟩ (c_B_unfolded l dC dI _ (z ||| (((((rbC (tb f k) en pp ss).1) &&& 127).toInt64) <<< ((7 * (nI (10 - r)) : Int32).toInt64 &&& 63))) ) (kw_N (host := "BatchBytes") 1 hts hG.1 (by decide +kernel) bw3_113 bw1_1 bw3_114 rfl rfl (by decide +kernel) ⟨Nat.le_of_ble_eq_true rfl, Nat.le_of_ble_eq_true rfl⟩) (kp_S (wc := []) (tc := []) (av := [.long (z ||| (((((rbC (tb f k) en pp ss).1) &&& 127).toInt64) <<< ((7 * (nI (10 - r)) : Int32).toInt64 &&& 63)))]) hG hS hA hP hD hK [] rfl (by decide) rfl [] rfl) rfl rfl hl.1 rfl (lv_room (Nat.le_of_ble_eq_true rfl)) dc_R_readVarint_69 ⟨Nat.zero_le _, Nat.zero_le _⟩) (fun r_15 _ H locs hw hP hD hK1 hS => ?_)
        subst hw
        have hP : va_P (dC, dI) vwCl [(aT, .inr (5, [.ref aR, .int (nI k), .int ch])), (aR, .inl (cA, n, .inl f)), (aQ, .inr (4, [.ref aT, .ref aK, .ref aV, .int ((rbC (tb f k) en pp ss).2.1), .int en, .int (exC ((rbC (tb f k) en pp ss).2.2) v65_0), .int sa, .long ti]))] H := hP
        have hD : va_D A [(aT, .inr (5, [.ref aR, .int (nI k), .int ch])), (aR, .inl (cA, n, .inl f)), (aQ, .inr (4, [.ref aT, .ref aK, .ref aV, .int ((rbC (tb f k) en pp ss).2.1), .int en, .int (exC ((rbC (tb f k) en pp ss).2.2) v65_0), .int sa, .long ti]))] := hD
        have e_16 : ((rbC (tb f k) en pp ss).2.1) = ((cv (tb f k) en pl so).2.1) := by first | (rw [hR]; done) | (rw [hR, ev65_0]; rfl)
        have e_17 : (exC ((rbC (tb f k) en pp ss).2.2) v65_0) = ((cv (tb f k) en pl so).2.2) := by first | (rw [hR]; done) | (rw [hR, ev65_0]; rfl)
        have hP := wP_eq (ws' := [(aT, .inr (5, [.ref aR, .int (nI k), .int ch])), (aR, .inl (cA, n, .inl f)), (aQ, .inr (4, [.ref aT, .ref aK, .ref aV, .int ((cv (tb f k) en pl so).2.1), .int en, .int ((cv (tb f k) en pl so).2.2), .int sa, .long ti]))]) hP (cg2 (fun y0 y1 => ([(aT, .inr (5, [.ref aR, .int (nI k), .int ch])), (aR, .inl (cA, n, .inl f)), (aQ, .inr (4, [.ref aT, .ref aK, .ref aV, .int y0, .int en, .int y1, .int sa, .long ti]))] : va_W)) e_16 e_17)
        have hD := wD_eq (ws' := [(aT, .inr (5, [.ref aR, .int (nI k), .int ch])), (aR, .inl (cA, n, .inl f)), (aQ, .inr (4, [.ref aT, .ref aK, .ref aV, .int ((cv (tb f k) en pl so).2.1), .int en, .int ((cv (tb f k) en pl so).2.2), .int sa, .long ti]))]) hD (cg2 (fun y0 y1 => ([(aT, .inr (5, [.ref aR, .int (nI k), .int ch])), (aR, .inl (cA, n, .inl f)), (aQ, .inr (4, [.ref aT, .ref aK, .ref aV, .int y0, .int en, .int y1, .int sa, .long ti]))] : va_W)) e_16 e_17)
        have hP9 := hP.sub (ws' := [(aQ, .inr (4, [.ref aT, .ref aK, .ref aV, .int ((cv (tb f k) en pl so).2.1), .int en, .int ((cv (tb f k) en pl so).2.2), .int sa, .long ti])), (aT, .inr (5, [.ref aR, .int (nI k), .int ch])), (aR, .inl (cA, n, .inl f))]) [2, 0, 1] rfl
        have hD9 := hD.sub (ws' := [(aQ, .inr (4, [.ref aT, .ref aK, .ref aV, .int ((cv (tb f k) en pl so).2.1), .int en, .int ((cv (tb f k) en pl so).2.2), .int sa, .long ti])), (aT, .inr (5, [.ref aR, .int (nI k), .int ch])), (aR, .inl (cA, n, .inl f))]) [2, 0, 1] (by decide) rfl
        have hK9 := hK.sub (tys' := [(cA, .byte)]) [0] rfl
        exact W.lret (v := (cUF (z ||| (((((rbC (tb f k) en pp ss).1) &&& 127).toInt64) <<< ((7 * (nI (10 - r)) : Int32).toInt64 &&& 63))))) hx hb hr (fun t ht hW => ⟨⟨(cUF (z ||| (((((rbC (tb f k) en pp ss).1) &&& 127).toInt64) <<< ((7 * (nI (10 - r)) : Int32).toInt64 &&& 63)))), (), rfl, by rw [hR], by rw [ht]; exact hP9, va_K.moved hW.alike hK9, hD9⟩, hS.F ht⟩) hS.2.2 dc_R_readVarint_72
      · refine lv_if_eq (tgt := 48) hx hb dc_R_readVarint_40 (by decide) (fun c_18 => ?_) (fun c_18 => ?_)
        · refine lv_iload_n hx hb dc_R_readVarint_48 rfl (lv_at hl 2 rfl) ?_
          refine lv_bipush (v := 9) hx hb dc_R_readVarint_49 (by decide) ?_
          refine lv_icmp_lt (tgt := 60) hx hb dc_R_readVarint_51 (by decide) (fun c_19 => ?_) (fun c_19 => ?_)
          · refine lv_iconst (v := 1) hx hb dc_R_readVarint_60 (by decide) ?_
            refine lv_goto (tgt := 65) hx hb dc_R_readVarint_61 (by decide) ?_
            exact hJ65 1 _ _ _ ⟨by rw [if_pos c_18, if_pos c_19], hP.sub [0, 1, 2] rfl, hD.sub [0, 1, 2] (by decide) rfl, hS, lv_sub hl [0, 1, 2, 3] rfl⟩
          · refine lv_iload hx hb dc_R_readVarint_54 (lv_at hl 1 rfl) ?_
            refine lv_iconst (v := 1) hx hb dc_R_readVarint_56 (by decide) ?_
            refine lv_icmp_ne (tgt := 64) hx hb dc_R_readVarint_57 (by decide) (fun c_20 => ?_) (fun c_20 => ?_)
            · refine lv_iconst (v := 0) hx hb dc_R_readVarint_64 (by decide) ?_
              exact hJ65 0 _ _ _ ⟨by rw [if_pos c_18, if_neg c_19, if_neg c_20], hP.sub [0, 1, 2] rfl, hD.sub [0, 1, 2] (by decide) rfl, hS, lv_sub hl [0, 1, 2, 3] rfl⟩
            · refine lv_iconst (v := 1) hx hb dc_R_readVarint_60 (by decide) ?_
              refine lv_goto (tgt := 65) hx hb dc_R_readVarint_61 (by decide) ?_
              exact hJ65 1 _ _ _ ⟨by rw [if_pos c_18, if_neg c_19, if_pos c_20], hP.sub [0, 1, 2] rfl, hD.sub [0, 1, 2] (by decide) rfl, hS, lv_sub hl [0, 1, 2, 3] rfl⟩
        · refine lv_iload hx hb dc_R_readVarint_43 (lv_at hl 1 rfl) ?_
          refine lv_if_eq (tgt := 64) hx hb dc_R_readVarint_45 (by decide) (fun c_21 => ?_) (fun c_21 => ?_)
          · refine lv_iconst (v := 0) hx hb dc_R_readVarint_64 (by decide) ?_
            exact hJ65 0 _ _ _ ⟨by rw [if_neg c_18, if_pos c_21], hP.sub [0, 1, 2] rfl, hD.sub [0, 1, 2] (by decide) rfl, hS, lv_sub hl [0, 1, 2, 3] rfl⟩
          · refine lv_iload_n hx hb dc_R_readVarint_48 rfl (lv_at hl 2 rfl) ?_
            refine lv_bipush (v := 9) hx hb dc_R_readVarint_49 (by decide) ?_
            refine lv_icmp_lt (tgt := 60) hx hb dc_R_readVarint_51 (by decide) (fun c_22 => ?_) (fun c_22 => ?_)
            · refine lv_iconst (v := 1) hx hb dc_R_readVarint_60 (by decide) ?_
              refine lv_goto (tgt := 65) hx hb dc_R_readVarint_61 (by decide) ?_
              exact hJ65 1 _ _ _ ⟨by rw [if_neg c_18, if_neg c_21, if_pos c_22], hP.sub [0, 1, 2] rfl, hD.sub [0, 1, 2] (by decide) rfl, hS, lv_sub hl [0, 1, 2, 3] rfl⟩
            · refine lv_iload hx hb dc_R_readVarint_54 (lv_at hl 1 rfl) ?_
              refine lv_iconst (v := 1) hx hb dc_R_readVarint_56 (by decide) ?_
              refine lv_icmp_ne (tgt := 64) hx hb dc_R_readVarint_57 (by decide) (fun c_23 => ?_) (fun c_23 => ?_)
              · refine lv_iconst (v := 0) hx hb dc_R_readVarint_64 (by decide) ?_
                exact hJ65 0 _ _ _ ⟨by rw [if_neg c_18, if_neg c_21, if_neg c_22, if_neg c_23], hP.sub [0, 1, 2] rfl, hD.sub [0, 1, 2] (by decide) rfl, hS, lv_sub hl [0, 1, 2, 3] rfl⟩
              · refine lv_iconst (v := 1) hx hb dc_R_readVarint_60 (by decide) ?_
                refine lv_goto (tgt := 65) hx hb dc_R_readVarint_61 (by decide) ?_
                exact hJ65 1 _ _ _ ⟨by rw [if_neg c_18, if_neg c_21, if_neg c_22, if_pos c_23], hP.sub [0, 1, 2] rfl, hD.sub [0, 1, 2] (by decide) rfl, hS, lv_sub hl [0, 1, 2, 3] rfl⟩
