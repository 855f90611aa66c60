set_option maxHeartbeats 1000000 in
set_option maxRecDepth 100000 in
theorem c_R_readPart (l : Launch) (dC : Nat → ClassId) (dI : Nat → Nat → Nat) (sz : Nat) (aQ : Nat) (aT : Nat) (aK : Nat) (aV : Nat) (pl : Int32) (en : Int32) (so : Int32) (sa : Int32) (ti : Int64) (aR : Nat) (cA : ClassId) (n : Nat) (f : Nat → Int32) (k : Nat) (ch : Int32) (aX : Nat) (xl : Int32) (xp : Int32) (hk : k ≤ n) (hn : n ≤ 16384) : Met l my_R_readPart (wB my_R_readPart cd_R_readPart 4 none) ({ frames := 3, cells := 0, slots := 0, locals := 66 }) (va_Pc [.ref aQ, .ref aX] (PcW (dC, dI) [(aQ, .inr (4, [.ref aT, .ref aK, .ref aV, .int pl, .int en, .int so, .int sa, .long ti])), (aT, .inr (5, [.ref aR, .int (nI k), .int ch])), (aR, .inl (cA, n, .inl f)), (aX, .inr (3, [.int xl, .int xp]))] [(cA, .byte)] sz)) (va_Qv (fun (_ : Unit) => True) (fun _ => EnW (dC, dI) (va_A [(aQ, .inr (4, [.ref aT, .ref aK, .ref aV, .int pl, .int en, .int so, .int sa, .long ti])), (aT, .inr (5, [.ref aR, .int (nI k), .int ch])), (aR, .inl (cA, n, .inl f)), (aX, .inr (3, [.int xl, .int xp]))] sz) [(aQ, .inr (4, [.ref aT, .ref aK, .ref aV, .int (c4p (tb f k) en pl so), .int en, .int (c4s (tb f k) en pl so), .int sa, .long ti])), (aT, .inr (5, [.ref aR, .int (nI k), .int ch])), (aR, .inl (cA, n, .inl f)), (aX, .inr (3, [.int (c4l (tb f k) en pl so), .int ((cv (tb f k) en pl so).2.1)]))] [(cA, .byte)]) (va_A [(aQ, .inr (4, [.ref aT, .ref aK, .ref aV, .int pl, .int en, .int so, .int sa, .long ti])), (aT, .inr (5, [.ref aR, .int (nI k), .int ch])), (aR, .inl (cA, n, .inl f)), (aX, .inr (3, [.int xl, .int xp]))] sz)) 0 0 (va_A [(aQ, .inr (4, [.ref aT, .ref aK, .ref aV, .int pl, .int en, .int so, .int sa, .long ti])), (aT, .inr (5, [.ref aR, .int (nI k), .int ch])), (aR, .inl (cA, n, .inl f)), (aX, .inr (3, [.int xl, .int xp]))] sz) := by
  refine Met.ofW (cc := cd_R_readPart) (maxL := 4) (ret := none) (by decide) rfl ?_
  intro p e s m args below meth c s₁ B hml hv
  obtain ⟨rfl, hsz, hP, hK, hD0, hG⟩ := hv
  have hx := B.exec
  have hb := B.bytes
  have hr := B.returns
  have hts := fun (w : Cond) (h : w ∈ bigT) => atoms_spec (ws := (wB my_R_readPart cd_R_readPart 4 none)) B.pre w (List.mem_cons_of_mem _ h)
  have hown : s.vm.findClass rn_R = some m.cls := findClass_of_methodNamed B.named
  have hlocks := B.notSynchronized
  subst hsz
  have hD := hD0.self (sz := s.heap.size)
  generalize hAe : va_A [(aQ, .inr (4, [.ref aT, .ref aK, .ref aV, .int pl, .int en, .int so, .int sa, .long ti])), (aT, .inr (5, [.ref aR, .int (nI k), .int ch])), (aR, .inl (cA, n, .inl f)), (aX, .inr (3, [.int xl, .int xp]))] s.heap.size = A at hD hG ⊢
  have hA : ∀ q : Nat, s.heap.size ≤ q → A q := fun q h => by rw [← hAe]; exact Or.inr h
  have hS : va_S A s.heap s.heap [] := va_S.rf
  have hP : va_P (dC, dI) vwCl [(aQ, .inr (4, [.ref aT, .ref aK, .ref aV, .int pl, .int en, .int so, .int sa, .long ti])), (aT, .inr (5, [.ref aR, .int (nI k), .int ch])), (aR, .inl (cA, n, .inl f)), (aX, .inr (3, [.int xl, .int xp]))] s.heap := hP
  have hl := lv_entry ([.ref aQ, .ref aX]) (n := 4) (Nat.le_of_ble_eq_true rfl)
  rw [lg_entry_eq]
  generalize (lg_sl ([.ref aQ, .ref aX]) ++ List.replicate (4 - (lg_sl ([.ref aQ, .ref aX])).length) Slot.unset).toArray = ls at hl ⊢
  have hl : lv_has ls 4 [(0, .ref aQ), (1, .ref aX)] := hl
  refine lv_aload_n hx hb dc_R_readPart_0 rfl (lv_at hl 0 rfl) ?_
  refine kc_l (wc := [(aQ, .inr (4, [.ref aT, .ref aK, .ref aV, .int pl, .int en, .int so, .int sa, .long ti])), (aT, .inr (5, [.ref aR, .int (nI k), .int ch])), (aR, .inl (cA, n, .inl f))]) (wr := [(aX, .inr (3, [.int xl, .int xp]))]) hP hD hS hA [0, 1, 2] [3] rfl rfl (by decide) (by decide) (va_runV (As := []) (rest := []) ⟨hx, hb, hml, hown, hts⟩ (c_R_readVarint l dC dI _ aQ aT aK aV pl en so sa ti aR cA n f k ch (by omega) (by omega)) (kw_V 0 hts bw3_99 bw3_100 bw3_101 bw1_7 bw3_102 rfl rfl (by decide +kernel) ⟨Nat.le_of_ble_eq_true rfl, Nat.le_of_ble_eq_true rfl⟩) (kp_V (wc := [(aQ, .inr (4, [.ref aT, .ref aK, .ref aV, .int pl, .int en, .int so, .int sa, .long ti])), (aT, .inr (5, [.ref aR, .int (nI k), .int ch])), (aR, .inl (cA, n, .inl f))]) (tc := [(cA, .byte)]) (As := []) hG hS hA hP hD hK [0, 1, 2] rfl (by decide) rfl [0] rfl (ci := 4) (q0 := 0) rfl rfl) rfl rfl hl.1 rfl (lv_room (Nat.le_of_ble_eq_true rfl)) dc_R_readPart_1 ⟨Nat.zero_le _, Nat.zero_le _⟩) (fun r_1 _ H locs hw hP hD hK1 hS => ?_)
  have hr_1 : r_1 = (cv (tb f k) en pl so).1 := hw
  have hP : va_P (dC, dI) vwCl [(aX, .inr (3, [.int xl, .int xp])), (aQ, .inr (4, [.ref aT, .ref aK, .ref aV, .int ((cv (tb f k) en pl so).2.1), .int en, .int ((cv (tb f k) en pl so).2.2), .int sa, .long ti])), (aT, .inr (5, [.ref aR, .int (nI k), .int ch])), (aR, .inl (cA, n, .inl f))] H := hP
  have hD : va_D A [(aX, .inr (3, [.int xl, .int xp])), (aQ, .inr (4, [.ref aT, .ref aK, .ref aV, .int ((cv (tb f k) en pl so).2.1), .int en, .int ((cv (tb f k) en pl so).2.2), .int sa, .long ti])), (aT, .inr (5, [.ref aR, .int (nI k), .int ch])), (aR, .inl (cA, n, .inl f))] := hD
  obtain ⟨x_2, hx_2⟩ : ∃ y, y = ((cv (tb f k) en pl so).2.1) := ⟨_, rfl⟩
  rw [← hx_2] at hP hD
  obtain ⟨x_3, hx_3⟩ : ∃ y, y = ((cv (tb f k) en pl so).2.2) := ⟨_, rfl⟩
  rw [← hx_3] at hP hD
  have hP : va_P (dC, dI) vwCl [(aX, .inr (3, [.int xl, .int xp])), (aQ, .inr (4, [.ref aT, .ref aK, .ref aV, .int x_2, .int en, .int x_3, .int sa, .long ti])), (aT, .inr (5, [.ref aR, .int (nI k), .int ch])), (aR, .inl (cA, n, .inl f))] H := hP
  have hD : va_D A [(aX, .inr (3, [.int xl, .int xp])), (aQ, .inr (4, [.ref aT, .ref aK, .ref aV, .int x_2, .int en, .int x_3, .int sa, .long ti])), (aT, .inr (5, [.ref aR, .int (nI k), .int ch])), (aR, .inl (cA, n, .inl f))] := hD
  refine lv_lstore_n (lv' := [(2, .long r_1), (0, .ref aQ), (1, .ref aX)]) hx hb dc_R_readPart_4 rfl hl (by decide) rfl (fun ls hl => ?_)
  refine lv_aload_n hx hb dc_R_readPart_5 rfl (lv_at hl 1 rfl) ?_
  refine lv_lload_n hx hb dc_R_readPart_6 rfl (lv_at hl 0 rfl) ?_
  refine lv_ldc2 (v := (-1)) hx hb hown (hts _ bw3_120) dc_R_readPart_7 ?_
  refine W.lcmp hx hb dc_R_readPart_10 ?_
  refine w_join (σ := Int32) (fun v34_0 H locs ls => v34_0 = (if r_1 < (-1) then 0 else if ((en - x_2).toInt64) < r_1 then 0 else 1) ∧ va_P (dC, dI) vwCl [(aX, .inr (3, [.int xl, .int xp])), (aQ, .inr (4, [.ref aT, .ref aK, .ref aV, .int x_2, .int en, .int x_3, .int sa, .long ti])), (aT, .inr (5, [.ref aR, .int (nI k), .int ch])), (aR, .inl (cA, n, .inl f))] H ∧ va_D A [(aX, .inr (3, [.int xl, .int xp])), (aQ, .inr (4, [.ref aT, .ref aK, .ref aV, .int x_2, .int en, .int x_3, .int sa, .long ti])), (aT, .inr (5, [.ref aR, .int (nI k), .int ch])), (aR, .inl (cA, n, .inl f))] ∧ va_S A s.heap H locs ∧ lv_has ls 4 [(2, .long r_1), (0, .ref aQ), (1, .ref aX)]) (fun v34_0 ls => F0 m 34 ls [.int v34_0, .ref aQ]) ?_ (fun hJ34 => ?_)
  · rintro v34_0 H locs ls ⟨ev34_0, hP, hD, hS, hl⟩
    have hP : va_P (dC, dI) vwCl [(aX, .inr (3, [.int xl, .int xp])), (aQ, .inr (4, [.ref aT, .ref aK, .ref aV, .int x_2, .int en, .int x_3, .int sa, .long ti])), (aT, .inr (5, [.ref aR, .int (nI k), .int ch])), (aR, .inl (cA, n, .inl f))] H := hP
    have hD : va_D A [(aX, .inr (3, [.int xl, .int xp])), (aQ, .inr (4, [.ref aT, .ref aK, .ref aV, .int x_2, .int en, .int x_3, .int sa, .long ti])), (aT, .inr (5, [.ref aR, .int (nI k), .int ch])), (aR, .inl (cA, n, .inl f))] := hD
    have hl : lv_has ls 4 [(2, .long r_1), (0, .ref aQ), (1, .ref aX)] := hl
    show W _ _ _ _ _ _ _ _ _ _ _ _ _ _ _ (F0 m 34 ls [.int v34_0, .ref aQ])
    have h01v34_0 : v34_0 = 0 ∨ v34_0 = 1 := by rw [ev34_0]; exact i01 (Or.inl rfl) (i01 (Or.inl rfl) (Or.inr rfl))
    refine kc_v (wc := [(aQ, .inr (4, [.ref aT, .ref aK, .ref aV, .int x_2, .int en, .int x_3, .int sa, .long ti]))]) (wr := [(aX, .inr (3, [.int xl, .int xp])), (aT, .inr (5, [.ref aR, .int (nI k), .int ch])), (aR, .inl (cA, n, .inl f))]) hP hD hS hA [1] [0, 2, 3] rfl rfl (by decide) (by decide) (va_runV (As := [.int v34_0]) (rest := []) ⟨hx, hb, hml, hown, hts⟩ (c_R_expect l dC dI _ aQ aT aK aV x_2 en x_3 sa ti v34_0 ) (kw_V 1 hts bw3_108 bw3_109 bw3_110 bw1_7 bw3_111 rfl rfl (by decide +kernel) ⟨Nat.le_of_ble_eq_true rfl, Nat.le_of_ble_eq_true rfl⟩) (kp_V (wc := [(aQ, .inr (4, [.ref aT, .ref aK, .ref aV, .int x_2, .int en, .int x_3, .int sa, .long ti]))]) (tc := []) (As := [.int v34_0]) hG hS hA hP hD hK [1] rfl (by decide) rfl [] rfl (ci := 4) (q0 := 1) rfl rfl) rfl rfl hl.1 rfl (lv_room (Nat.le_of_ble_eq_true rfl)) dc_R_readPart_34 ⟨Nat.zero_le _, Nat.zero_le _⟩) (fun _ H locs hw hP hD hK1 hS => ?_)
    have hP : va_P (dC, dI) vwCl [(aX, .inr (3, [.int xl, .int xp])), (aT, .inr (5, [.ref aR, .int (nI k), .int ch])), (aR, .inl (cA, n, .inl f)), (aQ, .inr (4, [.ref aT, .ref aK, .ref aV, .int x_2, .int en, .int (exC x_3 v34_0), .int sa, .long ti]))] H := hP
    have hD : va_D A [(aX, .inr (3, [.int xl, .int xp])), (aT, .inr (5, [.ref aR, .int (nI k), .int ch])), (aR, .inl (cA, n, .inl f)), (aQ, .inr (4, [.ref aT, .ref aK, .ref aV, .int x_2, .int en, .int (exC x_3 v34_0), .int sa, .long ti]))] := hD
    have hP : va_P (dC, dI) vwCl [(aX, .inr (3, [.int xl, .int xp])), (aT, .inr (5, [.ref aR, .int (nI k), .int ch])), (aR, .inl (cA, n, .inl f)), (aQ, .inr (4, [.ref aT, .ref aK, .ref aV, .int x_2, .int en, .int (exC x_3 v34_0), .int sa, .long ti]))] H := hP
    have hD : va_D A [(aX, .inr (3, [.int xl, .int xp])), (aT, .inr (5, [.ref aR, .int (nI k), .int ch])), (aR, .inl (cA, n, .inl f)), (aQ, .inr (4, [.ref aT, .ref aK, .ref aV, .int x_2, .int en, .int (exC x_3 v34_0), .int sa, .long ti]))] := hD
    refine lv_aload_n hx hb dc_R_readPart_37 rfl (lv_at hl 2 rfl) ?_
    refine lv_aload_n hx hb dc_R_readPart_38 rfl (lv_at hl 1 rfl) ?_
    refine va_get (D := (dC, dI)) (ci := 4) (v := .int (exC x_3 v34_0)) (C := rn_R) (T := ft_R) (N := 8) hx hb hts fw_R hown hK hP 3 rfl rfl 5 (by decide) (hts _ bw1_129) (fun _ h9 => h9) rfl dc_R_readPart_39 ?_
    refine w_join (σ := Int32) (fun v51_0 H locs ls => v51_0 = (if (exC x_3 v34_0) = 0 then (-1) else r_1.toInt32) ∧ va_P (dC, dI) vwCl [(aX, .inr (3, [.int xl, .int xp])), (aT, .inr (5, [.ref aR, .int (nI k), .int ch])), (aR, .inl (cA, n, .inl f)), (aQ, .inr (4, [.ref aT, .ref aK, .ref aV, .int x_2, .int en, .int (exC x_3 v34_0), .int sa, .long ti]))] H ∧ va_D A [(aX, .inr (3, [.int xl, .int xp])), (aT, .inr (5, [.ref aR, .int (nI k), .int ch])), (aR, .inl (cA, n, .inl f)), (aQ, .inr (4, [.ref aT, .ref aK, .ref aV, .int x_2, .int en, .int (exC x_3 v34_0), .int sa, .long ti]))] ∧ va_S A s.heap H locs ∧ lv_has ls 4 [(2, .long r_1), (0, .ref aQ), (1, .ref aX)]) (fun v51_0 ls => F0 m 51 ls [.int v51_0, .ref aX]) ?_ (fun hJ51 => ?_)
    · rintro v51_0 H locs ls ⟨ev51_0, hP, hD, hS, hl⟩
      have hP : va_P (dC, dI) vwCl [(aX, .inr (3, [.int xl, .int xp])), (aT, .inr (5, [.ref aR, .int (nI k), .int ch])), (aR, .inl (cA, n, .inl f)), (aQ, .inr (4, [.ref aT, .ref aK, .ref aV, .int x_2, .int en, .int (exC x_3 v34_0), .int sa, .long ti]))] H := hP
      have hD : va_D A [(aX, .inr (3, [.int xl, .int xp])), (aT, .inr (5, [.ref aR, .int (nI k), .int ch])), (aR, .inl (cA, n, .inl f)), (aQ, .inr (4, [.ref aT, .ref aK, .ref aV, .int x_2, .int en, .int (exC x_3 v34_0), .int sa, .long ti]))] := hD
      have hl : lv_has ls 4 [(2, .long r_1), (0, .ref aQ), (1, .ref aX)] := hl
      show W _ _ _ _ _ _ _ _ _ _ _ _ _ _ _ (F0 m 51 ls [.int v51_0, .ref aX])
      refine va_put (D := (dC, dI)) (ci := 3) (v := .int v51_0) (ty := .int) (C := rn_P) (T := ft_P) (N := 2) hx hb hts fw_P fy_P fo_P fn_P hown hK hP hD hS 0 rfl rfl 0 (by decide) (hts _ bw1_111) (fun _ h9 => h9) rfl (by decide +kernel) rfl rfl (Nat.le_of_ble_eq_true rfl) dc_R_readPart_51 (fun H locs hP hD hS => ?_)
      have hP : va_P (dC, dI) vwCl [(aX, .inr (3, [.int v51_0, .int xp])), (aT, .inr (5, [.ref aR, .int (nI k), .int ch])), (aR, .inl (cA, n, .inl f)), (aQ, .inr (4, [.ref aT, .ref aK, .ref aV, .int x_2, .int en, .int (exC x_3 v34_0), .int sa, .long ti]))] H := hP
      have hD : va_D A [(aX, .inr (3, [.int v51_0, .int xp])), (aT, .inr (5, [.ref aR, .int (nI k), .int ch])), (aR, .inl (cA, n, .inl f)), (aQ, .inr (4, [.ref aT, .ref aK, .ref aV, .int x_2, .int en, .int (exC x_3 v34_0), .int sa, .long ti]))] := hD
      refine lv_aload_n hx hb dc_R_readPart_54 rfl (lv_at hl 2 rfl) ?_
      refine lv_aload_n hx hb dc_R_readPart_55 rfl (lv_at hl 1 rfl) ?_
      refine va_get (D := (dC, dI)) (ci := 4) (v := .int x_2) (C := rn_R) (T := ft_R) (N := 8) hx hb hts fw_R hown hK hP 3 rfl rfl 3 (by decide) (hts _ bw1_126) (fun _ h9 => h9) rfl dc_R_readPart_56 ?_
      refine va_put (D := (dC, dI)) (ci := 3) (v := .int x_2) (ty := .int) (C := rn_P) (T := ft_P) (N := 2) hx hb hts fw_P fy_P fo_P fn_P hown hK hP hD hS 0 rfl rfl 1 (by decide) (hts _ bw1_114) (fun _ h9 => h9) rfl (by decide +kernel) rfl rfl (Nat.le_of_ble_eq_true rfl) dc_R_readPart_59 (fun H locs hP hD hS => ?_)
      have hP : va_P (dC, dI) vwCl [(aX, .inr (3, [.int v51_0, .int x_2])), (aT, .inr (5, [.ref aR, .int (nI k), .int ch])), (aR, .inl (cA, n, .inl f)), (aQ, .inr (4, [.ref aT, .ref aK, .ref aV, .int x_2, .int en, .int (exC x_3 v34_0), .int sa, .long ti]))] H := hP
      have hD : va_D A [(aX, .inr (3, [.int v51_0, .int x_2])), (aT, .inr (5, [.ref aR, .int (nI k), .int ch])), (aR, .inl (cA, n, .inl f)), (aQ, .inr (4, [.ref aT, .ref aK, .ref aV, .int x_2, .int en, .int (exC x_3 v34_0), .int sa, .long ti]))] := hD
      refine lv_aload_n hx hb dc_R_readPart_62 rfl (lv_at hl 1 rfl) ?_
      refine lv_dup hx hb dc_R_readPart_63 rfl ?_
      refine va_get (D := (dC, dI)) (ci := 4) (v := .int x_2) (C := rn_R) (T := ft_R) (N := 8) hx hb hts fw_R hown hK hP 3 rfl rfl 3 (by decide) (hts _ bw1_126) (fun _ h9 => h9) rfl dc_R_readPart_64 ?_
      refine lv_aload_n hx hb dc_R_readPart_67 rfl (lv_at hl 2 rfl) ?_
      refine va_get (D := (dC, dI)) (ci := 3) (v := .int v51_0) (C := rn_P) (T := ft_P) (N := 2) hx hb hts fw_P hown hK hP 0 rfl rfl 0 (by decide) (hts _ bw1_111) (fun _ h9 => h9) rfl dc_R_readPart_68 ?_
      refine lv_iconst (v := 0) hx hb dc_R_readPart_71 (by decide) ?_
      refine va_mmax hx hb (hml.trans hl.1.symm) hown (hts _ bw3_121) (hts _ bw2_47) (hts _ bw1_14) (hts _ bw2_48) (Nat.le_of_ble_eq_true rfl) (Nat.le_of_ble_eq_true rfl) (Nat.zero_le _) (Nat.zero_le _) dc_R_readPart_72 ?_
      refine lv_iadd hx hb dc_R_readPart_75 ?_
      refine va_put (D := (dC, dI)) (ci := 4) (v := .int (x_2 + (if v51_0 < 0 then 0 else v51_0))) (ty := .int) (C := rn_R) (T := ft_R) (N := 8) hx hb hts fw_R fy_R fo_R fn_R hown hK hP hD hS 3 rfl rfl 3 (by decide) (hts _ bw1_126) (fun _ h9 => h9) rfl (by decide +kernel) rfl rfl (Nat.le_of_ble_eq_true rfl) dc_R_readPart_76 (fun H locs hP hD hS => ?_)
      have hP : va_P (dC, dI) vwCl [(aX, .inr (3, [.int v51_0, .int x_2])), (aT, .inr (5, [.ref aR, .int (nI k), .int ch])), (aR, .inl (cA, n, .inl f)), (aQ, .inr (4, [.ref aT, .ref aK, .ref aV, .int (x_2 + (if v51_0 < 0 then 0 else v51_0)), .int en, .int (exC x_3 v34_0), .int sa, .long ti]))] H := hP
      have hD : va_D A [(aX, .inr (3, [.int v51_0, .int x_2])), (aT, .inr (5, [.ref aR, .int (nI k), .int ch])), (aR, .inl (cA, n, .inl f)), (aQ, .inr (4, [.ref aT, .ref aK, .ref aV, .int (x_2 + (if v51_0 < 0 then 0 else v51_0)), .int en, .int (exC x_3 v34_0), .int sa, .long ti]))] := hD
      have e_5 : (x_2 + (if v51_0 < 0 then 0 else v51_0)) = (c4p (tb f k) en pl so) := by subst_vars; rfl
      have e_6 : (exC x_3 v34_0) = (c4s (tb f k) en pl so) := by subst_vars; rfl
      have e_7 : v51_0 = (c4l (tb f k) en pl so) := by subst_vars; rfl
      have e_8 : x_2 = ((cv (tb f k) en pl so).2.1) := by subst_vars; rfl
      have hP := wP_eq (ws' := [(aX, .inr (3, [.int (c4l (tb f k) en pl so), .int ((cv (tb f k) en pl so).2.1)])), (aT, .inr (5, [.ref aR, .int (nI k), .int ch])), (aR, .inl (cA, n, .inl f)), (aQ, .inr (4, [.ref aT, .ref aK, .ref aV, .int (c4p (tb f k) en pl so), .int en, .int (c4s (tb f k) en pl so), .int sa, .long ti]))]) hP (cg4 (fun y0 y1 y2 y3 => ([(aX, .inr (3, [.int y2, .int y3])), (aT, .inr (5, [.ref aR, .int (nI k), .int ch])), (aR, .inl (cA, n, .inl f)), (aQ, .inr (4, [.ref aT, .ref aK, .ref aV, .int y0, .int en, .int y1, .int sa, .long ti]))] : va_W)) e_5 e_6 e_7 e_8)
      have hD := wD_eq (ws' := [(aX, .inr (3, [.int (c4l (tb f k) en pl so), .int ((cv (tb f k) en pl so).2.1)])), (aT, .inr (5, [.ref aR, .int (nI k), .int ch])), (aR, .inl (cA, n, .inl f)), (aQ, .inr (4, [.ref aT, .ref aK, .ref aV, .int (c4p (tb f k) en pl so), .int en, .int (c4s (tb f k) en pl so), .int sa, .long ti]))]) hD (cg4 (fun y0 y1 y2 y3 => ([(aX, .inr (3, [.int y2, .int y3])), (aT, .inr (5, [.ref aR, .int (nI k), .int ch])), (aR, .inl (cA, n, .inl f)), (aQ, .inr (4, [.ref aT, .ref aK, .ref aV, .int y0, .int en, .int y1, .int sa, .long ti]))] : va_W)) e_5 e_6 e_7 e_8)
      have hP9 := hP.sub (ws' := [(aQ, .inr (4, [.ref aT, .ref aK, .ref aV, .int (c4p (tb f k) en pl so), .int en, .int (c4s (tb f k) en pl so), .int sa, .long ti])), (aT, .inr (5, [.ref aR, .int (nI k), .int ch])), (aR, .inl (cA, n, .inl f)), (aX, .inr (3, [.int (c4l (tb f k) en pl so), .int ((cv (tb f k) en pl so).2.1)]))]) [3, 1, 2, 0] rfl
      have hD9 := hD.sub (ws' := [(aQ, .inr (4, [.ref aT, .ref aK, .ref aV, .int (c4p (tb f k) en pl so), .int en, .int (c4s (tb f k) en pl so), .int sa, .long ti])), (aT, .inr (5, [.ref aR, .int (nI k), .int ch])), (aR, .inl (cA, n, .inl f)), (aX, .inr (3, [.int (c4l (tb f k) en pl so), .int ((cv (tb f k) en pl so).2.1)]))]) [3, 1, 2, 0] (by decide) rfl
      have hK9 := hK.sub (tys' := [(cA, .byte)]) [0] rfl
      exact W.vret hx hb hr (fun t ht hW => ⟨⟨(), rfl, trivial, by rw [ht]; exact hP9, va_K.moved hW.alike hK9, hD9⟩, hS.F ht⟩) hS.2.2 dc_R_readPart_79
    · refine lv_if_eq (tgt := 50) hx hb dc_R_readPart_42 (by decide) (fun c_9 => ?_) (fun c_9 => ?_)
      · refine lv_iconst (v := (-1)) hx hb dc_R_readPart_50 (by decide) ?_
        exact hJ51 (-1) _ _ _ ⟨by rw [if_pos c_9], hP.sub [0, 1, 2, 3] rfl, hD.sub [0, 1, 2, 3] (by decide) rfl, hS, lv_sub hl [0, 1, 2] rfl⟩
      · refine lv_lload_n hx hb dc_R_readPart_45 rfl (lv_at hl 0 rfl) ?_
        refine lv_l2i (v := r_1.toInt32) hx hb dc_R_readPart_46 rfl ?_
        refine lv_goto (tgt := 51) hx hb dc_R_readPart_47 (by decide) ?_
        exact hJ51 r_1.toInt32 _ _ _ ⟨by rw [if_neg c_9], hP.sub [0, 1, 2, 3] rfl, hD.sub [0, 1, 2, 3] (by decide) rfl, hS, lv_sub hl [0, 1, 2] rfl⟩
  · refine lv_if_lt (tgt := 33) hx hb dc_R_readPart_11 (by decide) (fun c_10 => ?_) (fun c_10 => ?_)
    · have c_10 : r_1 < (-1) := (lg_cmp_lt _ _).mp c_10
      refine lv_iconst (v := 0) hx hb dc_R_readPart_33 (by decide) ?_
      exact hJ34 0 _ _ _ ⟨by rw [if_pos c_10], hP.sub [0, 1, 2, 3] rfl, hD.sub [0, 1, 2, 3] (by decide) rfl, hS, lv_sub hl [0, 1, 2] rfl⟩
    · have c_10 : ¬ (r_1 < (-1)) := fun h => c_10 ((lg_cmp_lt _ _).mpr h)
      refine lv_lload_n hx hb dc_R_readPart_14 rfl (lv_at hl 0 rfl) ?_
      refine lv_aload_n hx hb dc_R_readPart_15 rfl (lv_at hl 1 rfl) ?_
      refine va_get (D := (dC, dI)) (ci := 4) (v := .int en) (C := rn_R) (T := ft_R) (N := 8) hx hb hts fw_R hown hK hP 1 rfl rfl 4 (by decide) (hts _ bw1_128) (fun _ h9 => h9) rfl dc_R_readPart_16 ?_
      refine lv_aload_n hx hb dc_R_readPart_19 rfl (lv_at hl 1 rfl) ?_
      refine va_get (D := (dC, dI)) (ci := 4) (v := .int x_2) (C := rn_R) (T := ft_R) (N := 8) hx hb hts fw_R hown hK hP 1 rfl rfl 3 (by decide) (hts _ bw1_126) (fun _ h9 => h9) rfl dc_R_readPart_20 ?_
      refine lv_isub hx hb dc_R_readPart_23 ?_
      refine lv_i2l (v := (en - x_2).toInt64) hx hb dc_R_readPart_24 rfl ?_
      refine W.lcmp hx hb dc_R_readPart_25 ?_
      refine lv_if_gt (tgt := 33) hx hb dc_R_readPart_26 (by decide) (fun c_11 => ?_) (fun c_11 => ?_)
      · have c_11 : ((en - x_2).toInt64) < r_1 := (lg_cmp_gt _ _).mp c_11
        refine lv_iconst (v := 0) hx hb dc_R_readPart_33 (by decide) ?_
        exact hJ34 0 _ _ _ ⟨by rw [if_neg c_10, if_pos c_11], hP.sub [0, 1, 2, 3] rfl, hD.sub [0, 1, 2, 3] (by decide) rfl, hS, lv_sub hl [0, 1, 2] rfl⟩
      · have c_11 : ¬ (((en - x_2).toInt64) < r_1) := fun h => c_11 ((lg_cmp_gt _ _).mpr h)
        refine lv_iconst (v := 1) hx hb dc_R_readPart_29 (by decide) ?_
        refine lv_goto (tgt := 34) hx hb dc_R_readPart_30 (by decide) ?_
        exact hJ34 1 _ _ _ ⟨by rw [if_neg c_10, if_neg c_11], hP.sub [0, 1, 2, 3] rfl, hD.sub [0, 1, 2, 3] (by decide) rfl, hS, lv_sub hl [0, 1, 2] rfl⟩
