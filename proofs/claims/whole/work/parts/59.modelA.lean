set_option maxHeartbeats 1000000 in
set_option maxRecDepth 100000 in
theorem c_M_width (l : Launch) (dC : Nat → ClassId) (dI : Nat → Nat → Nat) (sz : Nat) (xv : Int32) (hpx : pOk xv) : Met l my_M_width (wB my_M_width cd_M_width 5 (some .int)) ({ frames := 0, cells := 0, slots := 0, locals := 0 }) (va_Pc [.long xv.toInt64] (PcW (dC, dI) [] [] sz)) (va_Qi (fun (r : Int32) => fun (_ : Unit) => r = nI (vN xv)) (fun _ => EnW (dC, dI) (va_A [] sz) [] []) (va_A [] sz)) 0 0 (va_A [] sz) := by
  refine Met.ofW (cc := cd_M_width) (maxL := 5) (ret := (some .int)) (by decide) rfl ?_
  intro p e s m args below meth c s₁ B hml hv
  obtain ⟨rfl, hsz, hP, hK, hD0, hG⟩ := hv
  have hx := B.exec
  have hb := B.bytes
  have hr := B.returns
  have hts := fun (w : Cond) (h : w ∈ bigT) => atoms_spec (ws := (wB my_M_width cd_M_width 5 (some .int))) B.pre w (List.mem_cons_of_mem _ h)
  have hown : s.vm.findClass rn_M = some m.cls := findClass_of_methodNamed B.named
  have hlocks := B.notSynchronized
  subst hsz
  have hD := hD0.self (sz := s.heap.size)
  generalize hAe : va_A [] s.heap.size = A at hD hG ⊢
  have hA : ∀ q : Nat, s.heap.size ≤ q → A q := fun q h => by rw [← hAe]; exact Or.inr h
  have hS : va_S A s.heap s.heap [] := va_S.rf
  have hP : va_P (dC, dI) vwCl [] s.heap := hP
  have hl := lv_entry ([.long xv.toInt64]) (n := 5) (Nat.le_of_ble_eq_true rfl)
  rw [lg_entry_eq]
  generalize (lg_sl ([.long xv.toInt64]) ++ List.replicate (5 - (lg_sl ([.long xv.toInt64])).length) Slot.unset).toArray = ls at hl ⊢
  have hl : lv_has ls 5 [(0, .long xv.toInt64)] := hl
  refine lv_lload_n hx hb dc_M_width_0 rfl (lv_at hl 0 rfl) ?_
  refine lv_lconst (v := 0) hx hb dc_M_width_1 rfl ?_
  refine W.lcmp hx hb dc_M_width_2 ?_
  refine w_join (σ := Int64) (fun v21_0 H locs ls => v21_0 = (if 0 ≤ xv.toInt64 then 2 * xv.toInt64 else ((-2) * xv.toInt64) - 1) ∧ va_P (dC, dI) vwCl [] H ∧ va_D A [] ∧ va_S A s.heap H locs ∧ lv_has ls 5 [(0, .long xv.toInt64)]) (fun v21_0 ls => F0 m 21 ls [.long v21_0]) ?_ (fun hJ21 => ?_)
  · rintro v21_0 H locs ls ⟨ev21_0, hP, hD, hS, hl⟩
    have hP : va_P (dC, dI) vwCl [] H := hP
    have hD : va_D A [] := hD
    have hl : lv_has ls 5 [(0, .long xv.toInt64)] := hl
    show W _ _ _ _ _ _ _ _ _ _ _ _ _ _ _ (F0 m 21 ls [.long v21_0])
    refine lv_lstore_n (lv' := [(2, .long v21_0), (0, .long xv.toInt64)]) hx hb dc_M_width_21 rfl hl (by decide) rfl (fun ls hl => ?_)
    refine lv_iconst (v := 1) hx hb dc_M_width_22 (by decide) ?_
    refine lv_istore (lv' := [(4, .int 1), (2, .long v21_0), (0, .long xv.toInt64)]) hx hb dc_M_width_23 hl (by decide) rfl (fun ls hl => ?_)
    have e_1 : v21_0 = (lN (zg xv)) := by first | (refine ev21_0.trans ?_; exact mz_z hpx)
    have hl := wL_eq (lv' := [(4, .int (nI 1)), (2, .long (lN (zg xv))), (0, .long xv.toInt64)]) hl (cg1 (fun y0 => ([(4, .int (nI 1)), (2, .long y0), (0, .long xv.toInt64)] : List (Nat × Value))) e_1)
    refine w_loop (σ := Nat × Nat × Nat) (fun x H locs ls => x.2.1 < 128 ^ (x.1 + 1) ∧ x.2.1 < 2 ^ 62 ∧ x.2.2 + (vlN x.1 x.2.1).length = vN xv + 1 ∧ va_P (dC, dI) vwCl [] H ∧ va_D A [] ∧ va_S A s.heap H locs ∧ lv_has ls 5 [(4, .int (nI x.2.2)), (2, .long (lN x.2.1)), (0, .long xv.toInt64)]) (fun x ls => F0 m 25 ls []) (fun _ => 0) (fun _ => 0) (fun x => x.2.1) ?_ (9, zg xv, 1) _ _ _ ⟨(show (zg xv) < 128 ^ (9 + 1) from zg_128 hpx), by show (zg xv) < 2 ^ 62; have := zg_lt hpx; omega, (show 1 + (vlN 9 (zg xv)).length = vN xv + 1 from Nat.add_comm _ _), hP.sub [] rfl, hD.sub [] (by decide) rfl, hS, lv_sub hl [0, 1, 2] rfl⟩
    rintro ⟨r, y, i⟩ H locs ls ⟨hy, hy2, hi, hP, hD, hS, hl⟩ ih25
    have hP : va_P (dC, dI) vwCl [] H := hP
    have hD : va_D A [] := hD
    have hl : lv_has ls 5 [(4, .int (nI i)), (2, .long (lN y)), (0, .long xv.toInt64)] := hl
    show W _ _ _ _ _ _ _ _ _ _ _ _ _ _ _ (F0 m 25 ls [])
    have hy : y < 128 ^ (r + 1) := hy
    have hy2 : y < 2 ^ 62 := hy2
    have hi : i + (vlN r y).length = vN xv + 1 := hi
    refine lv_lload_n hx hb dc_M_width_25 rfl (lv_at hl 1 rfl) ?_
    refine lv_lconst (v := 0) hx hb dc_M_width_26 rfl ?_
    refine W.lcmp hx hb dc_M_width_27 ?_
    refine w_join (σ := Unit) (fun v31_ H locs ls => va_P (dC, dI) vwCl [] H ∧ va_D A [] ∧ va_S A s.heap H locs ∧ lv_has ls 5 [(4, .int (nI i)), (2, .long (lN y)), (0, .long xv.toInt64)]) (fun v31_ ls => F0 m 31 ls []) ?_ (fun hJ31 => ?_)
    · rintro v31_ H locs ls ⟨hP, hD, hS, hl⟩
      have hP : va_P (dC, dI) vwCl [] H := hP
      have hD : va_D A [] := hD
      have hl : lv_has ls 5 [(4, .int (nI i)), (2, .long (lN y)), (0, .long xv.toInt64)] := hl
      show W _ _ _ _ _ _ _ _ _ _ _ _ _ _ _ (F0 m 31 ls [])
      refine lv_lload_n hx hb dc_M_width_31 rfl (lv_at hl 1 rfl) ?_
      refine lv_ldc2 (v := 127) hx hb hown (hts _ bw4_43) dc_M_width_32 ?_
      refine W.lcmp hx hb dc_M_width_35 ?_
      refine lv_if_le (tgt := 50) hx hb dc_M_width_36 (by decide) (fun c_2 => ?_) (fun c_2 => ?_)
      · have c_2 : (lN y) ≤ 127 := (lg_cmp_le _ _).mp c_2
        have hy8 : y < 128 := by have := (pk_lLE (b := 127) (by omega) (by omega)).mp c_2; omega
        have hv1 := vlN_1 (r := r) hy8
        refine lv_iload hx hb dc_M_width_50 (lv_at hl 0 rfl) ?_
        have hP9 := hP.sub (ws' := []) [] rfl
        have hD9 := hD.sub (ws' := []) [] (by decide) rfl
        have hK9 := hK.sub (tys' := []) [] rfl
        exact W.iret (v := (nI i)) hx hb hr (fun t ht hW => ⟨⟨(nI i), (), rfl, congrArg nI (by omega), by rw [ht]; exact hP9, va_K.moved hW.alike hK9, hD9⟩, hS.F ht⟩) hS.2.2 dc_M_width_52
      · have c_2 : ¬ ((lN y) ≤ 127) := fun h => c_2 ((lg_cmp_le _ _).mpr h)
        have hy8 : 128 ≤ y := by rcases Nat.lt_or_ge y 128 with h | h; exact absurd ((pk_lLE (b := 127) (by omega) (by omega)).mpr (by omega)) c_2; exact h
        obtain ⟨q, hq1, hq2, hq3⟩ := vlN_s hy8 hy
        refine lv_lload_n hx hb dc_M_width_39 rfl (lv_at hl 1 rfl) ?_
        refine lv_bipush (v := 7) hx hb dc_M_width_40 (by decide) ?_
        refine lv_lushr (v := ((lN y).toUInt64 >>> ((7 : Int32).toInt64.toUInt64 &&& Int64.toUInt64 63)).toInt64) hx hb dc_M_width_42 rfl ?_
        refine lv_lstore_n (lv' := [(2, .long (((lN y).toUInt64 >>> ((7 : Int32).toInt64.toUInt64 &&& Int64.toUInt64 63)).toInt64)), (4, .int (nI i)), (0, .long xv.toInt64)]) hx hb dc_M_width_43 rfl hl (by decide) rfl (fun ls hl => ?_)
        refine lv_iinc (v := ((nI i) + 1)) (lv' := [(4, .int ((nI i) + 1)), (2, .long (((lN y).toUInt64 >>> ((7 : Int32).toInt64.toUInt64 &&& Int64.toUInt64 63)).toInt64)), (0, .long xv.toInt64)]) hx hb dc_M_width_44 hl (k := 1) rfl rfl (by decide) rfl (fun ls hl => ?_)
        refine lv_goto (tgt := 25) hx hb dc_M_width_47 (by decide) ?_
        have e_3 : ((nI i) + 1) = (nI (i + 1)) := by first | exact nI_1 _ | exact us7_eq hy2
        have e_4 : (((lN y).toUInt64 >>> ((7 : Int32).toInt64.toUInt64 &&& Int64.toUInt64 63)).toInt64) = (lN (y / 128)) := by first | exact nI_1 _ | exact us7_eq hy2
        have hl := wL_eq (lv' := [(4, .int (nI (i + 1))), (2, .long (lN (y / 128))), (0, .long xv.toInt64)]) hl (cg2 (fun y0 y1 => ([(4, .int y0), (2, .long y1), (0, .long xv.toInt64)] : List (Nat × Value))) e_3 e_4)
        exact ih25 (q, y / 128, i + 1) _ _ _ ⟨(show (y / 128) < 128 ^ (q + 1) from hq3), by show (y / 128) < 2 ^ 62; omega, by show (i + 1) + (vlN q (y / 128)).length = vN xv + 1; omega, hP.sub [] rfl, hD.sub [] (by decide) rfl, hS, lv_sub hl [0, 1, 2] rfl⟩ (by show y / 128 < y; omega)
    · refine lv_if_lt (tgt := 39) hx hb dc_M_width_28 (by decide) (fun c_5 => ?_) (fun c_5 => ?_)
      · have c_5 : (lN y) < 0 := (lg_cmp_lt _ _).mp c_5
        exfalso; exact lN_nneg hy2 c_5
      · have c_5 : ¬ ((lN y) < 0) := fun h => c_5 ((lg_cmp_lt _ _).mpr h)
        exact hJ31 () _ _ _ ⟨hP.sub [] rfl, hD.sub [] (by decide) rfl, hS, lv_sub hl [0, 1, 2] rfl⟩
  · refine lv_if_ge (tgt := 16) hx hb dc_M_width_3 (by decide) (fun c_6 => ?_) (fun c_6 => ?_)
    · have c_6 : 0 ≤ xv.toInt64 := (lg_cmp_ge _ _).mp c_6
      refine lv_ldc2 (v := 2) hx hb hown (hts _ bw4_42) dc_M_width_16 ?_
      refine lv_lload_n hx hb dc_M_width_19 rfl (lv_at hl 0 rfl) ?_
      refine lv_lmul hx hb dc_M_width_20 ?_
      exact hJ21 (2 * xv.toInt64) _ _ _ ⟨by rw [if_pos c_6], hP.sub [] rfl, hD.sub [] (by decide) rfl, hS, lv_sub hl [0] rfl⟩
    · have c_6 : ¬ (0 ≤ xv.toInt64) := fun h => c_6 ((lg_cmp_ge _ _).mpr h)
      refine lv_ldc2 (v := (-2)) hx hb hown (hts _ bw4_41) dc_M_width_6 ?_
      refine lv_lload_n hx hb dc_M_width_9 rfl (lv_at hl 0 rfl) ?_
      refine lv_lmul hx hb dc_M_width_10 ?_
      refine lv_lconst (v := 1) hx hb dc_M_width_11 rfl ?_
      refine lv_lsub hx hb dc_M_width_12 ?_
      refine lv_goto (tgt := 21) hx hb dc_M_width_13 (by decide) ?_
      exact hJ21 (((-2) * xv.toInt64) - 1) _ _ _ ⟨by rw [if_neg c_6], hP.sub [] rfl, hD.sub [] (by decide) rfl, hS, lv_sub hl [0] rfl⟩

set_option maxHeartbeats 1000000 in
set_option maxRecDepth 100000 in
theorem c_M_body (l : Launch) (dC : Nat → ClassId) (dI : Nat → Nat → Nat) (sz : Nat) (aM : Nat) (co : Int32) (a1 : Nat) (ks : Nat) (dn : Nat) (a2 : Nat) (a3 : Nat) (a4 : Nat) (a5 : Nat) (a6 : Nat) (xa : Nat) (ri : Int32) (fa : Int32) (fq : Int32) (bg : Int32) (tm : Int64) (ka : Int32) (kb : Int64) (va : Int32) (vb : Int64) (c3_ : ClassId) (c5_ : ClassId) (c6_ : ClassId) (gkb : Nat → Int32) (gvb : Nat → Int32) (gl : Nat → Int32) (j : Nat) (hj : j < 1000) (hd : dOk (gkb j) (gvb j) (gl j)) : Met l my_M_body (wB my_M_body cd_M_body 3 (some .int)) ({ frames := 1, cells := 0, slots := 0, locals := 24 }) (va_Pc [.ref aM, .int (nI j)] (PcW (dC, dI) [(aM, .inr (7, [.int co, .ref a1, .int (nI ks), .int (nI dn), .ref a2, .ref a3, .ref a4, .ref a5, .ref a6, .int (nI xa), .int ri, .int fa, .int fq, .int bg, .long tm, .int ka, .long kb, .int va, .long vb])), (a3, .inl (c3_, 1000, .inl gkb)), (a5, .inl (c5_, 1000, .inl gvb)), (a6, .inl (c6_, 1000, .inl gl))] [(c3_, .int), (c5_, .int), (c6_, .int)] sz)) (va_Qi (fun (r : Int32) => fun (_ : Unit) => r = nI (bdN (gkb j) (gvb j) (gl j) j)) (fun _ => EnW (dC, dI) (va_A [(aM, .inr (7, [.int co, .ref a1, .int (nI ks), .int (nI dn), .ref a2, .ref a3, .ref a4, .ref a5, .ref a6, .int (nI xa), .int ri, .int fa, .int fq, .int bg, .long tm, .int ka, .long kb, .int va, .long vb])), (a3, .inl (c3_, 1000, .inl gkb)), (a5, .inl (c5_, 1000, .inl gvb)), (a6, .inl (c6_, 1000, .inl gl))] sz) [(aM, .inr (7, [.int co, .ref a1, .int (nI ks), .int (nI dn), .ref a2, .ref a3, .ref a4, .ref a5, .ref a6, .int (nI xa), .int ri, .int fa, .int fq, .int bg, .long tm, .int ka, .long kb, .int va, .long vb])), (a3, .inl (c3_, 1000, .inl gkb)), (a5, .inl (c5_, 1000, .inl gvb)), (a6, .inl (c6_, 1000, .inl gl))] [(c3_, .int), (c5_, .int), (c6_, .int)]) (va_A [(aM, .inr (7, [.int co, .ref a1, .int (nI ks), .int (nI dn), .ref a2, .ref a3, .ref a4, .ref a5, .ref a6, .int (nI xa), .int ri, .int fa, .int fq, .int bg, .long tm, .int ka, .long kb, .int va, .long vb])), (a3, .inl (c3_, 1000, .inl gkb)), (a5, .inl (c5_, 1000, .inl gvb)), (a6, .inl (c6_, 1000, .inl gl))] sz)) 0 0 (va_A [(aM, .inr (7, [.int co, .ref a1, .int (nI ks), .int (nI dn), .ref a2, .ref a3, .ref a4, .ref a5, .ref a6, .int (nI xa), .int ri, .int fa, .int fq, .int bg, .long tm, .int ka, .long kb, .int va, .long vb])), (a3, .inl (c3_, 1000, .inl gkb)), (a5, .inl (c5_, 1000, .inl gvb)), (a6, .inl (c6_, 1000, .inl gl))] sz) := by
  refine Met.ofW (cc := cd_M_body) (maxL := 3) (ret := (some .int)) (by decide) rfl ?_
  intro p e s m args below meth c s₁ B hml hv
  obtain ⟨rfl, hsz, hP, hK, hD0, hG⟩ := hv
  have hx := B.exec
  have hb := B.bytes
  have hr := B.returns
  have hts := fun (w : Cond) (h : w ∈ bigT) => atoms_spec (ws := (wB my_M_body cd_M_body 3 (some .int))) B.pre w (List.mem_cons_of_mem _ h)
  have hown : s.vm.findClass rn_M = some m.cls := findClass_of_methodNamed B.named
  have hlocks := B.notSynchronized
  subst hsz
  have hD := hD0.self (sz := s.heap.size)
  generalize hAe : va_A [(aM, .inr (7, [.int co, .ref a1, .int (nI ks), .int (nI dn), .ref a2, .ref a3, .ref a4, .ref a5, .ref a6, .int (nI xa), .int ri, .int fa, .int fq, .int bg, .long tm, .int ka, .long kb, .int va, .long vb])), (a3, .inl (c3_, 1000, .inl gkb)), (a5, .inl (c5_, 1000, .inl gvb)), (a6, .inl (c6_, 1000, .inl gl))] s.heap.size = A at hD hG ⊢
  have hA : ∀ q : Nat, s.heap.size ≤ q → A q := fun q h => by rw [← hAe]; exact Or.inr h
  have hS : va_S A s.heap s.heap [] := va_S.rf
  have hP : va_P (dC, dI) vwCl [(aM, .inr (7, [.int co, .ref a1, .int (nI ks), .int (nI dn), .ref a2, .ref a3, .ref a4, .ref a5, .ref a6, .int (nI xa), .int ri, .int fa, .int fq, .int bg, .long tm, .int ka, .long kb, .int va, .long vb])), (a3, .inl (c3_, 1000, .inl gkb)), (a5, .inl (c5_, 1000, .inl gvb)), (a6, .inl (c6_, 1000, .inl gl))] s.heap := hP
  have hl := lv_entry ([.ref aM, .int (nI j)]) (n := 3) (Nat.le_of_ble_eq_true rfl)
  rw [lg_entry_eq]
  generalize (lg_sl ([.ref aM, .int (nI j)]) ++ List.replicate (3 - (lg_sl ([.ref aM, .int (nI j)])).length) Slot.unset).toArray = ls at hl ⊢
  have hl : lv_has ls 3 [(0, .ref aM), (1, .int (nI j))] := hl
  refine lv_iconst (v := 2) hx hb dc_M_body_0 (by decide) ?_
  refine lv_aload_n hx hb dc_M_body_1 rfl (lv_at hl 0 rfl) ?_
  refine va_get (D := (dC, dI)) (ci := 7) (v := .ref a6) (C := rn_M) (T := ft_M) (N := 19) hx hb hts fw_M hown hK hP 0 rfl rfl 8 (by decide) (hts _ bw3_167) (fun _ h9 => h9) rfl dc_M_body_2 ?_
  refine lv_iload_n hx hb dc_M_body_5 rfl (lv_at hl 1 rfl) ?_
  refine va_iald hx hb hK hP 3 2 rfl rfl (vp_in_nI (by omega) (by omega)) dc_M_body_6 ?_
  rw [show (nI j).toNatClampNeg = j from nI_clamp (by omega)]
  refine lv_i2l (v := (gl j).toInt64) hx hb dc_M_body_7 rfl ?_
  refine kc_i (wc := []) (wr := [(aM, .inr (7, [.int co, .ref a1, .int (nI ks), .int (nI dn), .ref a2, .ref a3, .ref a4, .ref a5, .ref a6, .int (nI xa), .int ri, .int fa, .int fq, .int bg, .long tm, .int ka, .long kb, .int va, .long vb])), (a3, .inl (c3_, 1000, .inl gkb)), (a5, .inl (c5_, 1000, .inl gvb)), (a6, .inl (c6_, 1000, .inl gl))]) hP hD hS hA [] [0, 1, 2, 3] rfl rfl (by decide) (by decide) (va_runS (As := [.long ((gl j).toInt64)]) (rest := [.int 2]) ⟨hx, hb, hml, hown, hts⟩ (c_M_width l dC dI _ (gl j) (hd.2.2.2.2)) (kw_S 1 hts bw4_38 bw4_39 bw1_9 bw4_40 rfl rfl (by decide +kernel) ⟨Nat.le_of_ble_eq_true rfl, Nat.le_of_ble_eq_true rfl⟩) (kp_S (wc := []) (tc := []) (av := [.long ((gl j).toInt64)]) hG hS hA hP hD hK [] rfl (by decide) rfl [] rfl) rfl rfl hl.1 rfl (lv_room (Nat.le_of_ble_eq_true rfl)) dc_M_body_8 ⟨Nat.zero_le _, Nat.zero_le _⟩) (fun r_1 _ H locs hw hP hD hK1 hS => ?_)
  have hw : nI (vN (gl j)) = r_1 := hw.symm
  subst hw
  have hP : va_P (dC, dI) vwCl [(aM, .inr (7, [.int co, .ref a1, .int (nI ks), .int (nI dn), .ref a2, .ref a3, .ref a4, .ref a5, .ref a6, .int (nI xa), .int ri, .int fa, .int fq, .int bg, .long tm, .int ka, .long kb, .int va, .long vb])), (a3, .inl (c3_, 1000, .inl gkb)), (a5, .inl (c5_, 1000, .inl gvb)), (a6, .inl (c6_, 1000, .inl gl))] H := hP
  have hD : va_D A [(aM, .inr (7, [.int co, .ref a1, .int (nI ks), .int (nI dn), .ref a2, .ref a3, .ref a4, .ref a5, .ref a6, .int (nI xa), .int ri, .int fa, .int fq, .int bg, .long tm, .int ka, .long kb, .int va, .long vb])), (a3, .inl (c3_, 1000, .inl gkb)), (a5, .inl (c5_, 1000, .inl gvb)), (a6, .inl (c6_, 1000, .inl gl))] := hD
  refine lv_iadd hx hb dc_M_body_11 ?_
  refine lv_iload_n hx hb dc_M_body_12 rfl (lv_at hl 1 rfl) ?_
  refine lv_i2l (v := (nI j).toInt64) hx hb dc_M_body_13 rfl ?_
  refine kc_i (wc := []) (wr := [(aM, .inr (7, [.int co, .ref a1, .int (nI ks), .int (nI dn), .ref a2, .ref a3, .ref a4, .ref a5, .ref a6, .int (nI xa), .int ri, .int fa, .int fq, .int bg, .long tm, .int ka, .long kb, .int va, .long vb])), (a3, .inl (c3_, 1000, .inl gkb)), (a5, .inl (c5_, 1000, .inl gvb)), (a6, .inl (c6_, 1000, .inl gl))]) hP hD hS hA [] [0, 1, 2, 3] rfl rfl (by decide) (by decide) (va_runS (As := [.long ((nI j).toInt64)]) (rest := [.int (2 + (nI (vN (gl j))))]) ⟨hx, hb, hml, hown, hts⟩ (c_M_width l dC dI _ (nI j) (pOk_n (by omega))) (kw_S 1 hts bw4_38 bw4_39 bw1_9 bw4_40 rfl rfl (by decide +kernel) ⟨Nat.le_of_ble_eq_true rfl, Nat.le_of_ble_eq_true rfl⟩) (kp_S (wc := []) (tc := []) (av := [.long ((nI j).toInt64)]) hG hS hA hP hD hK [] rfl (by decide) rfl [] rfl) rfl rfl hl.1 rfl (lv_room (Nat.le_of_ble_eq_true rfl)) dc_M_body_14 ⟨Nat.zero_le _, Nat.zero_le _⟩) (fun r_2 _ H locs hw hP hD hK1 hS => ?_)
  have hw : nI (vN (nI j)) = r_2 := hw.symm
  subst hw
  have hP : va_P (dC, dI) vwCl [(aM, .inr (7, [.int co, .ref a1, .int (nI ks), .int (nI dn), .ref a2, .ref a3, .ref a4, .ref a5, .ref a6, .int (nI xa), .int ri, .int fa, .int fq, .int bg, .long tm, .int ka, .long kb, .int va, .long vb])), (a3, .inl (c3_, 1000, .inl gkb)), (a5, .inl (c5_, 1000, .inl gvb)), (a6, .inl (c6_, 1000, .inl gl))] H := hP
  have hD : va_D A [(aM, .inr (7, [.int co, .ref a1, .int (nI ks), .int (nI dn), .ref a2, .ref a3, .ref a4, .ref a5, .ref a6, .int (nI xa), .int ri, .int fa, .int fq, .int bg, .long tm, .int ka, .long kb, .int va, .long vb])), (a3, .inl (c3_, 1000, .inl gkb)), (a5, .inl (c5_, 1000, .inl gvb)), (a6, .inl (c6_, 1000, .inl gl))] := hD
  refine lv_iadd hx hb dc_M_body_17 ?_
  refine lv_aload_n hx hb dc_M_body_18 rfl (lv_at hl 0 rfl) ?_
  refine va_get (D := (dC, dI)) (ci := 7) (v := .ref a3) (C := rn_M) (T := ft_M) (N := 19) hx hb hts fw_M hown hK hP 0 rfl rfl 5 (by decide) (hts _ bw3_164) (fun _ h9 => h9) rfl dc_M_body_19 ?_
  refine lv_iload_n hx hb dc_M_body_22 rfl (lv_at hl 1 rfl) ?_
  refine va_iald hx hb hK hP 1 0 rfl rfl (vp_in_nI (by omega) (by omega)) dc_M_body_23 ?_
  rw [show (nI j).toNatClampNeg = j from nI_clamp (by omega)]
  refine lv_i2l (v := (gkb j).toInt64) hx hb dc_M_body_24 rfl ?_
  refine kc_i (wc := []) (wr := [(aM, .inr (7, [.int co, .ref a1, .int (nI ks), .int (nI dn), .ref a2, .ref a3, .ref a4, .ref a5, .ref a6, .int (nI xa), .int ri, .int fa, .int fq, .int bg, .long tm, .int ka, .long kb, .int va, .long vb])), (a3, .inl (c3_, 1000, .inl gkb)), (a5, .inl (c5_, 1000, .inl gvb)), (a6, .inl (c6_, 1000, .inl gl))]) hP hD hS hA [] [0, 1, 2, 3] rfl rfl (by decide) (by decide) (va_runS (As := [.long ((gkb j).toInt64)]) (rest := [.int ((2 + (nI (vN (gl j)))) + (nI (vN (nI j))))]) ⟨hx, hb, hml, hown, hts⟩ (c_M_width l dC dI _ (gkb j) (hd.1)) (kw_S 1 hts bw4_38 bw4_39 bw1_9 bw4_40 rfl rfl (by decide +kernel) ⟨Nat.le_of_ble_eq_true rfl, Nat.le_of_ble_eq_true rfl⟩) (kp_S (wc := []) (tc := []) (av := [.long ((gkb j).toInt64)]) hG hS hA hP hD hK [] rfl (by decide) rfl [] rfl) rfl rfl hl.1 rfl (lv_room (Nat.le_of_ble_eq_true rfl)) dc_M_body_25 ⟨Nat.zero_le _, Nat.zero_le _⟩) (fun r_3 _ H locs hw hP hD hK1 hS => ?_)
  have hw : nI (vN (gkb j)) = r_3 := hw.symm
  subst hw
  have hP : va_P (dC, dI) vwCl [(aM, .inr (7, [.int co, .ref a1, .int (nI ks), .int (nI dn), .ref a2, .ref a3, .ref a4, .ref a5, .ref a6, .int (nI xa), .int ri, .int fa, .int fq, .int bg, .long tm, .int ka, .long kb, .int va, .long vb])), (a3, .inl (c3_, 1000, .inl gkb)), (a5, .inl (c5_, 1000, .inl gvb)), (a6, .inl (c6_, 1000, .inl gl))] H := hP
  have hD : va_D A [(aM, .inr (7, [.int co, .ref a1, .int (nI ks), .int (nI dn), .ref a2, .ref a3, .ref a4, .ref a5, .ref a6, .int (nI xa), .int ri, .int fa, .int fq, .int bg, .long tm, .int ka, .long kb, .int va, .long vb])), (a3, .inl (c3_, 1000, .inl gkb)), (a5, .inl (c5_, 1000, .inl gvb)), (a6, .inl (c6_, 1000, .inl gl))] := hD
  refine lv_iadd hx hb dc_M_body_28 ?_
  refine lv_aload_n hx hb dc_M_body_29 rfl (lv_at hl 0 rfl) ?_
  refine va_get (D := (dC, dI)) (ci := 7) (v := .ref a5) (C := rn_M) (T := ft_M) (N := 19) hx hb hts fw_M hown hK hP 0 rfl rfl 7 (by decide) (hts _ bw3_166) (fun _ h9 => h9) rfl dc_M_body_30 ?_
  refine lv_iload_n hx hb dc_M_body_33 rfl (lv_at hl 1 rfl) ?_
  refine va_iald hx hb hK hP 2 1 rfl rfl (vp_in_nI (by omega) (by omega)) dc_M_body_34 ?_
  rw [show (nI j).toNatClampNeg = j from nI_clamp (by omega)]
  refine lv_i2l (v := (gvb j).toInt64) hx hb dc_M_body_35 rfl ?_
  refine kc_i (wc := []) (wr := [(aM, .inr (7, [.int co, .ref a1, .int (nI ks), .int (nI dn), .ref a2, .ref a3, .ref a4, .ref a5, .ref a6, .int (nI xa), .int ri, .int fa, .int fq, .int bg, .long tm, .int ka, .long kb, .int va, .long vb])), (a3, .inl (c3_, 1000, .inl gkb)), (a5, .inl (c5_, 1000, .inl gvb)), (a6, .inl (c6_, 1000, .inl gl))]) hP hD hS hA [] [0, 1, 2, 3] rfl rfl (by decide) (by decide) (va_runS (As := [.long ((gvb j).toInt64)]) (rest := [.int (((2 + (nI (vN (gl j)))) + (nI (vN (nI j)))) + (nI (vN (gkb j))))]) ⟨hx, hb, hml, hown, hts⟩ (c_M_width l dC dI _ (gvb j) (hd.2.2.1)) (kw_S 1 hts bw4_38 bw4_39 bw1_9 bw4_40 rfl rfl (by decide +kernel) ⟨Nat.le_of_ble_eq_true rfl, Nat.le_of_ble_eq_true rfl⟩) (kp_S (wc := []) (tc := []) (av := [.long ((gvb j).toInt64)]) hG hS hA hP hD hK [] rfl (by decide) rfl [] rfl) rfl rfl hl.1 rfl (lv_room (Nat.le_of_ble_eq_true rfl)) dc_M_body_36 ⟨Nat.zero_le _, Nat.zero_le _⟩) (fun r_4 _ H locs hw hP hD hK1 hS => ?_)
  have hw : nI (vN (gvb j)) = r_4 := hw.symm
  subst hw
  have hP : va_P (dC, dI) vwCl [(aM, .inr (7, [.int co, .ref a1, .int (nI ks), .int (nI dn), .ref a2, .ref a3, .ref a4, .ref a5, .ref a6, .int (nI xa), .int ri, .int fa, .int fq, .int bg, .long tm, .int ka, .long kb, .int va, .long vb])), (a3, .inl (c3_, 1000, .inl gkb)), (a5, .inl (c5_, 1000, .inl gvb)), (a6, .inl (c6_, 1000, .inl gl))] H := hP
  have hD : va_D A [(aM, .inr (7, [.int co, .ref a1, .int (nI ks), .int (nI dn), .ref a2, .ref a3, .ref a4, .ref a5, .ref a6, .int (nI xa), .int ri, .int fa, .int fq, .int bg, .long tm, .int ka, .long kb, .int va, .long vb])), (a3, .inl (c3_, 1000, .inl gkb)), (a5, .inl (c5_, 1000, .inl gvb)), (a6, .inl (c6_, 1000, .inl gl))] := hD
  refine lv_iadd hx hb dc_M_body_39 ?_
  refine lv_istore_n (lv' := [(2, .int ((((2 + (nI (vN (gl j)))) + (nI (vN (nI j)))) + (nI (vN (gkb j)))) + (nI (vN (gvb j))))), (0, .ref aM), (1, .int (nI j))]) hx hb dc_M_body_40 rfl hl (by decide) rfl (fun ls hl => ?_)
  refine lv_iload_n hx hb dc_M_body_41 rfl (lv_at hl 0 rfl) ?_
  refine lv_aload_n hx hb dc_M_body_42 rfl (lv_at hl 1 rfl) ?_
  refine va_get (D := (dC, dI)) (ci := 7) (v := .ref a3) (C := rn_M) (T := ft_M) (N := 19) hx hb hts fw_M hown hK hP 0 rfl rfl 5 (by decide) (hts _ bw3_164) (fun _ h9 => h9) rfl dc_M_body_43 ?_
  refine lv_iload_n hx hb dc_M_body_46 rfl (lv_at hl 2 rfl) ?_
  refine va_iald hx hb hK hP 1 0 rfl rfl (vp_in_nI (by omega) (by omega)) dc_M_body_47 ?_
  rw [show (nI j).toNatClampNeg = j from nI_clamp (by omega)]
  refine w_join (σ := Int32) (fun v61_0 H locs ls => v61_0 = (if (gkb j) ≤ 0 then 0 else gkb j) ∧ va_P (dC, dI) vwCl [(aM, .inr (7, [.int co, .ref a1, .int (nI ks), .int (nI dn), .ref a2, .ref a3, .ref a4, .ref a5, .ref a6, .int (nI xa), .int ri, .int fa, .int fq, .int bg, .long tm, .int ka, .long kb, .int va, .long vb])), (a3, .inl (c3_, 1000, .inl gkb)), (a5, .inl (c5_, 1000, .inl gvb)), (a6, .inl (c6_, 1000, .inl gl))] H ∧ va_D A [(aM, .inr (7, [.int co, .ref a1, .int (nI ks), .int (nI dn), .ref a2, .ref a3, .ref a4, .ref a5, .ref a6, .int (nI xa), .int ri, .int fa, .int fq, .int bg, .long tm, .int ka, .long kb, .int va, .long vb])), (a3, .inl (c3_, 1000, .inl gkb)), (a5, .inl (c5_, 1000, .inl gvb)), (a6, .inl (c6_, 1000, .inl gl))] ∧ va_S A s.heap H locs ∧ lv_has ls 3 [(2, .int ((((2 + (nI (vN (gl j)))) + (nI (vN (nI j)))) + (nI (vN (gkb j)))) + (nI (vN (gvb j))))), (0, .ref aM), (1, .int (nI j))]) (fun v61_0 ls => F0 m 61 ls [.int v61_0, .int ((((2 + (nI (vN (gl j)))) + (nI (vN (nI j)))) + (nI (vN (gkb j)))) + (nI (vN (gvb j))))]) ?_ (fun hJ61 => ?_)
  · rintro v61_0 H locs ls ⟨ev61_0, hP, hD, hS, hl⟩
    have hP : va_P (dC, dI) vwCl [(aM, .inr (7, [.int co, .ref a1, .int (nI ks), .int (nI dn), .ref a2, .ref a3, .ref a4, .ref a5, .ref a6, .int (nI xa), .int ri, .int fa, .int fq, .int bg, .long tm, .int ka, .long kb, .int va, .long vb])), (a3, .inl (c3_, 1000, .inl gkb)), (a5, .inl (c5_, 1000, .inl gvb)), (a6, .inl (c6_, 1000, .inl gl))] H := hP
    have hD : va_D A [(aM, .inr (7, [.int co, .ref a1, .int (nI ks), .int (nI dn), .ref a2, .ref a3, .ref a4, .ref a5, .ref a6, .int (nI xa), .int ri, .int fa, .int fq, .int bg, .long tm, .int ka, .long kb, .int va, .long vb])), (a3, .inl (c3_, 1000, .inl gkb)), (a5, .inl (c5_, 1000, .inl gvb)), (a6, .inl (c6_, 1000, .inl gl))] := hD
    have hl : lv_has ls 3 [(2, .int ((((2 + (nI (vN (gl j)))) + (nI (vN (nI j)))) + (nI (vN (gkb j)))) + (nI (vN (gvb j))))), (0, .ref aM), (1, .int (nI j))] := hl
    show W _ _ _ _ _ _ _ _ _ _ _ _ _ _ _ (F0 m 61 ls [.int v61_0, .int ((((2 + (nI (vN (gl j)))) + (nI (vN (nI j)))) + (nI (vN (gkb j)))) + (nI (vN (gvb j))))])
    refine W.eq (g2 := F0 m 61 ls [.int (nI (gkb j).toNatClampNeg), .int ((((2 + (nI (vN (gl j)))) + (nI (vN (nI j)))) + (nI (vN (gkb j)))) + (nI (vN (gvb j))))]) (by rw [show v61_0 = (nI (gkb j).toNatClampNeg) by rw [ev61_0]; exact pOk_0 hd.1]) ?_
    refine lv_iadd hx hb dc_M_body_61 ?_
    refine lv_istore_n (lv' := [(2, .int (((((2 + (nI (vN (gl j)))) + (nI (vN (nI j)))) + (nI (vN (gkb j)))) + (nI (vN (gvb j)))) + (nI (gkb j).toNatClampNeg))), (0, .ref aM), (1, .int (nI j))]) hx hb dc_M_body_62 rfl hl (by decide) rfl (fun ls hl => ?_)
    refine lv_iload_n hx hb dc_M_body_63 rfl (lv_at hl 0 rfl) ?_
    refine lv_aload_n hx hb dc_M_body_64 rfl (lv_at hl 1 rfl) ?_
    refine va_get (D := (dC, dI)) (ci := 7) (v := .ref a5) (C := rn_M) (T := ft_M) (N := 19) hx hb hts fw_M hown hK hP 0 rfl rfl 7 (by decide) (hts _ bw3_166) (fun _ h9 => h9) rfl dc_M_body_65 ?_
    refine lv_iload_n hx hb dc_M_body_68 rfl (lv_at hl 2 rfl) ?_
    refine va_iald hx hb hK hP 2 1 rfl rfl (vp_in_nI (by omega) (by omega)) dc_M_body_69 ?_
    rw [show (nI j).toNatClampNeg = j from nI_clamp (by omega)]
    refine w_join (σ := Int32) (fun v83_0 H locs ls => v83_0 = (if (gvb j) ≤ 0 then 0 else gvb j) ∧ va_P (dC, dI) vwCl [(aM, .inr (7, [.int co, .ref a1, .int (nI ks), .int (nI dn), .ref a2, .ref a3, .ref a4, .ref a5, .ref a6, .int (nI xa), .int ri, .int fa, .int fq, .int bg, .long tm, .int ka, .long kb, .int va, .long vb])), (a3, .inl (c3_, 1000, .inl gkb)), (a5, .inl (c5_, 1000, .inl gvb)), (a6, .inl (c6_, 1000, .inl gl))] H ∧ va_D A [(aM, .inr (7, [.int co, .ref a1, .int (nI ks), .int (nI dn), .ref a2, .ref a3, .ref a4, .ref a5, .ref a6, .int (nI xa), .int ri, .int fa, .int fq, .int bg, .long tm, .int ka, .long kb, .int va, .long vb])), (a3, .inl (c3_, 1000, .inl gkb)), (a5, .inl (c5_, 1000, .inl gvb)), (a6, .inl (c6_, 1000, .inl gl))] ∧ va_S A s.heap H locs ∧ lv_has ls 3 [(2, .int (((((2 + (nI (vN (gl j)))) + (nI (vN (nI j)))) + (nI (vN (gkb j)))) + (nI (vN (gvb j)))) + (nI (gkb j).toNatClampNeg))), (0, .ref aM), (1, .int (nI j))]) (fun v83_0 ls => F0 m 83 ls [.int v83_0, .int (((((2 + (nI (vN (gl j)))) + (nI (vN (nI j)))) + (nI (vN (gkb j)))) + (nI (vN (gvb j)))) + (nI (gkb j).toNatClampNeg))]) ?_ (fun hJ83 => ?_)
    · rintro v83_0 H locs ls ⟨ev83_0, hP, hD, hS, hl⟩
      have hP : va_P (dC, dI) vwCl [(aM, .inr (7, [.int co, .ref a1, .int (nI ks), .int (nI dn), .ref a2, .ref a3, .ref a4, .ref a5, .ref a6, .int (nI xa), .int ri, .int fa, .int fq, .int bg, .long tm, .int ka, .long kb, .int va, .long vb])), (a3, .inl (c3_, 1000, .inl gkb)), (a5, .inl (c5_, 1000, .inl gvb)), (a6, .inl (c6_, 1000, .inl gl))] H := hP
      have hD : va_D A [(aM, .inr (7, [.int co, .ref a1, .int (nI ks), .int (nI dn), .ref a2, .ref a3, .ref a4, .ref a5, .ref a6, .int (nI xa), .int ri, .int fa, .int fq, .int bg, .long tm, .int ka, .long kb, .int va, .long vb])), (a3, .inl (c3_, 1000, .inl gkb)), (a5, .inl (c5_, 1000, .inl gvb)), (a6, .inl (c6_, 1000, .inl gl))] := hD
      have hl : lv_has ls 3 [(2, .int (((((2 + (nI (vN (gl j)))) + (nI (vN (nI j)))) + (nI (vN (gkb j)))) + (nI (vN (gvb j)))) + (nI (gkb j).toNatClampNeg))), (0, .ref aM), (1, .int (nI j))] := hl
      show W _ _ _ _ _ _ _ _ _ _ _ _ _ _ _ (F0 m 83 ls [.int v83_0, .int (((((2 + (nI (vN (gl j)))) + (nI (vN (nI j)))) + (nI (vN (gkb j)))) + (nI (vN (gvb j)))) + (nI (gkb j).toNatClampNeg))])
      refine W.eq (g2 := F0 m 83 ls [.int (nI (gvb j).toNatClampNeg), .int (((((2 + (nI (vN (gl j)))) + (nI (vN (nI j)))) + (nI (vN (gkb j)))) + (nI (vN (gvb j)))) + (nI (gkb j).toNatClampNeg))]) (by rw [show v83_0 = (nI (gvb j).toNatClampNeg) by rw [ev83_0]; exact pOk_0 hd.2.2.1]) ?_
      refine lv_iadd hx hb dc_M_body_83 ?_
      have hP9 := hP.sub (ws' := [(aM, .inr (7, [.int co, .ref a1, .int (nI ks), .int (nI dn), .ref a2, .ref a3, .ref a4, .ref a5, .ref a6, .int (nI xa), .int ri, .int fa, .int fq, .int bg, .long tm, .int ka, .long kb, .int va, .long vb])), (a3, .inl (c3_, 1000, .inl gkb)), (a5, .inl (c5_, 1000, .inl gvb)), (a6, .inl (c6_, 1000, .inl gl))]) [0, 1, 2, 3] rfl
      have hD9 := hD.sub (ws' := [(aM, .inr (7, [.int co, .ref a1, .int (nI ks), .int (nI dn), .ref a2, .ref a3, .ref a4, .ref a5, .ref a6, .int (nI xa), .int ri, .int fa, .int fq, .int bg, .long tm, .int ka, .long kb, .int va, .long vb])), (a3, .inl (c3_, 1000, .inl gkb)), (a5, .inl (c5_, 1000, .inl gvb)), (a6, .inl (c6_, 1000, .inl gl))]) [0, 1, 2, 3] (by decide) rfl
      have hK9 := hK.sub (tys' := [(c3_, .int), (c5_, .int), (c6_, .int)]) [0, 1, 2] rfl
      exact W.iret (v := ((((((2 + (nI (vN (gl j)))) + (nI (vN (nI j)))) + (nI (vN (gkb j)))) + (nI (vN (gvb j)))) + (nI (gkb j).toNatClampNeg)) + (nI (gvb j).toNatClampNeg))) hx hb hr (fun t ht hW => ⟨⟨((((((2 + (nI (vN (gl j)))) + (nI (vN (nI j)))) + (nI (vN (gkb j)))) + (nI (vN (gvb j)))) + (nI (gkb j).toNatClampNeg)) + (nI (gvb j).toNatClampNeg)), (), rfl, by unfold bdN; rw [show (2 : Int32) = nI 2 from rfl]; simp only [nI_add], by rw [ht]; exact hP9, va_K.moved hW.alike hK9, hD9⟩, hS.F ht⟩) hS.2.2 dc_M_body_84
    · refine lv_if_le (tgt := 82) hx hb dc_M_body_70 (by decide) (fun c_5 => ?_) (fun c_5 => ?_)
      · refine lv_iconst (v := 0) hx hb dc_M_body_82 (by decide) ?_
        exact hJ83 0 _ _ _ ⟨by rw [if_pos c_5], hP.sub [0, 1, 2, 3] rfl, hD.sub [0, 1, 2, 3] (by decide) rfl, hS, lv_sub hl [0, 1, 2] rfl⟩
      · refine lv_aload_n hx hb dc_M_body_73 rfl (lv_at hl 1 rfl) ?_
        refine va_get (D := (dC, dI)) (ci := 7) (v := .ref a5) (C := rn_M) (T := ft_M) (N := 19) hx hb hts fw_M hown hK hP 0 rfl rfl 7 (by decide) (hts _ bw3_166) (fun _ h9 => h9) rfl dc_M_body_74 ?_
        refine lv_iload_n hx hb dc_M_body_77 rfl (lv_at hl 2 rfl) ?_
        refine va_iald hx hb hK hP 2 1 rfl rfl (vp_in_nI (by omega) (by omega)) dc_M_body_78 ?_
        rw [show (nI j).toNatClampNeg = j from nI_clamp (by omega)]
        refine lv_goto (tgt := 83) hx hb dc_M_body_79 (by decide) ?_
        exact hJ83 (gvb j) _ _ _ ⟨by rw [if_neg c_5], hP.sub [0, 1, 2, 3] rfl, hD.sub [0, 1, 2, 3] (by decide) rfl, hS, lv_sub hl [0, 1, 2] rfl⟩
  · refine lv_if_le (tgt := 60) hx hb dc_M_body_48 (by decide) (fun c_6 => ?_) (fun c_6 => ?_)
    · refine lv_iconst (v := 0) hx hb dc_M_body_60 (by decide) ?_
      exact hJ61 0 _ _ _ ⟨by rw [if_pos c_6], hP.sub [0, 1, 2, 3] rfl, hD.sub [0, 1, 2, 3] (by decide) rfl, hS, lv_sub hl [0, 1, 2] rfl⟩
    · refine lv_aload_n hx hb dc_M_body_51 rfl (lv_at hl 1 rfl) ?_
      refine va_get (D := (dC, dI)) (ci := 7) (v := .ref a3) (C := rn_M) (T := ft_M) (N := 19) hx hb hts fw_M hown hK hP 0 rfl rfl 5 (by decide) (hts _ bw3_164) (fun _ h9 => h9) rfl dc_M_body_52 ?_
      refine lv_iload_n hx hb dc_M_body_55 rfl (lv_at hl 2 rfl) ?_
      refine va_iald hx hb hK hP 1 0 rfl rfl (vp_in_nI (by omega) (by omega)) dc_M_body_56 ?_
      rw [show (nI j).toNatClampNeg = j from nI_clamp (by omega)]
      refine lv_goto (tgt := 61) hx hb dc_M_body_57 (by decide) ?_
      exact hJ61 (gkb j) _ _ _ ⟨by rw [if_neg c_6], hP.sub [0, 1, 2, 3] rfl, hD.sub [0, 1, 2, 3] (by decide) rfl, hS, lv_sub hl [0, 1, 2] rfl⟩

set_option maxHeartbeats 1000000 in
set_option maxRecDepth 100000 in
theorem c_M_weight (l : Launch) (dC : Nat → ClassId) (dI : Nat → Nat → Nat) (sz : Nat) (aM : Nat) (co : Int32) (a1 : Nat) (ks : Nat) (dn : Nat) (a2 : Nat) (a3 : Nat) (a4 : Nat) (a5 : Nat) (a6 : Nat) (xa : Nat) (ri : Int32) (fa : Int32) (fq : Int32) (bg : Int32) (tm : Int64) (ka : Int32) (kb : Int64) (va : Int32) (vb : Int64) (c3_ : ClassId) (c5_ : ClassId) (c6_ : ClassId) (gkb : Nat → Int32) (gvb : Nat → Int32) (gl : Nat → Int32) (hdn : dn ≤ 1000) (hd : ∀ j, j < dn → dOk (gkb j) (gvb j) (gl j)) : Met l my_M_weight (wB my_M_weight cd_M_weight 3 (some .int)) ({ frames := 2, cells := 0, slots := 0, locals := 46 }) (va_Pc [.ref aM] (PcW (dC, dI) [(aM, .inr (7, [.int co, .ref a1, .int (nI ks), .int (nI dn), .ref a2, .ref a3, .ref a4, .ref a5, .ref a6, .int (nI xa), .int ri, .int fa, .int fq, .int bg, .long tm, .int ka, .long kb, .int va, .long vb])), (a3, .inl (c3_, 1000, .inl gkb)), (a5, .inl (c5_, 1000, .inl gvb)), (a6, .inl (c6_, 1000, .inl gl))] [(c3_, .int), (c5_, .int), (c6_, .int)] sz)) (va_Qi (fun (r : Int32) => fun (_ : Unit) => r = nI (wtN gkb gvb gl dn)) (fun _ => EnW (dC, dI) (va_A [(aM, .inr (7, [.int co, .ref a1, .int (nI ks), .int (nI dn), .ref a2, .ref a3, .ref a4, .ref a5, .ref a6, .int (nI xa), .int ri, .int fa, .int fq, .int bg, .long tm, .int ka, .long kb, .int va, .long vb])), (a3, .inl (c3_, 1000, .inl gkb)), (a5, .inl (c5_, 1000, .inl gvb)), (a6, .inl (c6_, 1000, .inl gl))] sz) [(aM, .inr (7, [.int co, .ref a1, .int (nI ks), .int (nI dn), .ref a2, .ref a3, .ref a4, .ref a5, .ref a6, .int (nI xa), .int ri, .int fa, .int fq, .int bg, .long tm, .int ka, .long kb, .int va, .long vb])), (a3, .inl (c3_, 1000, .inl gkb)), (a5, .inl (c5_, 1000, .inl gvb)), (a6, .inl (c6_, 1000, .inl gl))] [(c3_, .int), (c5_, .int), (c6_, .int)]) (va_A [(aM, .inr (7, [.int co, .ref a1, .int (nI ks), .int (nI dn), .ref a2, .ref a3, .ref a4, .ref a5, .ref a6, .int (nI xa), .int ri, .int fa, .int fq, .int bg, .long tm, .int ka, .long kb, .int va, .long vb])), (a3, .inl (c3_, 1000, .inl gkb)), (a5, .inl (c5_, 1000, .inl gvb)), (a6, .inl (c6_, 1000, .inl gl))] sz)) 0 0 (va_A [(aM, .inr (7, [.int co, .ref a1, .int (nI ks), .int (nI dn), .ref a2, .ref a3, .ref a4, .ref a5, .ref a6, .int (nI xa), .int ri, .int fa, .int fq, .int bg, .long tm, .int ka, .long kb, .int va, .long vb])), (a3, .inl (c3_, 1000, .inl gkb)), (a5, .inl (c5_, 1000, .inl gvb)), (a6, .inl (c6_, 1000, .inl gl))] sz) := by
  refine Met.ofW (cc := cd_M_weight) (maxL := 3) (ret := (some .int)) (by decide) rfl ?_
  intro p e s m args below meth c s₁ B hml hv
  obtain ⟨rfl, hsz, hP, hK, hD0, hG⟩ := hv
  have hx := B.exec
  have hb := B.bytes
  have hr := B.returns
  have hts := fun (w : Cond) (h : w ∈ bigT) => atoms_spec (ws := (wB my_M_weight cd_M_weight 3 (some .int))) B.pre w (List.mem_cons_of_mem _ h)
  have hown : s.vm.findClass rn_M = some m.cls := findClass_of_methodNamed B.named
  have hlocks := B.notSynchronized
  subst hsz
  have hD := hD0.self (sz := s.heap.size)
  generalize hAe : va_A [(aM, .inr (7, [.int co, .ref a1, .int (nI ks), .int (nI dn), .ref a2, .ref a3, .ref a4, .ref a5, .ref a6, .int (nI xa), .int ri, .int fa, .int fq, .int bg, .long tm, .int ka, .long kb, .int va, .long vb])), (a3, .inl (c3_, 1000, .inl gkb)), (a5, .inl (c5_, 1000, .inl gvb)), (a6, .inl (c6_, 1000, .inl gl))] s.heap.size = A at hD hG ⊢
  have hA : ∀ q : Nat, s.heap.size ≤ q → A q := fun q h => by rw [← hAe]; exact Or.inr h
  have hS : va_S A s.heap s.heap [] := va_S.rf
  have hP : va_P (dC, dI) vwCl [(aM, .inr (7, [.int co, .ref a1, .int (nI ks), .int (nI dn), .ref a2, .ref a3, .ref a4, .ref a5, .ref a6, .int (nI xa), .int ri, .int fa, .int fq, .int bg, .long tm, .int ka, .long kb, .int va, .long vb])), (a3, .inl (c3_, 1000, .inl gkb)), (a5, .inl (c5_, 1000, .inl gvb)), (a6, .inl (c6_, 1000, .inl gl))] s.heap := hP
  have hl := lv_entry ([.ref aM]) (n := 3) (Nat.le_of_ble_eq_true rfl)
  rw [lg_entry_eq]
  generalize (lg_sl ([.ref aM]) ++ List.replicate (3 - (lg_sl ([.ref aM])).length) Slot.unset).toArray = ls at hl ⊢
  have hl : lv_has ls 3 [(0, .ref aM)] := hl
  refine lv_iconst (v := 0) hx hb dc_M_weight_0 (by decide) ?_
  refine lv_istore_n (lv' := [(1, .int 0), (0, .ref aM)]) hx hb dc_M_weight_1 rfl hl (by decide) rfl (fun ls hl => ?_)
  refine lv_iconst (v := 0) hx hb dc_M_weight_2 (by decide) ?_
  refine lv_istore_n (lv' := [(2, .int 0), (1, .int 0), (0, .ref aM)]) hx hb dc_M_weight_3 rfl hl (by decide) rfl (fun ls hl => ?_)
  have e_1 : 0 = (nI (wtN gkb gvb gl 0)) := by rfl
  have hl := wL_eq (lv' := [(2, .int (nI 0)), (1, .int (nI (wtN gkb gvb gl 0))), (0, .ref aM)]) hl (cg1 (fun y0 => ([(2, .int (nI 0)), (1, .int y0), (0, .ref aM)] : List (Nat × Value))) e_1)
  refine w_loop (σ := Nat) (fun i H locs ls => i ≤ dn ∧ va_P (dC, dI) vwCl [(aM, .inr (7, [.int co, .ref a1, .int (nI ks), .int (nI dn), .ref a2, .ref a3, .ref a4, .ref a5, .ref a6, .int (nI xa), .int ri, .int fa, .int fq, .int bg, .long tm, .int ka, .long kb, .int va, .long vb])), (a3, .inl (c3_, 1000, .inl gkb)), (a5, .inl (c5_, 1000, .inl gvb)), (a6, .inl (c6_, 1000, .inl gl))] H ∧ va_D A [(aM, .inr (7, [.int co, .ref a1, .int (nI ks), .int (nI dn), .ref a2, .ref a3, .ref a4, .ref a5, .ref a6, .int (nI xa), .int ri, .int fa, .int fq, .int bg, .long tm, .int ka, .long kb, .int va, .long vb])), (a3, .inl (c3_, 1000, .inl gkb)), (a5, .inl (c5_, 1000, .inl gvb)), (a6, .inl (c6_, 1000, .inl gl))] ∧ va_S A s.heap H locs ∧ lv_has ls 3 [(2, .int (nI i)), (1, .int (nI (wtN gkb gvb gl i))), (0, .ref aM)]) (fun i ls => F0 m 4 ls []) (fun _ => 0) (fun _ => 0) (fun i => dn - i) ?_ 0 _ _ _ ⟨by show 0 ≤ dn; omega, hP.sub [0, 1, 2, 3] rfl, hD.sub [0, 1, 2, 3] (by decide) rfl, hS, lv_sub hl [0, 1, 2] rfl⟩
  rintro i H locs ls ⟨hi, hP, hD, hS, hl⟩ ih4
  have hP : va_P (dC, dI) vwCl [(aM, .inr (7, [.int co, .ref a1, .int (nI ks), .int (nI dn), .ref a2, .ref a3, .ref a4, .ref a5, .ref a6, .int (nI xa), .int ri, .int fa, .int fq, .int bg, .long tm, .int ka, .long kb, .int va, .long vb])), (a3, .inl (c3_, 1000, .inl gkb)), (a5, .inl (c5_, 1000, .inl gvb)), (a6, .inl (c6_, 1000, .inl gl))] H := hP
  have hD : va_D A [(aM, .inr (7, [.int co, .ref a1, .int (nI ks), .int (nI dn), .ref a2, .ref a3, .ref a4, .ref a5, .ref a6, .int (nI xa), .int ri, .int fa, .int fq, .int bg, .long tm, .int ka, .long kb, .int va, .long vb])), (a3, .inl (c3_, 1000, .inl gkb)), (a5, .inl (c5_, 1000, .inl gvb)), (a6, .inl (c6_, 1000, .inl gl))] := hD
  have hl : lv_has ls 3 [(2, .int (nI i)), (1, .int (nI (wtN gkb gvb gl i))), (0, .ref aM)] := hl
  show W _ _ _ _ _ _ _ _ _ _ _ _ _ _ _ (F0 m 4 ls [])
  have hi : i ≤ dn := hi
  refine lv_iload_n hx hb dc_M_weight_4 rfl (lv_at hl 0 rfl) ?_
  refine lv_aload_n hx hb dc_M_weight_5 rfl (lv_at hl 2 rfl) ?_
  refine va_get (D := (dC, dI)) (ci := 7) (v := .int (nI dn)) (C := rn_M) (T := ft_M) (N := 19) hx hb hts fw_M hown hK hP 0 rfl rfl 3 (by decide) (hts _ bw3_162) (fun _ h9 => h9) rfl dc_M_weight_6 ?_
  refine lv_icmp_ge (tgt := 36) hx hb dc_M_weight_9 (by decide) (fun c_2 => ?_) (fun c_2 => ?_)
  · have hij : i = dn := by have := (nI_leI (by omega) (by omega)).mp c_2; omega
    refine lv_iload_n hx hb dc_M_weight_36 rfl (lv_at hl 1 rfl) ?_
    have hP9 := hP.sub (ws' := [(aM, .inr (7, [.int co, .ref a1, .int (nI ks), .int (nI dn), .ref a2, .ref a3, .ref a4, .ref a5, .ref a6, .int (nI xa), .int ri, .int fa, .int fq, .int bg, .long tm, .int ka, .long kb, .int va, .long vb])), (a3, .inl (c3_, 1000, .inl gkb)), (a5, .inl (c5_, 1000, .inl gvb)), (a6, .inl (c6_, 1000, .inl gl))]) [0, 1, 2, 3] rfl
    have hD9 := hD.sub (ws' := [(aM, .inr (7, [.int co, .ref a1, .int (nI ks), .int (nI dn), .ref a2, .ref a3, .ref a4, .ref a5, .ref a6, .int (nI xa), .int ri, .int fa, .int fq, .int bg, .long tm, .int ka, .long kb, .int va, .long vb])), (a3, .inl (c3_, 1000, .inl gkb)), (a5, .inl (c5_, 1000, .inl gvb)), (a6, .inl (c6_, 1000, .inl gl))]) [0, 1, 2, 3] (by decide) rfl
    have hK9 := hK.sub (tys' := [(c3_, .int), (c5_, .int), (c6_, .int)]) [0, 1, 2] rfl
    exact W.iret (v := (nI (wtN gkb gvb gl i))) hx hb hr (fun t ht hW => ⟨⟨(nI (wtN gkb gvb gl i)), (), rfl, by rw [hij], by rw [ht]; exact hP9, va_K.moved hW.alike hK9, hD9⟩, hS.F ht⟩) hS.2.2 dc_M_weight_37
  · have hlt : i < dn := by rcases Nat.lt_or_ge i dn with h | h; exact h; exact absurd (nI_le h (by omega)) c_2
    have hbl := bdN_le (j := i) (hd i hlt)
    refine lv_iload_n hx hb dc_M_weight_12 rfl (lv_at hl 1 rfl) ?_
    refine lv_aload_n hx hb dc_M_weight_13 rfl (lv_at hl 2 rfl) ?_
    refine lv_iload_n hx hb dc_M_weight_14 rfl (lv_at hl 0 rfl) ?_
    refine kc_i (wc := [(aM, .inr (7, [.int co, .ref a1, .int (nI ks), .int (nI dn), .ref a2, .ref a3, .ref a4, .ref a5, .ref a6, .int (nI xa), .int ri, .int fa, .int fq, .int bg, .long tm, .int ka, .long kb, .int va, .long vb])), (a3, .inl (c3_, 1000, .inl gkb)), (a5, .inl (c5_, 1000, .inl gvb)), (a6, .inl (c6_, 1000, .inl gl))]) (wr := []) hP hD hS hA [0, 1, 2, 3] [] rfl rfl (by decide) (by decide) (va_runV (As := [.int (nI i)]) (rest := [.int (nI (wtN gkb gvb gl i))]) ⟨hx, hb, hml, hown, hts⟩ (c_M_body l dC dI _ aM co a1 ks dn a2 a3 a4 a5 a6 xa ri fa fq bg tm ka kb va vb c3_ c5_ c6_ gkb gvb gl i (by omega) (hd i hlt)) (kw_V 1 hts bw4_34 bw4_36 bws_17 bw1_9 bw4_37 rfl rfl (by decide +kernel) ⟨Nat.le_of_ble_eq_true rfl, Nat.le_of_ble_eq_true rfl⟩) (kp_V (wc := [(aM, .inr (7, [.int co, .ref a1, .int (nI ks), .int (nI dn), .ref a2, .ref a3, .ref a4, .ref a5, .ref a6, .int (nI xa), .int ri, .int fa, .int fq, .int bg, .long tm, .int ka, .long kb, .int va, .long vb])), (a3, .inl (c3_, 1000, .inl gkb)), (a5, .inl (c5_, 1000, .inl gvb)), (a6, .inl (c6_, 1000, .inl gl))]) (tc := [(c3_, .int), (c5_, .int), (c6_, .int)]) (As := [.int (nI i)]) hG hS hA hP hD hK [0, 1, 2, 3] rfl (by decide) rfl [0, 1, 2] rfl (ci := 7) (q0 := 0) rfl rfl) rfl rfl hl.1 rfl (lv_room (Nat.le_of_ble_eq_true rfl)) dc_M_weight_15 ⟨Nat.zero_le _, Nat.zero_le _⟩) (fun r_3 _ H locs hw hP hD hK1 hS => ?_)
    have hw : nI (bdN (gkb i) (gvb i) (gl i) i) = r_3 := hw.symm
    subst hw
    have hP : va_P (dC, dI) vwCl [(aM, .inr (7, [.int co, .ref a1, .int (nI ks), .int (nI dn), .ref a2, .ref a3, .ref a4, .ref a5, .ref a6, .int (nI xa), .int ri, .int fa, .int fq, .int bg, .long tm, .int ka, .long kb, .int va, .long vb])), (a3, .inl (c3_, 1000, .inl gkb)), (a5, .inl (c5_, 1000, .inl gvb)), (a6, .inl (c6_, 1000, .inl gl))] H := hP
    have hD : va_D A [(aM, .inr (7, [.int co, .ref a1, .int (nI ks), .int (nI dn), .ref a2, .ref a3, .ref a4, .ref a5, .ref a6, .int (nI xa), .int ri, .int fa, .int fq, .int bg, .long tm, .int ka, .long kb, .int va, .long vb])), (a3, .inl (c3_, 1000, .inl gkb)), (a5, .inl (c5_, 1000, .inl gvb)), (a6, .inl (c6_, 1000, .inl gl))] := hD
    refine lv_i2l (v := (nI (bdN (gkb i) (gvb i) (gl i) i)).toInt64) hx hb dc_M_weight_18 rfl ?_
    refine kc_i (wc := []) (wr := [(aM, .inr (7, [.int co, .ref a1, .int (nI ks), .int (nI dn), .ref a2, .ref a3, .ref a4, .ref a5, .ref a6, .int (nI xa), .int ri, .int fa, .int fq, .int bg, .long tm, .int ka, .long kb, .int va, .long vb])), (a3, .inl (c3_, 1000, .inl gkb)), (a5, .inl (c5_, 1000, .inl gvb)), (a6, .inl (c6_, 1000, .inl gl))]) hP hD hS hA [] [0, 1, 2, 3] rfl rfl (by decide) (by decide) (va_runS (As := [.long ((nI (bdN (gkb i) (gvb i) (gl i) i)).toInt64)]) (rest := [.int (nI (wtN gkb gvb gl i))]) ⟨hx, hb, hml, hown, hts⟩ (c_M_width l dC dI _ (nI (bdN (gkb i) (gvb i) (gl i) i)) (pOk_n (by omega))) (kw_S 1 hts bw4_38 bw4_39 bw1_9 bw4_40 rfl rfl (by decide +kernel) ⟨Nat.le_of_ble_eq_true rfl, Nat.le_of_ble_eq_true rfl⟩) (kp_S (wc := []) (tc := []) (av := [.long ((nI (bdN (gkb i) (gvb i) (gl i) i)).toInt64)]) hG hS hA hP hD hK [] rfl (by decide) rfl [] rfl) rfl rfl hl.1 rfl (lv_room (Nat.le_of_ble_eq_true rfl)) dc_M_weight_19 ⟨Nat.zero_le _, Nat.zero_le _⟩) (fun r_4 _ H locs hw hP hD hK1 hS => ?_)
    have hw : nI (vN (nI (bdN (gkb i) (gvb i) (gl i) i))) = r_4 := hw.symm
    subst hw
    have hP : va_P (dC, dI) vwCl [(aM, .inr (7, [.int co, .ref a1, .int (nI ks), .int (nI dn), .ref a2, .ref a3, .ref a4, .ref a5, .ref a6, .int (nI xa), .int ri, .int fa, .int fq, .int bg, .long tm, .int ka, .long kb, .int va, .long vb])), (a3, .inl (c3_, 1000, .inl gkb)), (a5, .inl (c5_, 1000, .inl gvb)), (a6, .inl (c6_, 1000, .inl gl))] H := hP
    have hD : va_D A [(aM, .inr (7, [.int co, .ref a1, .int (nI ks), .int (nI dn), .ref a2, .ref a3, .ref a4, .ref a5, .ref a6, .int (nI xa), .int ri, .int fa, .int fq, .int bg, .long tm, .int ka, .long kb, .int va, .long vb])), (a3, .inl (c3_, 1000, .inl gkb)), (a5, .inl (c5_, 1000, .inl gvb)), (a6, .inl (c6_, 1000, .inl gl))] := hD
    refine lv_aload_n hx hb dc_M_weight_22 rfl (lv_at hl 2 rfl) ?_
    refine lv_iload_n hx hb dc_M_weight_23 rfl (lv_at hl 0 rfl) ?_
    refine kc_i (wc := [(aM, .inr (7, [.int co, .ref a1, .int (nI ks), .int (nI dn), .ref a2, .ref a3, .ref a4, .ref a5, .ref a6, .int (nI xa), .int ri, .int fa, .int fq, .int bg, .long tm, .int ka, .long kb, .int va, .long vb])), (a3, .inl (c3_, 1000, .inl gkb)), (a5, .inl (c5_, 1000, .inl gvb)), (a6, .inl (c6_, 1000, .inl gl))]) (wr := []) hP hD hS hA [0, 1, 2, 3] [] rfl rfl (by decide) (by decide) (va_runV (As := [.int (nI i)]) (rest := [.int (nI (vN (nI (bdN (gkb i) (gvb i) (gl i) i)))), .int (nI (wtN gkb gvb gl i))]) ⟨hx, hb, hml, hown, hts⟩ (c_M_body l dC dI _ aM co a1 ks dn a2 a3 a4 a5 a6 xa ri fa fq bg tm ka kb va vb c3_ c5_ c6_ gkb gvb gl i (by omega) (hd i hlt)) (kw_V 1 hts bw4_34 bw4_36 bws_17 bw1_9 bw4_37 rfl rfl (by decide +kernel) ⟨Nat.le_of_ble_eq_true rfl, Nat.le_of_ble_eq_true rfl⟩) (kp_V (wc := [(aM, .inr (7, [.int co, .ref a1, .int (nI ks), .int (nI dn), .ref a2, .ref a3, .ref a4, .ref a5, .ref a6, .int (nI xa), .int ri, .int fa, .int fq, .int bg, .long tm, .int ka, .long kb, .int va, .long vb])), (a3, .inl (c3_, 1000, .inl gkb)), (a5, .inl (c5_, 1000, .inl gvb)), (a6, .inl (c6_, 1000, .inl gl))]) (tc := [(c3_, .int), (c5_, .int), (c6_, .int)]) (As := [.int (nI i)]) hG hS hA hP hD hK [0, 1, 2, 3] rfl (by decide) rfl [0, 1, 2] rfl (ci := 7) (q0 := 0) rfl rfl) rfl rfl hl.1 rfl (lv_room (Nat.le_of_ble_eq_true rfl)) dc_M_weight_24 ⟨Nat.zero_le _, Nat.zero_le _⟩) (fun r_5 _ H locs hw hP hD hK1 hS => ?_)
    have hw : nI (bdN (gkb i) (gvb i) (gl i) i) = r_5 := hw.symm
    subst hw
    have hP : va_P (dC, dI) vwCl [(aM, .inr (7, [.int co, .ref a1, .int (nI ks), .int (nI dn), .ref a2, .ref a3, .ref a4, .ref a5, .ref a6, .int (nI xa), .int ri, .int fa, .int fq, .int bg, .long tm, .int ka, .long kb, .int va, .long vb])), (a3, .inl (c3_, 1000, .inl gkb)), (a5, .inl (c5_, 1000, .inl gvb)), (a6, .inl (c6_, 1000, .inl gl))] H := hP
    have hD : va_D A [(aM, .inr (7, [.int co, .ref a1, .int (nI ks), .int (nI dn), .ref a2, .ref a3, .ref a4, .ref a5, .ref a6, .int (nI xa), .int ri, .int fa, .int fq, .int bg, .long tm, .int ka, .long kb, .int va, .long vb])), (a3, .inl (c3_, 1000, .inl gkb)), (a5, .inl (c5_, 1000, .inl gvb)), (a6, .inl (c6_, 1000, .inl gl))] := hD
    refine lv_iadd hx hb dc_M_weight_27 ?_
    refine lv_iadd hx hb dc_M_weight_28 ?_
    refine lv_istore_n (lv' := [(1, .int ((nI (wtN gkb gvb gl i)) + ((nI (vN (nI (bdN (gkb i) (gvb i) (gl i) i)))) + (nI (bdN (gkb i) (gvb i) (gl i) i))))), (2, .int (nI i)), (0, .ref aM)]) hx hb dc_M_weight_29 rfl hl (by decide) rfl (fun ls hl => ?_)
    refine lv_iinc (v := ((nI i) + 1)) (lv' := [(2, .int ((nI i) + 1)), (1, .int ((nI (wtN gkb gvb gl i)) + ((nI (vN (nI (bdN (gkb i) (gvb i) (gl i) i)))) + (nI (bdN (gkb i) (gvb i) (gl i) i))))), (0, .ref aM)]) hx hb dc_M_weight_30 hl (k := 1) rfl rfl (by decide) rfl (fun ls hl => ?_)
    refine lv_goto (tgt := 4) hx hb dc_M_weight_33 (by decide) ?_
    have e_6 : ((nI i) + 1) = (nI (i + 1)) := by first | exact nI_1 _ | (simp only [nI_add]; rfl)
    have e_7 : ((nI (wtN gkb gvb gl i)) + ((nI (vN (nI (bdN (gkb i) (gvb i) (gl i) i)))) + (nI (bdN (gkb i) (gvb i) (gl i) i)))) = (nI (wtN gkb gvb gl (i + 1))) := by first | exact nI_1 _ | (simp only [nI_add]; rfl)
    have hl := wL_eq (lv' := [(2, .int (nI (i + 1))), (1, .int (nI (wtN gkb gvb gl (i + 1)))), (0, .ref aM)]) hl (cg2 (fun y0 y1 => ([(2, .int y0), (1, .int y1), (0, .ref aM)] : List (Nat × Value))) e_6 e_7)
    exact ih4 (i + 1) _ _ _ ⟨by show (i + 1) ≤ dn; omega, hP.sub [0, 1, 2, 3] rfl, hD.sub [0, 1, 2, 3] (by decide) rfl, hS, lv_sub hl [0, 1, 2] rfl⟩ (by show dn - (i + 1) < dn - i; omega)
