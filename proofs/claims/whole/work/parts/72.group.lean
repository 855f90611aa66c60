set_option maxHeartbeats 1000000 in
set_option maxRecDepth 100000 in
theorem c_T_putNumber0 (l : Launch) (dC : Nat → ClassId) (dI : Nat → Nat → Nat) (sz : Nat) (aT : Nat) (aR : Nat) (cA : ClassId) (n : Nat) (f : Nat → Int32) (k : Nat) (ch : Int32) (v : Int64) (hk : k ≤ n) (hn : n ≤ 16384) : Met l my_T_putNumber (wB my_T_putNumber cd_T_putNumber 5 none) ({ frames := 2, cells := 0, slots := 0, locals := 43 }) (va_Pc [.ref aT, .long v, .int (-1)] (PcW (dC, dI) [(aT, .inr (5, [.ref aR, .int (nI k), .int ch])), (aR, .inl (cA, n, .inl f))] [(cA, .byte)] sz)) (va_Qv (fun (_ : Unit) => True) (fun _ => EnW (dC, dI) (va_A [(aT, .inr (5, [.ref aR, .int (nI k), .int ch])), (aR, .inl (cA, n, .inl f))] sz) [(aT, .inr (5, [.ref aR, .int (nI k), .int ch])), (aR, .inl (cA, n, .inl f))] [(cA, .byte)]) (va_A [(aT, .inr (5, [.ref aR, .int (nI k), .int ch])), (aR, .inl (cA, n, .inl f))] sz)) 0 0 (va_A [(aT, .inr (5, [.ref aR, .int (nI k), .int ch])), (aR, .inl (cA, n, .inl f))] sz) := by
  refine Met.ofW (cc := cd_T_putNumber) (maxL := 5) (ret := none) (by decide) rfl ?_
  intro p e s m args below meth c s₁ B hml hv
  obtain ⟨rfl, hsz, hP, hK, hD0, hG⟩ := hv
  have hx := B.exec
  have hb := B.bytes
  have hr := B.returns
  have hts := fun (w : Cond) (h : w ∈ bigT) => atoms_spec (ws := (wB my_T_putNumber cd_T_putNumber 5 none)) B.pre w (List.mem_cons_of_mem _ h)
  have hown : s.vm.findClass rn_T = some m.cls := findClass_of_methodNamed B.named
  have hlocks := B.notSynchronized
  subst hsz
  have hD := hD0.self (sz := s.heap.size)
  generalize hAe : va_A [(aT, .inr (5, [.ref aR, .int (nI k), .int ch])), (aR, .inl (cA, n, .inl f))] s.heap.size = A at hD hG ⊢
  have hA : ∀ q : Nat, s.heap.size ≤ q → A q := fun q h => by rw [← hAe]; exact Or.inr h
  have hS : va_S A s.heap s.heap [] := va_S.rf
  have hP : va_P (dC, dI) vwCl [(aT, .inr (5, [.ref aR, .int (nI k), .int ch])), (aR, .inl (cA, n, .inl f))] s.heap := hP
  have hl := lv_entry ([.ref aT, .long v, .int (-1)]) (n := 5) (Nat.le_of_ble_eq_true rfl)
  rw [lg_entry_eq]
  generalize (lg_sl ([.ref aT, .long v, .int (-1)]) ++ List.replicate (5 - (lg_sl ([.ref aT, .long v, .int (-1)])).length) Slot.unset).toArray = ls at hl ⊢
  have hl : lv_has ls 5 [(0, .ref aT), (1, .long v), (3, .int (-1))] := hl
  refine lv_iload_n hx hb dc_T_putNumber_0 rfl (lv_at hl 2 rfl) ?_
  refine lv_iconst (v := 1) hx hb dc_T_putNumber_1 (by decide) ?_
  refine lv_isub hx hb dc_T_putNumber_2 ?_
  refine lv_istore (lv' := [(4, .int ((-1) - 1)), (0, .ref aT), (1, .long v), (3, .int (-1))]) hx hb dc_T_putNumber_3 hl (by decide) rfl (fun ls hl => ?_)
  refine w_loop (σ := Int32) (fun i H locs ls => i < 0 ∧ va_P (dC, dI) vwCl [(aT, .inr (5, [.ref aR, .int (nI k), .int ch])), (aR, .inl (cA, n, .inl f))] H ∧ va_D A [(aT, .inr (5, [.ref aR, .int (nI k), .int ch])), (aR, .inl (cA, n, .inl f))] ∧ va_S A s.heap H locs ∧ lv_has ls 5 [(4, .int i), (0, .ref aT), (1, .long v)]) (fun i ls => F0 m 5 ls []) (fun _ => 0) (fun _ => 0) (fun i => 0) ?_ ((-1) - 1) _ _ _ ⟨by show ((-1) - 1) < 0; decide, hP.sub [0, 1] rfl, hD.sub [0, 1] (by decide) rfl, hS, lv_sub hl [0, 1, 2] rfl⟩
  rintro i H locs ls ⟨hi, hP, hD, hS, hl⟩ ih5
  have hP : va_P (dC, dI) vwCl [(aT, .inr (5, [.ref aR, .int (nI k), .int ch])), (aR, .inl (cA, n, .inl f))] H := hP
  have hD : va_D A [(aT, .inr (5, [.ref aR, .int (nI k), .int ch])), (aR, .inl (cA, n, .inl f))] := hD
  have hl : lv_has ls 5 [(4, .int i), (0, .ref aT), (1, .long v)] := hl
  show W _ _ _ _ _ _ _ _ _ _ _ _ _ _ _ (F0 m 5 ls [])
  have hi : i < 0 := hi
  refine lv_iload hx hb dc_T_putNumber_5 (lv_at hl 0 rfl) ?_
  refine lv_if_lt (tgt := 28) hx hb dc_T_putNumber_7 (by decide) (fun c_1 => ?_) (fun c_1 => ?_)
  · have hP9 := hP.sub (ws' := [(aT, .inr (5, [.ref aR, .int (nI k), .int ch])), (aR, .inl (cA, n, .inl f))]) [0, 1] rfl
    have hD9 := hD.sub (ws' := [(aT, .inr (5, [.ref aR, .int (nI k), .int ch])), (aR, .inl (cA, n, .inl f))]) [0, 1] (by decide) rfl
    have hK9 := hK.sub (tys' := [(cA, .byte)]) [0] rfl
    exact W.vret hx hb hr (fun t ht hW => ⟨⟨(), rfl, trivial, by rw [ht]; exact hP9, va_K.moved hW.alike hK9, hD9⟩, hS.F ht⟩) hS.2.2 dc_T_putNumber_28
  · exact absurd (hi) c_1

set_option maxHeartbeats 1000000 in
set_option maxRecDepth 100000 in
theorem c_T_putNumberX (l : Launch) (dC : Nat → ClassId) (dI : Nat → Nat → Nat) (sz : Nat) (aT : Nat) (aR : Nat) (cA : ClassId) (n : Nat) (f : Nat → Int32) (k : Nat) (ch : Int32) (v : Int64) (xb : Int32) (hpx : pOk xb) (hk : k + xb.toNatClampNeg ≤ n) (hn : n ≤ 16384) : Met l my_T_putNumber (wB my_T_putNumber cd_T_putNumber 5 none) ({ frames := 2, cells := 0, slots := 0, locals := 43 }) (va_Pc [.ref aT, .long v, .int xb] (PcW (dC, dI) [(aT, .inr (5, [.ref aR, .int (nI k), .int ch])), (aR, .inl (cA, n, .inl f))] [(cA, .byte)] sz)) (va_Qv (fun (_ : Unit) => True) (fun _ => EnW (dC, dI) (va_A [(aT, .inr (5, [.ref aR, .int (nI k), .int ch])), (aR, .inl (cA, n, .inl f))] sz) [(aT, .inr (5, [.ref aR, .int (nI (k + xb.toNatClampNeg)), .int (if xb.toNatClampNeg = 0 then ch else 1)])), (aR, .inl (cA, n, .inl (wrB f k (numL v xb.toNatClampNeg))))] [(cA, .byte)]) (va_A [(aT, .inr (5, [.ref aR, .int (nI k), .int ch])), (aR, .inl (cA, n, .inl f))] sz)) 0 0 (va_A [(aT, .inr (5, [.ref aR, .int (nI k), .int ch])), (aR, .inl (cA, n, .inl f))] sz) := by
  rcases hpx with rfl | ⟨q, hq, rfl⟩
  · have e0 : (-1 : Int32).toNatClampNeg = 0 := by decide
    rw [e0, Nat.add_zero, numL, wrB, if_pos rfl]
    exact c_T_putNumber0 l dC dI sz aT aR cA n f k ch v (by omega) hn
  · rw [nI_clamp (by omega)] at hk ⊢
    exact c_T_putNumber l dC dI sz aT aR cA n f k ch v q hk hn

set_option maxHeartbeats 1000000 in
set_option maxRecDepth 100000 in
theorem c_T_putVarintX (l : Launch) (dC : Nat → ClassId) (dI : Nat → Nat → Nat) (sz : Nat) (aT : Nat) (aR : Nat) (cA : ClassId) (n : Nat) (f : Nat → Int32) (k : Nat) (ch : Int32) (xv : Int32) (hpx : pOk xv) (hk : k + vN xv ≤ n) (hn : n ≤ 16384) : Met l my_T_putVarint (wB my_T_putVarint cd_T_putVarint 6 none) ({ frames := 2, cells := 0, slots := 0, locals := 43 }) (va_Pc [.ref aT, .long xv.toInt64] (PcW (dC, dI) [(aT, .inr (5, [.ref aR, .int (nI k), .int ch])), (aR, .inl (cA, n, .inl f))] [(cA, .byte)] sz)) (va_Qv (fun (_ : Unit) => True) (fun _ => EnW (dC, dI) (va_A [(aT, .inr (5, [.ref aR, .int (nI k), .int ch])), (aR, .inl (cA, n, .inl f))] sz) [(aT, .inr (5, [.ref aR, .int (nI (k + vN xv)), .int 1])), (aR, .inl (cA, n, .inl (wrB f k (vL xv))))] [(cA, .byte)]) (va_A [(aT, .inr (5, [.ref aR, .int (nI k), .int ch])), (aR, .inl (cA, n, .inl f))] sz)) 0 0 (va_A [(aT, .inr (5, [.ref aR, .int (nI k), .int ch])), (aR, .inl (cA, n, .inl f))] sz) := by
  have h := c_T_putVarint l dC dI sz aT aR cA n f k ch xv.toInt64 (by rw [vL_C hpx, vL_len]; exact hk) hn
  rw [vL_C hpx, vL_len] at h
  exact h

set_option maxHeartbeats 1000000 in
set_option maxRecDepth 100000 in
theorem c_G_init (l : Launch) (dC : Nat → ClassId) (dI : Nat → Nat → Nat) (sz : Nat) (aG : Nat) (gn : Nat) (gy : Int64) (kb : Int32) (gx : Int64) (vb : Int32) (la : Int32) : Met l my_G_init (wB my_G_init cd_G_init 9 none) ({ frames := 1, cells := 0, slots := 0, locals := 12 }) (va_Pc [.ref aG, .int (nI gn), .long gy, .int kb, .long gx, .int vb, .int la] (PcW (dC, dI) [(aG, .inr (2, [.int 0, .long 0, .int 0, .long 0, .int 0, .int 0]))] [] sz)) (va_Qv (fun (_ : Unit) => True) (fun _ => EnW (dC, dI) (va_A [(aG, .inr (2, [.int 0, .long 0, .int 0, .long 0, .int 0, .int 0]))] sz) [(aG, .inr (2, [.int (nI gn), .long gy, .int kb, .long gx, .int vb, .int la]))] []) (va_A [(aG, .inr (2, [.int 0, .long 0, .int 0, .long 0, .int 0, .int 0]))] sz)) 0 0 (va_A [(aG, .inr (2, [.int 0, .long 0, .int 0, .long 0, .int 0, .int 0]))] sz) := by
  refine Met.ofW (cc := cd_G_init) (maxL := 9) (ret := none) (by decide) rfl ?_
  intro p e s m args below meth c s₁ B hml hv
  obtain ⟨rfl, hsz, hP, hK, hD0, hG⟩ := hv
  have hx := B.exec
  have hb := B.bytes
  have hr := B.returns
  have hts := fun (w : Cond) (h : w ∈ bigT) => atoms_spec (ws := (wB my_G_init cd_G_init 9 none)) B.pre w (List.mem_cons_of_mem _ h)
  have hown : s.vm.findClass rn_G = some m.cls := findClass_of_methodNamed B.named
  have hlocks := B.notSynchronized
  have hin : meth.name = "<init>" := (name_of_methodNamed B.named B.method).1
  subst hsz
  have hD := hD0.self (sz := s.heap.size)
  generalize hAe : va_A [(aG, .inr (2, [.int 0, .long 0, .int 0, .long 0, .int 0, .int 0]))] s.heap.size = A at hD hG ⊢
  have hA : ∀ q : Nat, s.heap.size ≤ q → A q := fun q h => by rw [← hAe]; exact Or.inr h
  have hS : va_S A s.heap s.heap [] := va_S.rf
  have hP : va_P (dC, dI) vwCl [(aG, .inr (2, [.int 0, .long 0, .int 0, .long 0, .int 0, .int 0]))] s.heap := hP
  have hl := lv_entry ([.ref aG, .int (nI gn), .long gy, .int kb, .long gx, .int vb, .int la]) (n := 9) (Nat.le_of_ble_eq_true rfl)
  rw [lg_entry_eq]
  generalize (lg_sl ([.ref aG, .int (nI gn), .long gy, .int kb, .long gx, .int vb, .int la]) ++ List.replicate (9 - (lg_sl ([.ref aG, .int (nI gn), .long gy, .int kb, .long gx, .int vb, .int la])).length) Slot.unset).toArray = ls at hl ⊢
  have hl : lv_has ls 9 [(0, .ref aG), (1, .int (nI gn)), (2, .long gy), (4, .int kb), (5, .long gx), (7, .int vb), (8, .int la)] := hl
  refine lv_aload_n hx hb dc_G_init_0 rfl (lv_at hl 0 rfl) ?_
  refine W.objInit hx hb hown (hts _ bw2_132) (hts _ bw1_28) (hts _ bw1_29) rfl (by rw [hml]; exact hl.1) rfl dc_G_init_1 (Nat.le_of_ble_eq_true rfl) (Nat.le_of_ble_eq_true rfl) ?_
  refine W.eq (g2 := F0 m 4 ls []) rfl ?_
  refine lv_aload_n hx hb dc_G_init_4 rfl (lv_at hl 0 rfl) ?_
  refine lv_iload_n hx hb dc_G_init_5 rfl (lv_at hl 1 rfl) ?_
  refine va_putF (D := (dC, dI)) (ci := 2) (v := .int (nI gn)) (ty := .int) (C := rn_G) (T := ft_G) (N := 6) hx hb hts fw_G fy_G fo_G fn_G hown hK hP hD hS 0 rfl rfl 0 (by decide) (hts _ bw2_133) (fun _ h9 => h9) rfl hin rfl (by decide +kernel) rfl rfl (Nat.le_of_ble_eq_true rfl) dc_G_init_6 (fun H locs hP hD hS => ?_)
  have hP : va_P (dC, dI) vwCl [(aG, .inr (2, [.int (nI gn), .long 0, .int 0, .long 0, .int 0, .int 0]))] H := hP
  have hD : va_D A [(aG, .inr (2, [.int (nI gn), .long 0, .int 0, .long 0, .int 0, .int 0]))] := hD
  refine lv_aload_n hx hb dc_G_init_9 rfl (lv_at hl 0 rfl) ?_
  refine lv_lload_n hx hb dc_G_init_10 rfl (lv_at hl 2 rfl) ?_
  refine va_putF (D := (dC, dI)) (ci := 2) (v := .long gy) (ty := .long) (C := rn_G) (T := ft_G) (N := 6) hx hb hts fw_G fy_G fo_G fn_G hown hK hP hD hS 0 rfl rfl 1 (by decide) (hts _ bw2_135) (fun _ h9 => h9) rfl hin rfl (by decide +kernel) rfl rfl (Nat.le_of_ble_eq_true rfl) dc_G_init_11 (fun H locs hP hD hS => ?_)
  have hP : va_P (dC, dI) vwCl [(aG, .inr (2, [.int (nI gn), .long gy, .int 0, .long 0, .int 0, .int 0]))] H := hP
  have hD : va_D A [(aG, .inr (2, [.int (nI gn), .long gy, .int 0, .long 0, .int 0, .int 0]))] := hD
  refine lv_aload_n hx hb dc_G_init_14 rfl (lv_at hl 0 rfl) ?_
  refine lv_iload hx hb dc_G_init_15 (lv_at hl 3 rfl) ?_
  refine va_putF (D := (dC, dI)) (ci := 2) (v := .int kb) (ty := .int) (C := rn_G) (T := ft_G) (N := 6) hx hb hts fw_G fy_G fo_G fn_G hown hK hP hD hS 0 rfl rfl 2 (by decide) (hts _ bw2_136) (fun _ h9 => h9) rfl hin rfl (by decide +kernel) rfl rfl (Nat.le_of_ble_eq_true rfl) dc_G_init_17 (fun H locs hP hD hS => ?_)
  have hP : va_P (dC, dI) vwCl [(aG, .inr (2, [.int (nI gn), .long gy, .int kb, .long 0, .int 0, .int 0]))] H := hP
  have hD : va_D A [(aG, .inr (2, [.int (nI gn), .long gy, .int kb, .long 0, .int 0, .int 0]))] := hD
  refine lv_aload_n hx hb dc_G_init_20 rfl (lv_at hl 0 rfl) ?_
  refine lv_lload hx hb dc_G_init_21 (lv_at hl 4 rfl) ?_
  refine va_putF (D := (dC, dI)) (ci := 2) (v := .long gx) (ty := .long) (C := rn_G) (T := ft_G) (N := 6) hx hb hts fw_G fy_G fo_G fn_G hown hK hP hD hS 0 rfl rfl 3 (by decide) (hts _ bw2_137) (fun _ h9 => h9) rfl hin rfl (by decide +kernel) rfl rfl (Nat.le_of_ble_eq_true rfl) dc_G_init_23 (fun H locs hP hD hS => ?_)
  have hP : va_P (dC, dI) vwCl [(aG, .inr (2, [.int (nI gn), .long gy, .int kb, .long gx, .int 0, .int 0]))] H := hP
  have hD : va_D A [(aG, .inr (2, [.int (nI gn), .long gy, .int kb, .long gx, .int 0, .int 0]))] := hD
  refine lv_aload_n hx hb dc_G_init_26 rfl (lv_at hl 0 rfl) ?_
  refine lv_iload hx hb dc_G_init_27 (lv_at hl 5 rfl) ?_
  refine va_putF (D := (dC, dI)) (ci := 2) (v := .int vb) (ty := .int) (C := rn_G) (T := ft_G) (N := 6) hx hb hts fw_G fy_G fo_G fn_G hown hK hP hD hS 0 rfl rfl 4 (by decide) (hts _ bw2_138) (fun _ h9 => h9) rfl hin rfl (by decide +kernel) rfl rfl (Nat.le_of_ble_eq_true rfl) dc_G_init_29 (fun H locs hP hD hS => ?_)
  have hP : va_P (dC, dI) vwCl [(aG, .inr (2, [.int (nI gn), .long gy, .int kb, .long gx, .int vb, .int 0]))] H := hP
  have hD : va_D A [(aG, .inr (2, [.int (nI gn), .long gy, .int kb, .long gx, .int vb, .int 0]))] := hD
  refine lv_aload_n hx hb dc_G_init_32 rfl (lv_at hl 0 rfl) ?_
  refine lv_iload hx hb dc_G_init_33 (lv_at hl 6 rfl) ?_
  refine va_putF (D := (dC, dI)) (ci := 2) (v := .int la) (ty := .int) (C := rn_G) (T := ft_G) (N := 6) hx hb hts fw_G fy_G fo_G fn_G hown hK hP hD hS 0 rfl rfl 5 (by decide) (hts _ bw2_139) (fun _ h9 => h9) rfl hin rfl (by decide +kernel) rfl rfl (Nat.le_of_ble_eq_true rfl) dc_G_init_35 (fun H locs hP hD hS => ?_)
  have hP : va_P (dC, dI) vwCl [(aG, .inr (2, [.int (nI gn), .long gy, .int kb, .long gx, .int vb, .int la]))] H := hP
  have hD : va_D A [(aG, .inr (2, [.int (nI gn), .long gy, .int kb, .long gx, .int vb, .int la]))] := hD
  have hP9 := hP.sub (ws' := [(aG, .inr (2, [.int (nI gn), .long gy, .int kb, .long gx, .int vb, .int la]))]) [0] rfl
  have hD9 := hD.sub (ws' := [(aG, .inr (2, [.int (nI gn), .long gy, .int kb, .long gx, .int vb, .int la]))]) [0] (by decide) rfl
  have hK9 := hK.sub (tys' := []) [] rfl
  exact W.vret hx hb hr (fun t ht hW => ⟨⟨(), rfl, trivial, by rw [ht]; exact hP9, va_K.moved hW.alike hK9, hD9⟩, hS.F ht⟩) hS.2.2 dc_G_init_38

set_option maxHeartbeats 1000000 in
set_option maxRecDepth 100000 in
theorem c_G_partBytes (l : Launch) (dC : Nat → ClassId) (dI : Nat → Nat → Nat) (sz : Nat) (xv : Int32) (hpx : pOk xv) : Met l my_G_partBytes (wB my_G_partBytes cd_G_partBytes 1 (some .int)) ({ frames := 2, cells := 0, slots := 0, locals := 46 }) (va_Pc [.int xv] (PcW (dC, dI) [] [] sz)) (va_Qi (fun (r : Int32) => fun (_ : Unit) => r = nI (vN xv + xv.toNatClampNeg)) (fun _ => EnW (dC, dI) (va_A [] sz) [] []) (va_A [] sz)) 0 0 (va_A [] sz) := by
  refine Met.ofW (cc := cd_G_partBytes) (maxL := 1) (ret := (some .int)) (by decide) rfl ?_
  intro p e s m args below meth c s₁ B hml hv
  obtain ⟨rfl, hsz, hP, hK, hD0, hG⟩ := hv
  have hx := B.exec
  have hb := B.bytes
  have hr := B.returns
  have hts := fun (w : Cond) (h : w ∈ bigT) => atoms_spec (ws := (wB my_G_partBytes cd_G_partBytes 1 (some .int))) B.pre w (List.mem_cons_of_mem _ h)
  have hown : s.vm.findClass rn_G = some m.cls := findClass_of_methodNamed B.named
  have hlocks := B.notSynchronized
  subst hsz
  have hD := hD0.self (sz := s.heap.size)
  generalize hAe : va_A [] s.heap.size = A at hD hG ⊢
  have hA : ∀ q : Nat, s.heap.size ≤ q → A q := fun q h => by rw [← hAe]; exact Or.inr h
  have hS : va_S A s.heap s.heap [] := va_S.rf
  have hP : va_P (dC, dI) vwCl [] s.heap := hP
  have hl := lv_entry ([.int xv]) (n := 1) (Nat.le_of_ble_eq_true rfl)
  rw [lg_entry_eq]
  generalize (lg_sl ([.int xv]) ++ List.replicate (1 - (lg_sl ([.int xv])).length) Slot.unset).toArray = ls at hl ⊢
  have hl : lv_has ls 1 [(0, .int xv)] := hl
  refine lv_iload_n hx hb dc_G_partBytes_0 rfl (lv_at hl 0 rfl) ?_
  refine lv_i2l (v := xv.toInt64) hx hb dc_G_partBytes_1 rfl ?_
  refine kc_i (wc := []) (wr := []) hP hD hS hA [] [] rfl rfl (by decide) (by decide) (va_runSN (As := [.long xv.toInt64]) (rest := []) ⟨hx, hb, hml, hown, hts⟩ (c_B_varintBytes l dC dI _ xv.toInt64 ) (kw_N (host := "BatchBytes") 1 hts hG.1 (by decide +kernel) bw2_163 bw1_1 bw2_164 rfl rfl (by decide +kernel) ⟨Nat.le_of_ble_eq_true rfl, Nat.le_of_ble_eq_true rfl⟩) (kp_S (wc := []) (tc := []) (av := [.long xv.toInt64]) hG hS hA hP hD hK [] rfl (by decide) rfl [] rfl) rfl rfl hl.1 rfl (lv_room (Nat.le_of_ble_eq_true rfl)) dc_G_partBytes_2 ⟨Nat.zero_le _, Nat.zero_le _⟩) (fun r_1 _ H locs hw hP hD hK1 hS => ?_)
  have hw : vbC xv.toInt64 = r_1 := hw.symm
  subst hw
  have hP : va_P (dC, dI) vwCl [] H := hP
  have hD : va_D A [] := hD
  refine lv_iload_n hx hb dc_G_partBytes_5 rfl (lv_at hl 0 rfl) ?_
  refine lv_iconst (v := 0) hx hb dc_G_partBytes_6 (by decide) ?_
  refine va_mmax hx hb (hml.trans hl.1.symm) hown (hts _ bw2_171) (hts _ bw2_47) (hts _ bw1_14) (hts _ bw2_48) (Nat.le_of_ble_eq_true rfl) (Nat.le_of_ble_eq_true rfl) (Nat.zero_le _) (Nat.zero_le _) dc_G_partBytes_7 ?_
  refine lv_iadd hx hb dc_G_partBytes_10 ?_
  have hP9 := hP.sub (ws' := []) [] rfl
  have hD9 := hD.sub (ws' := []) [] (by decide) rfl
  have hK9 := hK.sub (tys' := []) [] rfl
  exact W.iret (v := ((vbC xv.toInt64) + (if xv < 0 then 0 else xv))) hx hb hr (fun t ht hW => ⟨⟨((vbC xv.toInt64) + (if xv < 0 then 0 else xv)), (), rfl, part_eq hpx, by rw [ht]; exact hP9, va_K.moved hW.alike hK9, hD9⟩, hS.F ht⟩) hS.2.2 dc_G_partBytes_11

set_option maxHeartbeats 1000000 in
set_option maxRecDepth 100000 in
theorem c_G_bytesBehindLength (l : Launch) (dC : Nat → ClassId) (dI : Nat → Nat → Nat) (sz : Nat) (aG : Nat) (gn : Nat) (gy : Int64) (kb : Int32) (gx : Int64) (vb : Int32) (la : Int32) (i : Nat) (nu : Nat) (hd : dOk kb vb (la + nI i)) (hnu : nu < 2 ^ 30) : Met l my_G_bytesBehindLength (wB my_G_bytesBehindLength cd_G_bytesBehindLength 3 (some .int)) ({ frames := 3, cells := 0, slots := 0, locals := 66 }) (va_Pc [.ref aG, .int (nI i), .int (nI nu)] (PcW (dC, dI) [(aG, .inr (2, [.int (nI gn), .long gy, .int kb, .long gx, .int vb, .int la]))] [] sz)) (va_Qi (fun (r : Int32) => fun (_ : Unit) => r = nI (bdN kb vb (la + nI i) nu)) (fun _ => EnW (dC, dI) (va_A [(aG, .inr (2, [.int (nI gn), .long gy, .int kb, .long gx, .int vb, .int la]))] sz) [(aG, .inr (2, [.int (nI gn), .long gy, .int kb, .long gx, .int vb, .int la]))] []) (va_A [(aG, .inr (2, [.int (nI gn), .long gy, .int kb, .long gx, .int vb, .int la]))] sz)) 0 0 (va_A [(aG, .inr (2, [.int (nI gn), .long gy, .int kb, .long gx, .int vb, .int la]))] sz) := by
  refine Met.ofW (cc := cd_G_bytesBehindLength) (maxL := 3) (ret := (some .int)) (by decide) rfl ?_
  intro p e s m args below meth c s₁ B hml hv
  obtain ⟨rfl, hsz, hP, hK, hD0, hG⟩ := hv
  have hx := B.exec
  have hb := B.bytes
  have hr := B.returns
  have hts := fun (w : Cond) (h : w ∈ bigT) => atoms_spec (ws := (wB my_G_bytesBehindLength cd_G_bytesBehindLength 3 (some .int))) B.pre w (List.mem_cons_of_mem _ h)
  have hown : s.vm.findClass rn_G = some m.cls := findClass_of_methodNamed B.named
  have hlocks := B.notSynchronized
  subst hsz
  have hD := hD0.self (sz := s.heap.size)
  generalize hAe : va_A [(aG, .inr (2, [.int (nI gn), .long gy, .int kb, .long gx, .int vb, .int la]))] s.heap.size = A at hD hG ⊢
  have hA : ∀ q : Nat, s.heap.size ≤ q → A q := fun q h => by rw [← hAe]; exact Or.inr h
  have hS : va_S A s.heap s.heap [] := va_S.rf
  have hP : va_P (dC, dI) vwCl [(aG, .inr (2, [.int (nI gn), .long gy, .int kb, .long gx, .int vb, .int la]))] s.heap := hP
  have hl := lv_entry ([.ref aG, .int (nI i), .int (nI nu)]) (n := 3) (Nat.le_of_ble_eq_true rfl)
  rw [lg_entry_eq]
  generalize (lg_sl ([.ref aG, .int (nI i), .int (nI nu)]) ++ List.replicate (3 - (lg_sl ([.ref aG, .int (nI i), .int (nI nu)])).length) Slot.unset).toArray = ls at hl ⊢
  have hl : lv_has ls 3 [(0, .ref aG), (1, .int (nI i)), (2, .int (nI nu))] := hl
  refine lv_iconst (v := 2) hx hb dc_G_bytesBehindLength_0 (by decide) ?_
  refine lv_aload_n hx hb dc_G_bytesBehindLength_1 rfl (lv_at hl 0 rfl) ?_
  refine va_get (D := (dC, dI)) (ci := 2) (v := .int la) (C := rn_G) (T := ft_G) (N := 6) hx hb hts fw_G hown hK hP 0 rfl rfl 5 (by decide) (hts _ bw2_139) (fun _ h9 => h9) rfl dc_G_bytesBehindLength_2 ?_
  refine lv_iload_n hx hb dc_G_bytesBehindLength_5 rfl (lv_at hl 1 rfl) ?_
  refine lv_iadd hx hb dc_G_bytesBehindLength_6 ?_
  refine lv_i2l (v := (la + (nI i)).toInt64) hx hb dc_G_bytesBehindLength_7 rfl ?_
  refine kc_i (wc := []) (wr := [(aG, .inr (2, [.int (nI gn), .long gy, .int kb, .long gx, .int vb, .int la]))]) hP hD hS hA [] [0] rfl rfl (by decide) (by decide) (va_runSN (As := [.long ((la + (nI i)).toInt64)]) (rest := [.int 2]) ⟨hx, hb, hml, hown, hts⟩ (c_B_varintBytes l dC dI _ ((la + (nI i)).toInt64) ) (kw_N (host := "BatchBytes") 1 hts hG.1 (by decide +kernel) bw2_163 bw1_1 bw2_164 rfl rfl (by decide +kernel) ⟨Nat.le_of_ble_eq_true rfl, Nat.le_of_ble_eq_true rfl⟩) (kp_S (wc := []) (tc := []) (av := [.long ((la + (nI i)).toInt64)]) hG hS hA hP hD hK [] rfl (by decide) rfl [] rfl) rfl rfl hl.1 rfl (lv_room (Nat.le_of_ble_eq_true rfl)) dc_G_bytesBehindLength_8 ⟨Nat.zero_le _, Nat.zero_le _⟩) (fun r_1 _ H locs hw hP hD hK1 hS => ?_)
  have hw : vbC ((la + (nI i)).toInt64) = r_1 := hw.symm
  subst hw
  have hP : va_P (dC, dI) vwCl [(aG, .inr (2, [.int (nI gn), .long gy, .int kb, .long gx, .int vb, .int la]))] H := hP
  have hD : va_D A [(aG, .inr (2, [.int (nI gn), .long gy, .int kb, .long gx, .int vb, .int la]))] := hD
  refine lv_iadd hx hb dc_G_bytesBehindLength_11 ?_
  refine lv_iload_n hx hb dc_G_bytesBehindLength_12 rfl (lv_at hl 2 rfl) ?_
  refine lv_i2l (v := (nI nu).toInt64) hx hb dc_G_bytesBehindLength_13 rfl ?_
  refine kc_i (wc := []) (wr := [(aG, .inr (2, [.int (nI gn), .long gy, .int kb, .long gx, .int vb, .int la]))]) hP hD hS hA [] [0] rfl rfl (by decide) (by decide) (va_runSN (As := [.long ((nI nu).toInt64)]) (rest := [.int (2 + (vbC ((la + (nI i)).toInt64)))]) ⟨hx, hb, hml, hown, hts⟩ (c_B_varintBytes l dC dI _ ((nI nu).toInt64) ) (kw_N (host := "BatchBytes") 1 hts hG.1 (by decide +kernel) bw2_163 bw1_1 bw2_164 rfl rfl (by decide +kernel) ⟨Nat.le_of_ble_eq_true rfl, Nat.le_of_ble_eq_true rfl⟩) (kp_S (wc := []) (tc := []) (av := [.long ((nI nu).toInt64)]) hG hS hA hP hD hK [] rfl (by decide) rfl [] rfl) rfl rfl hl.1 rfl (lv_room (Nat.le_of_ble_eq_true rfl)) dc_G_bytesBehindLength_14 ⟨Nat.zero_le _, Nat.zero_le _⟩) (fun r_2 _ H locs hw hP hD hK1 hS => ?_)
  have hw : vbC ((nI nu).toInt64) = r_2 := hw.symm
  subst hw
  have hP : va_P (dC, dI) vwCl [(aG, .inr (2, [.int (nI gn), .long gy, .int kb, .long gx, .int vb, .int la]))] H := hP
  have hD : va_D A [(aG, .inr (2, [.int (nI gn), .long gy, .int kb, .long gx, .int vb, .int la]))] := hD
  refine lv_iadd hx hb dc_G_bytesBehindLength_17 ?_
  refine lv_aload_n hx hb dc_G_bytesBehindLength_18 rfl (lv_at hl 0 rfl) ?_
  refine va_get (D := (dC, dI)) (ci := 2) (v := .int kb) (C := rn_G) (T := ft_G) (N := 6) hx hb hts fw_G hown hK hP 0 rfl rfl 2 (by decide) (hts _ bw2_136) (fun _ h9 => h9) rfl dc_G_bytesBehindLength_19 ?_
  refine kc_i (wc := []) (wr := [(aG, .inr (2, [.int (nI gn), .long gy, .int kb, .long gx, .int vb, .int la]))]) hP hD hS hA [] [0] rfl rfl (by decide) (by decide) (va_runS (As := [.int kb]) (rest := [.int ((2 + (vbC ((la + (nI i)).toInt64))) + (vbC ((nI nu).toInt64)))]) ⟨hx, hb, hml, hown, hts⟩ (c_G_partBytes l dC dI _ kb (hd.1)) (kw_S 1 hts bw2_168 bw2_169 bw1_18 bw2_170 rfl rfl (by decide +kernel) ⟨Nat.le_of_ble_eq_true rfl, Nat.le_of_ble_eq_true rfl⟩) (kp_S (wc := []) (tc := []) (av := [.int kb]) hG hS hA hP hD hK [] rfl (by decide) rfl [] rfl) rfl rfl hl.1 rfl (lv_room (Nat.le_of_ble_eq_true rfl)) dc_G_bytesBehindLength_22 ⟨Nat.zero_le _, Nat.zero_le _⟩) (fun r_3 _ H locs hw hP hD hK1 hS => ?_)
  have hw : nI (vN kb + kb.toNatClampNeg) = r_3 := hw.symm
  subst hw
  have hP : va_P (dC, dI) vwCl [(aG, .inr (2, [.int (nI gn), .long gy, .int kb, .long gx, .int vb, .int la]))] H := hP
  have hD : va_D A [(aG, .inr (2, [.int (nI gn), .long gy, .int kb, .long gx, .int vb, .int la]))] := hD
  refine lv_iadd hx hb dc_G_bytesBehindLength_25 ?_
  refine lv_aload_n hx hb dc_G_bytesBehindLength_26 rfl (lv_at hl 0 rfl) ?_
  refine va_get (D := (dC, dI)) (ci := 2) (v := .int vb) (C := rn_G) (T := ft_G) (N := 6) hx hb hts fw_G hown hK hP 0 rfl rfl 4 (by decide) (hts _ bw2_138) (fun _ h9 => h9) rfl dc_G_bytesBehindLength_27 ?_
  refine kc_i (wc := []) (wr := [(aG, .inr (2, [.int (nI gn), .long gy, .int kb, .long gx, .int vb, .int la]))]) hP hD hS hA [] [0] rfl rfl (by decide) (by decide) (va_runS (As := [.int vb]) (rest := [.int (((2 + (vbC ((la + (nI i)).toInt64))) + (vbC ((nI nu).toInt64))) + (nI (vN kb + kb.toNatClampNeg)))]) ⟨hx, hb, hml, hown, hts⟩ (c_G_partBytes l dC dI _ vb (hd.2.2.1)) (kw_S 1 hts bw2_168 bw2_169 bw1_18 bw2_170 rfl rfl (by decide +kernel) ⟨Nat.le_of_ble_eq_true rfl, Nat.le_of_ble_eq_true rfl⟩) (kp_S (wc := []) (tc := []) (av := [.int vb]) hG hS hA hP hD hK [] rfl (by decide) rfl [] rfl) rfl rfl hl.1 rfl (lv_room (Nat.le_of_ble_eq_true rfl)) dc_G_bytesBehindLength_30 ⟨Nat.zero_le _, Nat.zero_le _⟩) (fun r_4 _ H locs hw hP hD hK1 hS => ?_)
  have hw : nI (vN vb + vb.toNatClampNeg) = r_4 := hw.symm
  subst hw
  have hP : va_P (dC, dI) vwCl [(aG, .inr (2, [.int (nI gn), .long gy, .int kb, .long gx, .int vb, .int la]))] H := hP
  have hD : va_D A [(aG, .inr (2, [.int (nI gn), .long gy, .int kb, .long gx, .int vb, .int la]))] := hD
  refine lv_iadd hx hb dc_G_bytesBehindLength_33 ?_
  have hP9 := hP.sub (ws' := [(aG, .inr (2, [.int (nI gn), .long gy, .int kb, .long gx, .int vb, .int la]))]) [0] rfl
  have hD9 := hD.sub (ws' := [(aG, .inr (2, [.int (nI gn), .long gy, .int kb, .long gx, .int vb, .int la]))]) [0] (by decide) rfl
  have hK9 := hK.sub (tys' := []) [] rfl
  exact W.iret (v := ((((2 + (vbC ((la + (nI i)).toInt64))) + (vbC ((nI nu).toInt64))) + (nI (vN kb + kb.toNatClampNeg))) + (nI (vN vb + vb.toNatClampNeg)))) hx hb hr (fun t ht hW => ⟨⟨((((2 + (vbC ((la + (nI i)).toInt64))) + (vbC ((nI nu).toInt64))) + (nI (vN kb + kb.toNatClampNeg))) + (nI (vN vb + vb.toNatClampNeg))), (), rfl, bd_eq hd hnu, by rw [ht]; exact hP9, va_K.moved hW.alike hK9, hD9⟩, hS.F ht⟩) hS.2.2 dc_G_bytesBehindLength_34

set_option maxHeartbeats 1000000 in
set_option maxRecDepth 100000 in
theorem c_G_bytesFrom (l : Launch) (dC : Nat → ClassId) (dI : Nat → Nat → Nat) (sz : Nat) (aG : Nat) (gn : Nat) (gy : Int64) (kb : Int32) (gx : Int64) (vb : Int32) (la : Int32) (nu : Nat) (hd : ∀ i, i < gn → dOk kb vb (la + nI i)) (hnu : nu ≤ 1000) (hgn : gn ≤ 100) : Met l my_G_bytesFrom (wB my_G_bytesFrom cd_G_bytesFrom 5 (some .int)) ({ frames := 4, cells := 0, slots := 0, locals := 88 }) (va_Pc [.ref aG, .int (nI nu)] (PcW (dC, dI) [(aG, .inr (2, [.int (nI gn), .long gy, .int kb, .long gx, .int vb, .int la]))] [] sz)) (va_Qi (fun (r : Int32) => fun (_ : Unit) => r = nI (gwN kb vb la nu gn)) (fun _ => EnW (dC, dI) (va_A [(aG, .inr (2, [.int (nI gn), .long gy, .int kb, .long gx, .int vb, .int la]))] sz) [(aG, .inr (2, [.int (nI gn), .long gy, .int kb, .long gx, .int vb, .int la]))] []) (va_A [(aG, .inr (2, [.int (nI gn), .long gy, .int kb, .long gx, .int vb, .int la]))] sz)) 0 0 (va_A [(aG, .inr (2, [.int (nI gn), .long gy, .int kb, .long gx, .int vb, .int la]))] sz) := by
  refine Met.ofW (cc := cd_G_bytesFrom) (maxL := 5) (ret := (some .int)) (by decide) rfl ?_
  intro p e s m args below meth c s₁ B hml hv
  obtain ⟨rfl, hsz, hP, hK, hD0, hG⟩ := hv
  have hx := B.exec
  have hb := B.bytes
  have hr := B.returns
  have hts := fun (w : Cond) (h : w ∈ bigT) => atoms_spec (ws := (wB my_G_bytesFrom cd_G_bytesFrom 5 (some .int))) B.pre w (List.mem_cons_of_mem _ h)
  have hown : s.vm.findClass rn_G = some m.cls := findClass_of_methodNamed B.named
  have hlocks := B.notSynchronized
  subst hsz
  have hD := hD0.self (sz := s.heap.size)
  generalize hAe : va_A [(aG, .inr (2, [.int (nI gn), .long gy, .int kb, .long gx, .int vb, .int la]))] s.heap.size = A at hD hG ⊢
  have hA : ∀ q : Nat, s.heap.size ≤ q → A q := fun q h => by rw [← hAe]; exact Or.inr h
  have hS : va_S A s.heap s.heap [] := va_S.rf
  have hP : va_P (dC, dI) vwCl [(aG, .inr (2, [.int (nI gn), .long gy, .int kb, .long gx, .int vb, .int la]))] s.heap := hP
  have hl := lv_entry ([.ref aG, .int (nI nu)]) (n := 5) (Nat.le_of_ble_eq_true rfl)
  rw [lg_entry_eq]
  generalize (lg_sl ([.ref aG, .int (nI nu)]) ++ List.replicate (5 - (lg_sl ([.ref aG, .int (nI nu)])).length) Slot.unset).toArray = ls at hl ⊢
  have hl : lv_has ls 5 [(0, .ref aG), (1, .int (nI nu))] := hl
  refine lv_iconst (v := 0) hx hb dc_G_bytesFrom_0 (by decide) ?_
  refine lv_istore_n (lv' := [(2, .int 0), (0, .ref aG), (1, .int (nI nu))]) hx hb dc_G_bytesFrom_1 rfl hl (by decide) rfl (fun ls hl => ?_)
  refine lv_iconst (v := 0) hx hb dc_G_bytesFrom_2 (by decide) ?_
  refine lv_istore_n (lv' := [(3, .int 0), (2, .int 0), (0, .ref aG), (1, .int (nI nu))]) hx hb dc_G_bytesFrom_3 rfl hl (by decide) rfl (fun ls hl => ?_)
  have e_1 : 0 = (nI (gwN kb vb la nu 0)) := by rfl
  have hl := wL_eq (lv' := [(3, .int (nI 0)), (2, .int (nI (gwN kb vb la nu 0))), (0, .ref aG), (1, .int (nI nu))]) hl (cg1 (fun y0 => ([(3, .int (nI 0)), (2, .int y0), (0, .ref aG), (1, .int (nI nu))] : List (Nat × Value))) e_1)
  refine w_loop (σ := Nat) (fun i H locs ls => i ≤ gn ∧ va_P (dC, dI) vwCl [(aG, .inr (2, [.int (nI gn), .long gy, .int kb, .long gx, .int vb, .int la]))] H ∧ va_D A [(aG, .inr (2, [.int (nI gn), .long gy, .int kb, .long gx, .int vb, .int la]))] ∧ va_S A s.heap H locs ∧ lv_has ls 5 [(3, .int (nI i)), (2, .int (nI (gwN kb vb la nu i))), (0, .ref aG), (1, .int (nI nu))]) (fun i ls => F0 m 4 ls []) (fun _ => 0) (fun _ => 0) (fun i => gn - i) ?_ 0 _ _ _ ⟨by show 0 ≤ gn; omega, hP.sub [0] rfl, hD.sub [0] (by decide) rfl, hS, lv_sub hl [0, 1, 2, 3] rfl⟩
  rintro i H locs ls ⟨hi, hP, hD, hS, hl⟩ ih4
  have hP : va_P (dC, dI) vwCl [(aG, .inr (2, [.int (nI gn), .long gy, .int kb, .long gx, .int vb, .int la]))] H := hP
  have hD : va_D A [(aG, .inr (2, [.int (nI gn), .long gy, .int kb, .long gx, .int vb, .int la]))] := hD
  have hl : lv_has ls 5 [(3, .int (nI i)), (2, .int (nI (gwN kb vb la nu i))), (0, .ref aG), (1, .int (nI nu))] := hl
  show W _ _ _ _ _ _ _ _ _ _ _ _ _ _ _ (F0 m 4 ls [])
  have hi : i ≤ gn := hi
  refine lv_iload_n hx hb dc_G_bytesFrom_4 rfl (lv_at hl 0 rfl) ?_
  refine lv_aload_n hx hb dc_G_bytesFrom_5 rfl (lv_at hl 2 rfl) ?_
  refine va_get (D := (dC, dI)) (ci := 2) (v := .int (nI gn)) (C := rn_G) (T := ft_G) (N := 6) hx hb hts fw_G hown hK hP 0 rfl rfl 0 (by decide) (hts _ bw2_133) (fun _ h9 => h9) rfl dc_G_bytesFrom_6 ?_
  refine lv_icmp_ge (tgt := 40) hx hb dc_G_bytesFrom_9 (by decide) (fun c_2 => ?_) (fun c_2 => ?_)
  · have hig : i = gn := by have := (nI_leI (by omega) (by omega)).mp c_2; omega
    refine lv_iload_n hx hb dc_G_bytesFrom_40 rfl (lv_at hl 1 rfl) ?_
    have hP9 := hP.sub (ws' := [(aG, .inr (2, [.int (nI gn), .long gy, .int kb, .long gx, .int vb, .int la]))]) [0] rfl
    have hD9 := hD.sub (ws' := [(aG, .inr (2, [.int (nI gn), .long gy, .int kb, .long gx, .int vb, .int la]))]) [0] (by decide) rfl
    have hK9 := hK.sub (tys' := []) [] rfl
    exact W.iret (v := (nI (gwN kb vb la nu i))) hx hb hr (fun t ht hW => ⟨⟨(nI (gwN kb vb la nu i)), (), rfl, by rw [hig], by rw [ht]; exact hP9, va_K.moved hW.alike hK9, hD9⟩, hS.F ht⟩) hS.2.2 dc_G_bytesFrom_41
  · have hlt : i < gn := by rcases Nat.lt_or_ge i gn with h | h; exact h; exact absurd (nI_le h (by omega)) c_2
    refine lv_aload_n hx hb dc_G_bytesFrom_12 rfl (lv_at hl 2 rfl) ?_
    refine lv_iload_n hx hb dc_G_bytesFrom_13 rfl (lv_at hl 0 rfl) ?_
    refine lv_iload_n hx hb dc_G_bytesFrom_14 rfl (lv_at hl 3 rfl) ?_
    refine lv_iload_n hx hb dc_G_bytesFrom_15 rfl (lv_at hl 0 rfl) ?_
    refine lv_iadd hx hb dc_G_bytesFrom_16 ?_
    refine W.eq (g2 := F0 m 17 ls [.int (nI (nu + i)), .int (nI i), .ref aG]) (by rw [show ((nI nu) + (nI i)) = (nI (nu + i)) by exact nI_add _ _]) ?_
    refine kc_i (wc := [(aG, .inr (2, [.int (nI gn), .long gy, .int kb, .long gx, .int vb, .int la]))]) (wr := []) hP hD hS hA [0] [] rfl rfl (by decide) (by decide) (va_runV (As := [.int (nI i), .int (nI (nu + i))]) (rest := []) ⟨hx, hb, hml, hown, hts⟩ (c_G_bytesBehindLength l dC dI _ aG gn gy kb gx vb la i (nu + i) (hd i hlt) (by omega)) (kw_V 2 hts bw2_158 bw2_159 bw2_160 bw1_18 bw2_161 rfl rfl (by decide +kernel) ⟨Nat.le_of_ble_eq_true rfl, Nat.le_of_ble_eq_true rfl⟩) (kp_V (wc := [(aG, .inr (2, [.int (nI gn), .long gy, .int kb, .long gx, .int vb, .int la]))]) (tc := []) (As := [.int (nI i), .int (nI (nu + i))]) hG hS hA hP hD hK [0] rfl (by decide) rfl [] rfl (ci := 2) (q0 := 0) rfl rfl) rfl rfl hl.1 rfl (lv_room (Nat.le_of_ble_eq_true rfl)) dc_G_bytesFrom_17 ⟨Nat.zero_le _, Nat.zero_le _⟩) (fun r_3 _ H locs hw hP hD hK1 hS => ?_)
    have hw : nI (bdN kb vb (la + nI i) (nu + i)) = r_3 := hw.symm
    subst hw
    have hP : va_P (dC, dI) vwCl [(aG, .inr (2, [.int (nI gn), .long gy, .int kb, .long gx, .int vb, .int la]))] H := hP
    have hD : va_D A [(aG, .inr (2, [.int (nI gn), .long gy, .int kb, .long gx, .int vb, .int la]))] := hD
    refine lv_istore (lv' := [(4, .int (nI (bdN kb vb (la + nI i) (nu + i)))), (3, .int (nI i)), (2, .int (nI (gwN kb vb la nu i))), (0, .ref aG), (1, .int (nI nu))]) hx hb dc_G_bytesFrom_20 hl (by decide) rfl (fun ls hl => ?_)
    refine lv_iload_n hx hb dc_G_bytesFrom_22 rfl (lv_at hl 2 rfl) ?_
    refine lv_iload hx hb dc_G_bytesFrom_23 (lv_at hl 0 rfl) ?_
    refine lv_i2l (v := (nI (bdN kb vb (la + nI i) (nu + i))).toInt64) hx hb dc_G_bytesFrom_25 rfl ?_
    refine kc_i (wc := []) (wr := [(aG, .inr (2, [.int (nI gn), .long gy, .int kb, .long gx, .int vb, .int la]))]) hP hD hS hA [] [0] rfl rfl (by decide) (by decide) (va_runSN (As := [.long ((nI (bdN kb vb (la + nI i) (nu + i))).toInt64)]) (rest := [.int (nI (gwN kb vb la nu i))]) ⟨hx, hb, hml, hown, hts⟩ (c_B_varintBytes l dC dI _ ((nI (bdN kb vb (la + nI i) (nu + i))).toInt64) ) (kw_N (host := "BatchBytes") 1 hts hG.1 (by decide +kernel) bw2_163 bw1_1 bw2_164 rfl rfl (by decide +kernel) ⟨Nat.le_of_ble_eq_true rfl, Nat.le_of_ble_eq_true rfl⟩) (kp_S (wc := []) (tc := []) (av := [.long ((nI (bdN kb vb (la + nI i) (nu + i))).toInt64)]) hG hS hA hP hD hK [] rfl (by decide) rfl [] rfl) rfl rfl hl.1 rfl (lv_room (Nat.le_of_ble_eq_true rfl)) dc_G_bytesFrom_26 ⟨Nat.zero_le _, Nat.zero_le _⟩) (fun r_4 _ H locs hw hP hD hK1 hS => ?_)
    have hw : vbC ((nI (bdN kb vb (la + nI i) (nu + i))).toInt64) = r_4 := hw.symm
    subst hw
    have hP : va_P (dC, dI) vwCl [(aG, .inr (2, [.int (nI gn), .long gy, .int kb, .long gx, .int vb, .int la]))] H := hP
    have hD : va_D A [(aG, .inr (2, [.int (nI gn), .long gy, .int kb, .long gx, .int vb, .int la]))] := hD
    refine lv_iload hx hb dc_G_bytesFrom_29 (lv_at hl 0 rfl) ?_
    refine lv_iadd hx hb dc_G_bytesFrom_31 ?_
    refine lv_iadd hx hb dc_G_bytesFrom_32 ?_
    refine lv_istore_n (lv' := [(2, .int ((nI (gwN kb vb la nu i)) + ((vbC ((nI (bdN kb vb (la + nI i) (nu + i))).toInt64)) + (nI (bdN kb vb (la + nI i) (nu + i)))))), (4, .int (nI (bdN kb vb (la + nI i) (nu + i)))), (3, .int (nI i)), (0, .ref aG), (1, .int (nI nu))]) hx hb dc_G_bytesFrom_33 rfl hl (by decide) rfl (fun ls hl => ?_)
    refine lv_iinc (v := ((nI i) + 1)) (lv' := [(3, .int ((nI i) + 1)), (2, .int ((nI (gwN kb vb la nu i)) + ((vbC ((nI (bdN kb vb (la + nI i) (nu + i))).toInt64)) + (nI (bdN kb vb (la + nI i) (nu + i)))))), (4, .int (nI (bdN kb vb (la + nI i) (nu + i)))), (0, .ref aG), (1, .int (nI nu))]) hx hb dc_G_bytesFrom_34 hl (k := 2) rfl rfl (by decide) rfl (fun ls hl => ?_)
    refine lv_goto (tgt := 4) hx hb dc_G_bytesFrom_37 (by decide) ?_
    have e_5 : ((nI i) + 1) = (nI (i + 1)) := by exact nI_1 _
    have e_6 : ((nI (gwN kb vb la nu i)) + ((vbC ((nI (bdN kb vb (la + nI i) (nu + i))).toInt64)) + (nI (bdN kb vb (la + nI i) (nu + i))))) = (nI (gwN kb vb la nu (i + 1))) := by exact gw_go (hd i hlt)
    have hl := wL_eq (lv' := [(3, .int (nI (i + 1))), (2, .int (nI (gwN kb vb la nu (i + 1)))), (4, .int (nI (bdN kb vb (la + nI i) (nu + i)))), (0, .ref aG), (1, .int (nI nu))]) hl (cg2 (fun y0 y1 => ([(3, .int y0), (2, .int y1), (4, .int (nI (bdN kb vb (la + nI i) (nu + i)))), (0, .ref aG), (1, .int (nI nu))] : List (Nat × Value))) e_5 e_6)
    exact ih4 (i + 1) _ _ _ ⟨by show (i + 1) ≤ gn; omega, hP.sub [0] rfl, hD.sub [0] (by decide) rfl, hS, lv_sub hl [0, 1, 3, 4] rfl⟩ (by show gn - (i + 1) < gn - i; omega)

set_option maxHeartbeats 1000000 in
set_option maxRecDepth 100000 in
theorem c_G_writeOne (l : Launch) (dC : Nat → ClassId) (dI : Nat → Nat → Nat) (sz : Nat) (aG : Nat) (gn : Nat) (gy : Int64) (kb : Int32) (gx : Int64) (vb : Int32) (la : Int32) (aT : Nat) (aR : Nat) (cA : ClassId) (n : Nat) (f : Nat → Int32) (k : Nat) (ch : Int32) (i : Nat) (nu : Nat) (hd : dOk kb vb (la + nI i)) (hnu : nu < 1000) (hi : i < 100) (hk : k + (rc9 kb vb (la + nI i) (gy + (nI i).toInt64) (gx + (nI i).toInt64) nu).length ≤ n) (hn : n ≤ 16384) : Met l my_G_writeOne (wB my_G_writeOne cd_G_writeOne 5 none) ({ frames := 4, cells := 0, slots := 0, locals := 88 }) (va_Pc [.ref aG, .ref aT, .int (nI i), .int (nI nu)] (PcW (dC, dI) [(aG, .inr (2, [.int (nI gn), .long gy, .int kb, .long gx, .int vb, .int la])), (aT, .inr (5, [.ref aR, .int (nI k), .int ch])), (aR, .inl (cA, n, .inl f))] [(cA, .byte)] sz)) (va_Qv (fun (_ : Unit) => True) (fun _ => EnW (dC, dI) (va_A [(aG, .inr (2, [.int (nI gn), .long gy, .int kb, .long gx, .int vb, .int la])), (aT, .inr (5, [.ref aR, .int (nI k), .int ch])), (aR, .inl (cA, n, .inl f))] sz) [(aG, .inr (2, [.int (nI gn), .long gy, .int kb, .long gx, .int vb, .int la])), (aT, .inr (5, [.ref aR, .int (nI (k + (rc9 kb vb (la + nI i) (gy + (nI i).toInt64) (gx + (nI i).toInt64) nu).length)), .int 1])), (aR, .inl (cA, n, .inl (wrB f k (rc9 kb vb (la + nI i) (gy + (nI i).toInt64) (gx + (nI i).toInt64) nu))))] [(cA, .byte)]) (va_A [(aG, .inr (2, [.int (nI gn), .long gy, .int kb, .long gx, .int vb, .int la])), (aT, .inr (5, [.ref aR, .int (nI k), .int ch])), (aR, .inl (cA, n, .inl f))] sz)) 0 0 (va_A [(aG, .inr (2, [.int (nI gn), .long gy, .int kb, .long gx, .int vb, .int la])), (aT, .inr (5, [.ref aR, .int (nI k), .int ch])), (aR, .inl (cA, n, .inl f))] sz) := by
  refine Met.ofW (cc := cd_G_writeOne) (maxL := 5) (ret := none) (by decide) rfl ?_
  intro p e s m args below meth c s₁ B hml hv
  obtain ⟨rfl, hsz, hP, hK, hD0, hG⟩ := hv
  have hx := B.exec
  have hb := B.bytes
  have hr := B.returns
  have hts := fun (w : Cond) (h : w ∈ bigT) => atoms_spec (ws := (wB my_G_writeOne cd_G_writeOne 5 none)) B.pre w (List.mem_cons_of_mem _ h)
  have hown : s.vm.findClass rn_G = some m.cls := findClass_of_methodNamed B.named
  have hlocks := B.notSynchronized
  subst hsz
  have hD := hD0.self (sz := s.heap.size)
  generalize hAe : va_A [(aG, .inr (2, [.int (nI gn), .long gy, .int kb, .long gx, .int vb, .int la])), (aT, .inr (5, [.ref aR, .int (nI k), .int ch])), (aR, .inl (cA, n, .inl f))] s.heap.size = A at hD hG ⊢
  have hA : ∀ q : Nat, s.heap.size ≤ q → A q := fun q h => by rw [← hAe]; exact Or.inr h
  have hS : va_S A s.heap s.heap [] := va_S.rf
  have hP : va_P (dC, dI) vwCl [(aG, .inr (2, [.int (nI gn), .long gy, .int kb, .long gx, .int vb, .int la])), (aT, .inr (5, [.ref aR, .int (nI k), .int ch])), (aR, .inl (cA, n, .inl f))] s.heap := hP
  have hl := lv_entry ([.ref aG, .ref aT, .int (nI i), .int (nI nu)]) (n := 5) (Nat.le_of_ble_eq_true rfl)
  rw [lg_entry_eq]
  generalize (lg_sl ([.ref aG, .ref aT, .int (nI i), .int (nI nu)]) ++ List.replicate (5 - (lg_sl ([.ref aG, .ref aT, .int (nI i), .int (nI nu)])).length) Slot.unset).toArray = ls at hl ⊢
  have hl : lv_has ls 5 [(0, .ref aG), (1, .ref aT), (2, .int (nI i)), (3, .int (nI nu))] := hl
  obtain ⟨l1, l2, l3, l4, l5, l6, l7, l8, l9⟩ := rc_len kb vb (la + nI i) (gy + (nI i).toInt64) (gx + (nI i).toInt64) nu
  have hbl := bdN_le (j := nu) hd
  have hbd : bdN kb vb (la + nI i) nu = 2 + vN (la + nI i) + vN (nI nu) + vN kb + vN vb + kb.toNatClampNeg + vb.toNatClampNeg := rfl
  have l8v := l8 vb.toNatClampNeg
  refine lv_aload_n hx hb dc_G_writeOne_0 rfl (lv_at hl 1 rfl) ?_
  refine lv_aload_n hx hb dc_G_writeOne_1 rfl (lv_at hl 0 rfl) ?_
  refine lv_iload_n hx hb dc_G_writeOne_2 rfl (lv_at hl 2 rfl) ?_
  refine lv_iload_n hx hb dc_G_writeOne_3 rfl (lv_at hl 3 rfl) ?_
  refine kc_i (wc := [(aG, .inr (2, [.int (nI gn), .long gy, .int kb, .long gx, .int vb, .int la]))]) (wr := [(aT, .inr (5, [.ref aR, .int (nI k), .int ch])), (aR, .inl (cA, n, .inl f))]) hP hD hS hA [0] [1, 2] rfl rfl (by decide) (by decide) (va_runV (As := [.int (nI i), .int (nI nu)]) (rest := [.ref aT]) ⟨hx, hb, hml, hown, hts⟩ (c_G_bytesBehindLength l dC dI _ aG gn gy kb gx vb la i nu (hd) (by omega)) (kw_V 2 hts bw2_158 bw2_159 bw2_160 bw1_18 bw2_161 rfl rfl (by decide +kernel) ⟨Nat.le_of_ble_eq_true rfl, Nat.le_of_ble_eq_true rfl⟩) (kp_V (wc := [(aG, .inr (2, [.int (nI gn), .long gy, .int kb, .long gx, .int vb, .int la]))]) (tc := []) (As := [.int (nI i), .int (nI nu)]) hG hS hA hP hD hK [0] rfl (by decide) rfl [] rfl (ci := 2) (q0 := 0) rfl rfl) rfl rfl hl.1 rfl (lv_room (Nat.le_of_ble_eq_true rfl)) dc_G_writeOne_4 ⟨Nat.zero_le _, Nat.zero_le _⟩) (fun r_1 _ H locs hw hP hD hK1 hS => ?_)
  have hw : nI (bdN kb vb (la + nI i) nu) = r_1 := hw.symm
  subst hw
  have hP : va_P (dC, dI) vwCl [(aT, .inr (5, [.ref aR, .int (nI k), .int ch])), (aR, .inl (cA, n, .inl f)), (aG, .inr (2, [.int (nI gn), .long gy, .int kb, .long gx, .int vb, .int la]))] H := hP
  have hD : va_D A [(aT, .inr (5, [.ref aR, .int (nI k), .int ch])), (aR, .inl (cA, n, .inl f)), (aG, .inr (2, [.int (nI gn), .long gy, .int kb, .long gx, .int vb, .int la]))] := hD
  refine lv_i2l (v := (nI (bdN kb vb (la + nI i) nu)).toInt64) hx hb dc_G_writeOne_7 rfl ?_
  refine kc_v (wc := [(aT, .inr (5, [.ref aR, .int (nI k), .int ch])), (aR, .inl (cA, n, .inl f))]) (wr := [(aG, .inr (2, [.int (nI gn), .long gy, .int kb, .long gx, .int vb, .int la]))]) hP hD hS hA [0, 1] [2] rfl rfl (by decide) (by decide) (va_runV (As := [.long ((nI (bdN kb vb (la + nI i) nu)).toInt64)]) (rest := []) ⟨hx, hb, hml, hown, hts⟩ (c_T_putVarintX l dC dI _ aT aR cA n f k ch (nI (bdN kb vb (la + nI i) nu)) (pOk_n (by omega)) (by omega) (by omega)) (kw_V 1 hts bw3_29 bw3_30 bw3_31 bw1_2 bw3_32 rfl rfl (by decide +kernel) ⟨Nat.le_of_ble_eq_true rfl, Nat.le_of_ble_eq_true rfl⟩) (kp_V (wc := [(aT, .inr (5, [.ref aR, .int (nI k), .int ch])), (aR, .inl (cA, n, .inl f))]) (tc := [(cA, .byte)]) (As := [.long ((nI (bdN kb vb (la + nI i) nu)).toInt64)]) hG hS hA hP hD hK [0, 1] rfl (by decide) rfl [0] rfl (ci := 5) (q0 := 0) rfl rfl) rfl rfl hl.1 rfl (lv_room (Nat.le_of_ble_eq_true rfl)) dc_G_writeOne_8 ⟨Nat.zero_le _, Nat.zero_le _⟩) (fun _ H locs hw hP hD hK1 hS => ?_)
  have hP : va_P (dC, dI) vwCl [(aG, .inr (2, [.int (nI gn), .long gy, .int kb, .long gx, .int vb, .int la])), (aT, .inr (5, [.ref aR, .int (nI (k + vN (nI (bdN kb vb (la + nI i) nu)))), .int 1])), (aR, .inl (cA, n, .inl (wrB f k (vL (nI (bdN kb vb (la + nI i) nu))))))] H := hP
  have hD : va_D A [(aG, .inr (2, [.int (nI gn), .long gy, .int kb, .long gx, .int vb, .int la])), (aT, .inr (5, [.ref aR, .int (nI (k + vN (nI (bdN kb vb (la + nI i) nu)))), .int 1])), (aR, .inl (cA, n, .inl (wrB f k (vL (nI (bdN kb vb (la + nI i) nu))))))] := hD
  have e_3 : (wrB f k (vL (nI (bdN kb vb (la + nI i) nu)))) = (wrB f k (rc1 kb vb (la + nI i) nu)) := by unfold rc1; with_reducible rfl
  have e_4 : (nI (k + vN (nI (bdN kb vb (la + nI i) nu)))) = (nI (k + (rc1 kb vb (la + nI i) nu).length)) := by rw [l1]
  have hP := wP_eq (ws' := [(aG, .inr (2, [.int (nI gn), .long gy, .int kb, .long gx, .int vb, .int la])), (aT, .inr (5, [.ref aR, .int (nI (k + (rc1 kb vb (la + nI i) nu).length)), .int 1])), (aR, .inl (cA, n, .inl (wrB f k (rc1 kb vb (la + nI i) nu))))]) hP (cg2 (fun y0 y1 => ([(aG, .inr (2, [.int (nI gn), .long gy, .int kb, .long gx, .int vb, .int la])), (aT, .inr (5, [.ref aR, .int y1, .int 1])), (aR, .inl (cA, n, .inl y0))] : va_W)) e_3 e_4)
  have hD := wD_eq (ws' := [(aG, .inr (2, [.int (nI gn), .long gy, .int kb, .long gx, .int vb, .int la])), (aT, .inr (5, [.ref aR, .int (nI (k + (rc1 kb vb (la + nI i) nu).length)), .int 1])), (aR, .inl (cA, n, .inl (wrB f k (rc1 kb vb (la + nI i) nu))))]) hD (cg2 (fun y0 y1 => ([(aG, .inr (2, [.int (nI gn), .long gy, .int kb, .long gx, .int vb, .int la])), (aT, .inr (5, [.ref aR, .int y1, .int 1])), (aR, .inl (cA, n, .inl y0))] : va_W)) e_3 e_4)
  refine lv_aload_n hx hb dc_G_writeOne_11 rfl (lv_at hl 1 rfl) ?_
  refine lv_iconst (v := 0) hx hb dc_G_writeOne_12 (by decide) ?_
  refine kc_v (wc := [(aT, .inr (5, [.ref aR, .int (nI (k + (rc1 kb vb (la + nI i) nu).length)), .int 1])), (aR, .inl (cA, n, .inl (wrB f k (rc1 kb vb (la + nI i) nu))))]) (wr := [(aG, .inr (2, [.int (nI gn), .long gy, .int kb, .long gx, .int vb, .int la]))]) hP hD hS hA [1, 2] [0] rfl rfl (by decide) (by decide) (va_runV (As := [.int 0]) (rest := []) ⟨hx, hb, hml, hown, hts⟩ (c_T_add l dC dI _ aT aR cA n (wrB f k (rc1 kb vb (la + nI i) nu)) (k + (rc1 kb vb (la + nI i) nu).length) 1 (0 : Int32) (by omega) (by omega)) (kw_V 1 hts bw3_35 bw2_68 bw2_69 bw1_2 bw2_70 rfl rfl (by decide +kernel) ⟨Nat.le_of_ble_eq_true rfl, Nat.le_of_ble_eq_true rfl⟩) (kp_V (wc := [(aT, .inr (5, [.ref aR, .int (nI (k + (rc1 kb vb (la + nI i) nu).length)), .int 1])), (aR, .inl (cA, n, .inl (wrB f k (rc1 kb vb (la + nI i) nu))))]) (tc := [(cA, .byte)]) (As := [.int 0]) hG hS hA hP hD hK [1, 2] rfl (by decide) rfl [0] rfl (ci := 5) (q0 := 1) rfl rfl) rfl rfl hl.1 rfl (lv_room (Nat.le_of_ble_eq_true rfl)) dc_G_writeOne_13 ⟨Nat.zero_le _, Nat.zero_le _⟩) (fun _ H locs hw hP hD hK1 hS => ?_)
  have hP : va_P (dC, dI) vwCl [(aG, .inr (2, [.int (nI gn), .long gy, .int kb, .long gx, .int vb, .int la])), (aT, .inr (5, [.ref aR, .int (nI ((k + (rc1 kb vb (la + nI i) nu).length) + 1)), .int 1])), (aR, .inl (cA, n, .inl (upd (wrB f k (rc1 kb vb (la + nI i) nu)) (k + (rc1 kb vb (la + nI i) nu).length) (0 : Int32).toInt8.toInt32)))] H := hP
  have hD : va_D A [(aG, .inr (2, [.int (nI gn), .long gy, .int kb, .long gx, .int vb, .int la])), (aT, .inr (5, [.ref aR, .int (nI ((k + (rc1 kb vb (la + nI i) nu).length) + 1)), .int 1])), (aR, .inl (cA, n, .inl (upd (wrB f k (rc1 kb vb (la + nI i) nu)) (k + (rc1 kb vb (la + nI i) nu).length) (0 : Int32).toInt8.toInt32)))] := hD
  have e_6 : (upd (wrB f k (rc1 kb vb (la + nI i) nu)) (k + (rc1 kb vb (la + nI i) nu).length) (0 : Int32).toInt8.toInt32) = (wrB f k (rc2 kb vb (la + nI i) nu)) := by exact wb_add (by unfold rc2; rw [numL_0])
  have e_7 : (nI ((k + (rc1 kb vb (la + nI i) nu).length) + 1)) = (nI (k + (rc2 kb vb (la + nI i) nu).length)) := by exact sz_go l2
  have hP := wP_eq (ws' := [(aG, .inr (2, [.int (nI gn), .long gy, .int kb, .long gx, .int vb, .int la])), (aT, .inr (5, [.ref aR, .int (nI (k + (rc2 kb vb (la + nI i) nu).length)), .int 1])), (aR, .inl (cA, n, .inl (wrB f k (rc2 kb vb (la + nI i) nu))))]) hP (cg2 (fun y0 y1 => ([(aG, .inr (2, [.int (nI gn), .long gy, .int kb, .long gx, .int vb, .int la])), (aT, .inr (5, [.ref aR, .int y1, .int 1])), (aR, .inl (cA, n, .inl y0))] : va_W)) e_6 e_7)
  have hD := wD_eq (ws' := [(aG, .inr (2, [.int (nI gn), .long gy, .int kb, .long gx, .int vb, .int la])), (aT, .inr (5, [.ref aR, .int (nI (k + (rc2 kb vb (la + nI i) nu).length)), .int 1])), (aR, .inl (cA, n, .inl (wrB f k (rc2 kb vb (la + nI i) nu))))]) hD (cg2 (fun y0 y1 => ([(aG, .inr (2, [.int (nI gn), .long gy, .int kb, .long gx, .int vb, .int la])), (aT, .inr (5, [.ref aR, .int y1, .int 1])), (aR, .inl (cA, n, .inl y0))] : va_W)) e_6 e_7)
  refine lv_aload_n hx hb dc_G_writeOne_16 rfl (lv_at hl 1 rfl) ?_
  refine lv_aload_n hx hb dc_G_writeOne_17 rfl (lv_at hl 0 rfl) ?_
  refine va_get (D := (dC, dI)) (ci := 2) (v := .int la) (C := rn_G) (T := ft_G) (N := 6) hx hb hts fw_G hown hK hP 0 rfl rfl 5 (by decide) (hts _ bw2_139) (fun _ h9 => h9) rfl dc_G_writeOne_18 ?_
  refine lv_iload_n hx hb dc_G_writeOne_21 rfl (lv_at hl 2 rfl) ?_
  refine lv_iadd hx hb dc_G_writeOne_22 ?_
  refine lv_i2l (v := (la + (nI i)).toInt64) hx hb dc_G_writeOne_23 rfl ?_
  refine kc_v (wc := [(aT, .inr (5, [.ref aR, .int (nI (k + (rc2 kb vb (la + nI i) nu).length)), .int 1])), (aR, .inl (cA, n, .inl (wrB f k (rc2 kb vb (la + nI i) nu))))]) (wr := [(aG, .inr (2, [.int (nI gn), .long gy, .int kb, .long gx, .int vb, .int la]))]) hP hD hS hA [1, 2] [0] rfl rfl (by decide) (by decide) (va_runV (As := [.long ((la + (nI i)).toInt64)]) (rest := []) ⟨hx, hb, hml, hown, hts⟩ (c_T_putVarintX l dC dI _ aT aR cA n (wrB f k (rc2 kb vb (la + nI i) nu)) (k + (rc2 kb vb (la + nI i) nu).length) 1 (la + nI i) (hd.2.2.2.2) (by omega) (by omega)) (kw_V 1 hts bw3_29 bw3_30 bw3_31 bw1_2 bw3_32 rfl rfl (by decide +kernel) ⟨Nat.le_of_ble_eq_true rfl, Nat.le_of_ble_eq_true rfl⟩) (kp_V (wc := [(aT, .inr (5, [.ref aR, .int (nI (k + (rc2 kb vb (la + nI i) nu).length)), .int 1])), (aR, .inl (cA, n, .inl (wrB f k (rc2 kb vb (la + nI i) nu))))]) (tc := [(cA, .byte)]) (As := [.long ((la + (nI i)).toInt64)]) hG hS hA hP hD hK [1, 2] rfl (by decide) rfl [0] rfl (ci := 5) (q0 := 1) rfl rfl) rfl rfl hl.1 rfl (lv_room (Nat.le_of_ble_eq_true rfl)) dc_G_writeOne_24 ⟨Nat.zero_le _, Nat.zero_le _⟩) (fun _ H locs hw hP hD hK1 hS => ?_)
  have hP : va_P (dC, dI) vwCl [(aG, .inr (2, [.int (nI gn), .long gy, .int kb, .long gx, .int vb, .int la])), (aT, .inr (5, [.ref aR, .int (nI ((k + (rc2 kb vb (la + nI i) nu).length) + vN (la + nI i))), .int 1])), (aR, .inl (cA, n, .inl (wrB (wrB f k (rc2 kb vb (la + nI i) nu)) (k + (rc2 kb vb (la + nI i) nu).length) (vL (la + nI i)))))] H := hP
  have hD : va_D A [(aG, .inr (2, [.int (nI gn), .long gy, .int kb, .long gx, .int vb, .int la])), (aT, .inr (5, [.ref aR, .int (nI ((k + (rc2 kb vb (la + nI i) nu).length) + vN (la + nI i))), .int 1])), (aR, .inl (cA, n, .inl (wrB (wrB f k (rc2 kb vb (la + nI i) nu)) (k + (rc2 kb vb (la + nI i) nu).length) (vL (la + nI i)))))] := hD
  have e_9 : (wrB (wrB f k (rc2 kb vb (la + nI i) nu)) (k + (rc2 kb vb (la + nI i) nu).length) (vL (la + nI i))) = (wrB f k (rc3 kb vb (la + nI i) nu)) := by exact wb_go (by unfold rc3; with_reducible rfl)
  have e_10 : (nI ((k + (rc2 kb vb (la + nI i) nu).length) + vN (la + nI i))) = (nI (k + (rc3 kb vb (la + nI i) nu).length)) := by exact sz_go l3
  have hP := wP_eq (ws' := [(aG, .inr (2, [.int (nI gn), .long gy, .int kb, .long gx, .int vb, .int la])), (aT, .inr (5, [.ref aR, .int (nI (k + (rc3 kb vb (la + nI i) nu).length)), .int 1])), (aR, .inl (cA, n, .inl (wrB f k (rc3 kb vb (la + nI i) nu))))]) hP (cg2 (fun y0 y1 => ([(aG, .inr (2, [.int (nI gn), .long gy, .int kb, .long gx, .int vb, .int la])), (aT, .inr (5, [.ref aR, .int y1, .int 1])), (aR, .inl (cA, n, .inl y0))] : va_W)) e_9 e_10)
  have hD := wD_eq (ws' := [(aG, .inr (2, [.int (nI gn), .long gy, .int kb, .long gx, .int vb, .int la])), (aT, .inr (5, [.ref aR, .int (nI (k + (rc3 kb vb (la + nI i) nu).length)), .int 1])), (aR, .inl (cA, n, .inl (wrB f k (rc3 kb vb (la + nI i) nu))))]) hD (cg2 (fun y0 y1 => ([(aG, .inr (2, [.int (nI gn), .long gy, .int kb, .long gx, .int vb, .int la])), (aT, .inr (5, [.ref aR, .int y1, .int 1])), (aR, .inl (cA, n, .inl y0))] : va_W)) e_9 e_10)
  refine lv_aload_n hx hb dc_G_writeOne_27 rfl (lv_at hl 1 rfl) ?_
  refine lv_iload_n hx hb dc_G_writeOne_28 rfl (lv_at hl 3 rfl) ?_
  refine lv_i2l (v := (nI nu).toInt64) hx hb dc_G_writeOne_29 rfl ?_
  refine kc_v (wc := [(aT, .inr (5, [.ref aR, .int (nI (k + (rc3 kb vb (la + nI i) nu).length)), .int 1])), (aR, .inl (cA, n, .inl (wrB f k (rc3 kb vb (la + nI i) nu))))]) (wr := [(aG, .inr (2, [.int (nI gn), .long gy, .int kb, .long gx, .int vb, .int la]))]) hP hD hS hA [1, 2] [0] rfl rfl (by decide) (by decide) (va_runV (As := [.long ((nI nu).toInt64)]) (rest := []) ⟨hx, hb, hml, hown, hts⟩ (c_T_putVarintX l dC dI _ aT aR cA n (wrB f k (rc3 kb vb (la + nI i) nu)) (k + (rc3 kb vb (la + nI i) nu).length) 1 (nI nu) (pOk_n (by omega)) (by omega) (by omega)) (kw_V 1 hts bw3_29 bw3_30 bw3_31 bw1_2 bw3_32 rfl rfl (by decide +kernel) ⟨Nat.le_of_ble_eq_true rfl, Nat.le_of_ble_eq_true rfl⟩) (kp_V (wc := [(aT, .inr (5, [.ref aR, .int (nI (k + (rc3 kb vb (la + nI i) nu).length)), .int 1])), (aR, .inl (cA, n, .inl (wrB f k (rc3 kb vb (la + nI i) nu))))]) (tc := [(cA, .byte)]) (As := [.long ((nI nu).toInt64)]) hG hS hA hP hD hK [1, 2] rfl (by decide) rfl [0] rfl (ci := 5) (q0 := 1) rfl rfl) rfl rfl hl.1 rfl (lv_room (Nat.le_of_ble_eq_true rfl)) dc_G_writeOne_30 ⟨Nat.zero_le _, Nat.zero_le _⟩) (fun _ H locs hw hP hD hK1 hS => ?_)
  have hP : va_P (dC, dI) vwCl [(aG, .inr (2, [.int (nI gn), .long gy, .int kb, .long gx, .int vb, .int la])), (aT, .inr (5, [.ref aR, .int (nI ((k + (rc3 kb vb (la + nI i) nu).length) + vN (nI nu))), .int 1])), (aR, .inl (cA, n, .inl (wrB (wrB f k (rc3 kb vb (la + nI i) nu)) (k + (rc3 kb vb (la + nI i) nu).length) (vL (nI nu)))))] H := hP
  have hD : va_D A [(aG, .inr (2, [.int (nI gn), .long gy, .int kb, .long gx, .int vb, .int la])), (aT, .inr (5, [.ref aR, .int (nI ((k + (rc3 kb vb (la + nI i) nu).length) + vN (nI nu))), .int 1])), (aR, .inl (cA, n, .inl (wrB (wrB f k (rc3 kb vb (la + nI i) nu)) (k + (rc3 kb vb (la + nI i) nu).length) (vL (nI nu)))))] := hD
  have e_12 : (wrB (wrB f k (rc3 kb vb (la + nI i) nu)) (k + (rc3 kb vb (la + nI i) nu).length) (vL (nI nu))) = (wrB f k (rc4 kb vb (la + nI i) nu)) := by exact wb_go (by unfold rc4; with_reducible rfl)
  have e_13 : (nI ((k + (rc3 kb vb (la + nI i) nu).length) + vN (nI nu))) = (nI (k + (rc4 kb vb (la + nI i) nu).length)) := by exact sz_go l4
  have hP := wP_eq (ws' := [(aG, .inr (2, [.int (nI gn), .long gy, .int kb, .long gx, .int vb, .int la])), (aT, .inr (5, [.ref aR, .int (nI (k + (rc4 kb vb (la + nI i) nu).length)), .int 1])), (aR, .inl (cA, n, .inl (wrB f k (rc4 kb vb (la + nI i) nu))))]) hP (cg2 (fun y0 y1 => ([(aG, .inr (2, [.int (nI gn), .long gy, .int kb, .long gx, .int vb, .int la])), (aT, .inr (5, [.ref aR, .int y1, .int 1])), (aR, .inl (cA, n, .inl y0))] : va_W)) e_12 e_13)
  have hD := wD_eq (ws' := [(aG, .inr (2, [.int (nI gn), .long gy, .int kb, .long gx, .int vb, .int la])), (aT, .inr (5, [.ref aR, .int (nI (k + (rc4 kb vb (la + nI i) nu).length)), .int 1])), (aR, .inl (cA, n, .inl (wrB f k (rc4 kb vb (la + nI i) nu))))]) hD (cg2 (fun y0 y1 => ([(aG, .inr (2, [.int (nI gn), .long gy, .int kb, .long gx, .int vb, .int la])), (aT, .inr (5, [.ref aR, .int y1, .int 1])), (aR, .inl (cA, n, .inl y0))] : va_W)) e_12 e_13)
  refine lv_aload_n hx hb dc_G_writeOne_33 rfl (lv_at hl 1 rfl) ?_
  refine lv_aload_n hx hb dc_G_writeOne_34 rfl (lv_at hl 0 rfl) ?_
  refine va_get (D := (dC, dI)) (ci := 2) (v := .int kb) (C := rn_G) (T := ft_G) (N := 6) hx hb hts fw_G hown hK hP 0 rfl rfl 2 (by decide) (hts _ bw2_136) (fun _ h9 => h9) rfl dc_G_writeOne_35 ?_
  refine lv_i2l (v := kb.toInt64) hx hb dc_G_writeOne_38 rfl ?_
  refine kc_v (wc := [(aT, .inr (5, [.ref aR, .int (nI (k + (rc4 kb vb (la + nI i) nu).length)), .int 1])), (aR, .inl (cA, n, .inl (wrB f k (rc4 kb vb (la + nI i) nu))))]) (wr := [(aG, .inr (2, [.int (nI gn), .long gy, .int kb, .long gx, .int vb, .int la]))]) hP hD hS hA [1, 2] [0] rfl rfl (by decide) (by decide) (va_runV (As := [.long kb.toInt64]) (rest := []) ⟨hx, hb, hml, hown, hts⟩ (c_T_putVarintX l dC dI _ aT aR cA n (wrB f k (rc4 kb vb (la + nI i) nu)) (k + (rc4 kb vb (la + nI i) nu).length) 1 kb (hd.1) (by omega) (by omega)) (kw_V 1 hts bw3_29 bw3_30 bw3_31 bw1_2 bw3_32 rfl rfl (by decide +kernel) ⟨Nat.le_of_ble_eq_true rfl, Nat.le_of_ble_eq_true rfl⟩) (kp_V (wc := [(aT, .inr (5, [.ref aR, .int (nI (k + (rc4 kb vb (la + nI i) nu).length)), .int 1])), (aR, .inl (cA, n, .inl (wrB f k (rc4 kb vb (la + nI i) nu))))]) (tc := [(cA, .byte)]) (As := [.long kb.toInt64]) hG hS hA hP hD hK [1, 2] rfl (by decide) rfl [0] rfl (ci := 5) (q0 := 1) rfl rfl) rfl rfl hl.1 rfl (lv_room (Nat.le_of_ble_eq_true rfl)) dc_G_writeOne_39 ⟨Nat.zero_le _, Nat.zero_le _⟩) (fun _ H locs hw hP hD hK1 hS => ?_)
  have hP : va_P (dC, dI) vwCl [(aG, .inr (2, [.int (nI gn), .long gy, .int kb, .long gx, .int vb, .int la])), (aT, .inr (5, [.ref aR, .int (nI ((k + (rc4 kb vb (la + nI i) nu).length) + vN kb)), .int 1])), (aR, .inl (cA, n, .inl (wrB (wrB f k (rc4 kb vb (la + nI i) nu)) (k + (rc4 kb vb (la + nI i) nu).length) (vL kb))))] H := hP
  have hD : va_D A [(aG, .inr (2, [.int (nI gn), .long gy, .int kb, .long gx, .int vb, .int la])), (aT, .inr (5, [.ref aR, .int (nI ((k + (rc4 kb vb (la + nI i) nu).length) + vN kb)), .int 1])), (aR, .inl (cA, n, .inl (wrB (wrB f k (rc4 kb vb (la + nI i) nu)) (k + (rc4 kb vb (la + nI i) nu).length) (vL kb))))] := hD
  have e_15 : (wrB (wrB f k (rc4 kb vb (la + nI i) nu)) (k + (rc4 kb vb (la + nI i) nu).length) (vL kb)) = (wrB f k (rc5 kb vb (la + nI i) nu)) := by exact wb_go (by unfold rc5; with_reducible rfl)
  have e_16 : (nI ((k + (rc4 kb vb (la + nI i) nu).length) + vN kb)) = (nI (k + (rc5 kb vb (la + nI i) nu).length)) := by exact sz_go l5
  have hP := wP_eq (ws' := [(aG, .inr (2, [.int (nI gn), .long gy, .int kb, .long gx, .int vb, .int la])), (aT, .inr (5, [.ref aR, .int (nI (k + (rc5 kb vb (la + nI i) nu).length)), .int 1])), (aR, .inl (cA, n, .inl (wrB f k (rc5 kb vb (la + nI i) nu))))]) hP (cg2 (fun y0 y1 => ([(aG, .inr (2, [.int (nI gn), .long gy, .int kb, .long gx, .int vb, .int la])), (aT, .inr (5, [.ref aR, .int y1, .int 1])), (aR, .inl (cA, n, .inl y0))] : va_W)) e_15 e_16)
  have hD := wD_eq (ws' := [(aG, .inr (2, [.int (nI gn), .long gy, .int kb, .long gx, .int vb, .int la])), (aT, .inr (5, [.ref aR, .int (nI (k + (rc5 kb vb (la + nI i) nu).length)), .int 1])), (aR, .inl (cA, n, .inl (wrB f k (rc5 kb vb (la + nI i) nu))))]) hD (cg2 (fun y0 y1 => ([(aG, .inr (2, [.int (nI gn), .long gy, .int kb, .long gx, .int vb, .int la])), (aT, .inr (5, [.ref aR, .int y1, .int 1])), (aR, .inl (cA, n, .inl y0))] : va_W)) e_15 e_16)
  refine lv_aload_n hx hb dc_G_writeOne_42 rfl (lv_at hl 1 rfl) ?_
  refine lv_aload_n hx hb dc_G_writeOne_43 rfl (lv_at hl 0 rfl) ?_
  refine va_get (D := (dC, dI)) (ci := 2) (v := .long gy) (C := rn_G) (T := ft_G) (N := 6) hx hb hts fw_G hown hK hP 0 rfl rfl 1 (by decide) (hts _ bw2_135) (fun _ h9 => h9) rfl dc_G_writeOne_44 ?_
  refine lv_iload_n hx hb dc_G_writeOne_47 rfl (lv_at hl 2 rfl) ?_
  refine lv_i2l (v := (nI i).toInt64) hx hb dc_G_writeOne_48 rfl ?_
  refine lv_ladd hx hb dc_G_writeOne_49 ?_
  refine lv_aload_n hx hb dc_G_writeOne_50 rfl (lv_at hl 0 rfl) ?_
  refine va_get (D := (dC, dI)) (ci := 2) (v := .int kb) (C := rn_G) (T := ft_G) (N := 6) hx hb hts fw_G hown hK hP 0 rfl rfl 2 (by decide) (hts _ bw2_136) (fun _ h9 => h9) rfl dc_G_writeOne_51 ?_
  refine kc_v (wc := [(aT, .inr (5, [.ref aR, .int (nI (k + (rc5 kb vb (la + nI i) nu).length)), .int 1])), (aR, .inl (cA, n, .inl (wrB f k (rc5 kb vb (la + nI i) nu))))]) (wr := [(aG, .inr (2, [.int (nI gn), .long gy, .int kb, .long gx, .int vb, .int la]))]) hP hD hS hA [1, 2] [0] rfl rfl (by decide) (by decide) (va_runV (As := [.long (gy + ((nI i).toInt64)), .int kb]) (rest := []) ⟨hx, hb, hml, hown, hts⟩ (c_T_putNumberX l dC dI _ aT aR cA n (wrB f k (rc5 kb vb (la + nI i) nu)) (k + (rc5 kb vb (la + nI i) nu).length) 1 (gy + ((nI i).toInt64)) kb (hd.1) (by omega) (by omega)) (kw_V 2 hts bw3_36 bw2_64 bw2_65 bw1_2 bw2_66 rfl rfl (by decide +kernel) ⟨Nat.le_of_ble_eq_true rfl, Nat.le_of_ble_eq_true rfl⟩) (kp_V (wc := [(aT, .inr (5, [.ref aR, .int (nI (k + (rc5 kb vb (la + nI i) nu).length)), .int 1])), (aR, .inl (cA, n, .inl (wrB f k (rc5 kb vb (la + nI i) nu))))]) (tc := [(cA, .byte)]) (As := [.long (gy + ((nI i).toInt64)), .int kb]) hG hS hA hP hD hK [1, 2] rfl (by decide) rfl [0] rfl (ci := 5) (q0 := 1) rfl rfl) rfl rfl hl.1 rfl (lv_room (Nat.le_of_ble_eq_true rfl)) dc_G_writeOne_54 ⟨Nat.zero_le _, Nat.zero_le _⟩) (fun _ H locs hw hP hD hK1 hS => ?_)
  have hP : va_P (dC, dI) vwCl [(aG, .inr (2, [.int (nI gn), .long gy, .int kb, .long gx, .int vb, .int la])), (aT, .inr (5, [.ref aR, .int (nI ((k + (rc5 kb vb (la + nI i) nu).length) + kb.toNatClampNeg)), .int (if kb.toNatClampNeg = 0 then 1 else 1)])), (aR, .inl (cA, n, .inl (wrB (wrB f k (rc5 kb vb (la + nI i) nu)) (k + (rc5 kb vb (la + nI i) nu).length) (numL (gy + ((nI i).toInt64)) kb.toNatClampNeg))))] H := hP
  have hD : va_D A [(aG, .inr (2, [.int (nI gn), .long gy, .int kb, .long gx, .int vb, .int la])), (aT, .inr (5, [.ref aR, .int (nI ((k + (rc5 kb vb (la + nI i) nu).length) + kb.toNatClampNeg)), .int (if kb.toNatClampNeg = 0 then 1 else 1)])), (aR, .inl (cA, n, .inl (wrB (wrB f k (rc5 kb vb (la + nI i) nu)) (k + (rc5 kb vb (la + nI i) nu).length) (numL (gy + ((nI i).toInt64)) kb.toNatClampNeg))))] := hD
  have e_18 : (wrB (wrB f k (rc5 kb vb (la + nI i) nu)) (k + (rc5 kb vb (la + nI i) nu).length) (numL (gy + ((nI i).toInt64)) kb.toNatClampNeg)) = (wrB f k (rc6 kb vb (la + nI i) (gy + (nI i).toInt64) nu)) := by exact wb_go (by unfold rc6; with_reducible rfl)
  have e_19 : (nI ((k + (rc5 kb vb (la + nI i) nu).length) + kb.toNatClampNeg)) = (nI (k + (rc6 kb vb (la + nI i) (gy + (nI i).toInt64) nu).length)) := by exact sz_go l6
  have e_20 : (if kb.toNatClampNeg = 0 then 1 else 1) = (1 : Int32) := by exact ite_self _
  have hP := wP_eq (ws' := [(aG, .inr (2, [.int (nI gn), .long gy, .int kb, .long gx, .int vb, .int la])), (aT, .inr (5, [.ref aR, .int (nI (k + (rc6 kb vb (la + nI i) (gy + (nI i).toInt64) nu).length)), .int 1])), (aR, .inl (cA, n, .inl (wrB f k (rc6 kb vb (la + nI i) (gy + (nI i).toInt64) nu))))]) hP (cg3 (fun y0 y1 y2 => ([(aG, .inr (2, [.int (nI gn), .long gy, .int kb, .long gx, .int vb, .int la])), (aT, .inr (5, [.ref aR, .int y1, .int y2])), (aR, .inl (cA, n, .inl y0))] : va_W)) e_18 e_19 e_20)
  have hD := wD_eq (ws' := [(aG, .inr (2, [.int (nI gn), .long gy, .int kb, .long gx, .int vb, .int la])), (aT, .inr (5, [.ref aR, .int (nI (k + (rc6 kb vb (la + nI i) (gy + (nI i).toInt64) nu).length)), .int 1])), (aR, .inl (cA, n, .inl (wrB f k (rc6 kb vb (la + nI i) (gy + (nI i).toInt64) nu))))]) hD (cg3 (fun y0 y1 y2 => ([(aG, .inr (2, [.int (nI gn), .long gy, .int kb, .long gx, .int vb, .int la])), (aT, .inr (5, [.ref aR, .int y1, .int y2])), (aR, .inl (cA, n, .inl y0))] : va_W)) e_18 e_19 e_20)
  refine lv_aload_n hx hb dc_G_writeOne_57 rfl (lv_at hl 1 rfl) ?_
  refine lv_aload_n hx hb dc_G_writeOne_58 rfl (lv_at hl 0 rfl) ?_
  refine va_get (D := (dC, dI)) (ci := 2) (v := .int vb) (C := rn_G) (T := ft_G) (N := 6) hx hb hts fw_G hown hK hP 0 rfl rfl 4 (by decide) (hts _ bw2_138) (fun _ h9 => h9) rfl dc_G_writeOne_59 ?_
  refine lv_i2l (v := vb.toInt64) hx hb dc_G_writeOne_62 rfl ?_
  refine kc_v (wc := [(aT, .inr (5, [.ref aR, .int (nI (k + (rc6 kb vb (la + nI i) (gy + (nI i).toInt64) nu).length)), .int 1])), (aR, .inl (cA, n, .inl (wrB f k (rc6 kb vb (la + nI i) (gy + (nI i).toInt64) nu))))]) (wr := [(aG, .inr (2, [.int (nI gn), .long gy, .int kb, .long gx, .int vb, .int la]))]) hP hD hS hA [1, 2] [0] rfl rfl (by decide) (by decide) (va_runV (As := [.long vb.toInt64]) (rest := []) ⟨hx, hb, hml, hown, hts⟩ (c_T_putVarintX l dC dI _ aT aR cA n (wrB f k (rc6 kb vb (la + nI i) (gy + (nI i).toInt64) nu)) (k + (rc6 kb vb (la + nI i) (gy + (nI i).toInt64) nu).length) 1 vb (hd.2.2.1) (by omega) (by omega)) (kw_V 1 hts bw3_29 bw3_30 bw3_31 bw1_2 bw3_32 rfl rfl (by decide +kernel) ⟨Nat.le_of_ble_eq_true rfl, Nat.le_of_ble_eq_true rfl⟩) (kp_V (wc := [(aT, .inr (5, [.ref aR, .int (nI (k + (rc6 kb vb (la + nI i) (gy + (nI i).toInt64) nu).length)), .int 1])), (aR, .inl (cA, n, .inl (wrB f k (rc6 kb vb (la + nI i) (gy + (nI i).toInt64) nu))))]) (tc := [(cA, .byte)]) (As := [.long vb.toInt64]) hG hS hA hP hD hK [1, 2] rfl (by decide) rfl [0] rfl (ci := 5) (q0 := 1) rfl rfl) rfl rfl hl.1 rfl (lv_room (Nat.le_of_ble_eq_true rfl)) dc_G_writeOne_63 ⟨Nat.zero_le _, Nat.zero_le _⟩) (fun _ H locs hw hP hD hK1 hS => ?_)
  have hP : va_P (dC, dI) vwCl [(aG, .inr (2, [.int (nI gn), .long gy, .int kb, .long gx, .int vb, .int la])), (aT, .inr (5, [.ref aR, .int (nI ((k + (rc6 kb vb (la + nI i) (gy + (nI i).toInt64) nu).length) + vN vb)), .int 1])), (aR, .inl (cA, n, .inl (wrB (wrB f k (rc6 kb vb (la + nI i) (gy + (nI i).toInt64) nu)) (k + (rc6 kb vb (la + nI i) (gy + (nI i).toInt64) nu).length) (vL vb))))] H := hP
  have hD : va_D A [(aG, .inr (2, [.int (nI gn), .long gy, .int kb, .long gx, .int vb, .int la])), (aT, .inr (5, [.ref aR, .int (nI ((k + (rc6 kb vb (la + nI i) (gy + (nI i).toInt64) nu).length) + vN vb)), .int 1])), (aR, .inl (cA, n, .inl (wrB (wrB f k (rc6 kb vb (la + nI i) (gy + (nI i).toInt64) nu)) (k + (rc6 kb vb (la + nI i) (gy + (nI i).toInt64) nu).length) (vL vb))))] := hD
  have e_22 : (wrB (wrB f k (rc6 kb vb (la + nI i) (gy + (nI i).toInt64) nu)) (k + (rc6 kb vb (la + nI i) (gy + (nI i).toInt64) nu).length) (vL vb)) = (wrB f k (rc7 kb vb (la + nI i) (gy + (nI i).toInt64) nu)) := by exact wb_go (by unfold rc7; with_reducible rfl)
  have e_23 : (nI ((k + (rc6 kb vb (la + nI i) (gy + (nI i).toInt64) nu).length) + vN vb)) = (nI (k + (rc7 kb vb (la + nI i) (gy + (nI i).toInt64) nu).length)) := by exact sz_go l7
  have hP := wP_eq (ws' := [(aG, .inr (2, [.int (nI gn), .long gy, .int kb, .long gx, .int vb, .int la])), (aT, .inr (5, [.ref aR, .int (nI (k + (rc7 kb vb (la + nI i) (gy + (nI i).toInt64) nu).length)), .int 1])), (aR, .inl (cA, n, .inl (wrB f k (rc7 kb vb (la + nI i) (gy + (nI i).toInt64) nu))))]) hP (cg2 (fun y0 y1 => ([(aG, .inr (2, [.int (nI gn), .long gy, .int kb, .long gx, .int vb, .int la])), (aT, .inr (5, [.ref aR, .int y1, .int 1])), (aR, .inl (cA, n, .inl y0))] : va_W)) e_22 e_23)
  have hD := wD_eq (ws' := [(aG, .inr (2, [.int (nI gn), .long gy, .int kb, .long gx, .int vb, .int la])), (aT, .inr (5, [.ref aR, .int (nI (k + (rc7 kb vb (la + nI i) (gy + (nI i).toInt64) nu).length)), .int 1])), (aR, .inl (cA, n, .inl (wrB f k (rc7 kb vb (la + nI i) (gy + (nI i).toInt64) nu))))]) hD (cg2 (fun y0 y1 => ([(aG, .inr (2, [.int (nI gn), .long gy, .int kb, .long gx, .int vb, .int la])), (aT, .inr (5, [.ref aR, .int y1, .int 1])), (aR, .inl (cA, n, .inl y0))] : va_W)) e_22 e_23)
  refine lv_iconst (v := 0) hx hb dc_G_writeOne_66 (by decide) ?_
  refine lv_istore (lv' := [(4, .int 0), (0, .ref aG), (1, .ref aT), (2, .int (nI i)), (3, .int (nI nu))]) hx hb dc_G_writeOne_67 hl (by decide) rfl (fun ls hl => ?_)
  have e_24 : (nI (k + (rc7 kb vb (la + nI i) (gy + (nI i).toInt64) nu).length)) = (nI (k + (rc8 kb vb (la + nI i) (gy + (nI i).toInt64) (gx + (nI i).toInt64) nu 0).length)) := by rw [rc8_0]
  have e_25 : (wrB f k (rc7 kb vb (la + nI i) (gy + (nI i).toInt64) nu)) = (wrB f k (rc8 kb vb (la + nI i) (gy + (nI i).toInt64) (gx + (nI i).toInt64) nu 0)) := by rw [rc8_0]
  have hP := wP_eq (ws' := [(aG, .inr (2, [.int (nI gn), .long gy, .int kb, .long gx, .int vb, .int la])), (aT, .inr (5, [.ref aR, .int (nI (k + (rc8 kb vb (la + nI i) (gy + (nI i).toInt64) (gx + (nI i).toInt64) nu 0).length)), .int 1])), (aR, .inl (cA, n, .inl (wrB f k (rc8 kb vb (la + nI i) (gy + (nI i).toInt64) (gx + (nI i).toInt64) nu 0))))]) hP (cg2 (fun y0 y1 => ([(aG, .inr (2, [.int (nI gn), .long gy, .int kb, .long gx, .int vb, .int la])), (aT, .inr (5, [.ref aR, .int y0, .int 1])), (aR, .inl (cA, n, .inl y1))] : va_W)) e_24 e_25)
  have hD := wD_eq (ws' := [(aG, .inr (2, [.int (nI gn), .long gy, .int kb, .long gx, .int vb, .int la])), (aT, .inr (5, [.ref aR, .int (nI (k + (rc8 kb vb (la + nI i) (gy + (nI i).toInt64) (gx + (nI i).toInt64) nu 0).length)), .int 1])), (aR, .inl (cA, n, .inl (wrB f k (rc8 kb vb (la + nI i) (gy + (nI i).toInt64) (gx + (nI i).toInt64) nu 0))))]) hD (cg2 (fun y0 y1 => ([(aG, .inr (2, [.int (nI gn), .long gy, .int kb, .long gx, .int vb, .int la])), (aT, .inr (5, [.ref aR, .int y0, .int 1])), (aR, .inl (cA, n, .inl y1))] : va_W)) e_24 e_25)
  refine w_loop (σ := Nat) (fun j H locs ls => j ≤ vb.toNatClampNeg ∧ va_P (dC, dI) vwCl [(aG, .inr (2, [.int (nI gn), .long gy, .int kb, .long gx, .int vb, .int la])), (aT, .inr (5, [.ref aR, .int (nI (k + (rc8 kb vb (la + nI i) (gy + (nI i).toInt64) (gx + (nI i).toInt64) nu j).length)), .int 1])), (aR, .inl (cA, n, .inl (wrB f k (rc8 kb vb (la + nI i) (gy + (nI i).toInt64) (gx + (nI i).toInt64) nu j))))] H ∧ va_D A [(aG, .inr (2, [.int (nI gn), .long gy, .int kb, .long gx, .int vb, .int la])), (aT, .inr (5, [.ref aR, .int (nI (k + (rc8 kb vb (la + nI i) (gy + (nI i).toInt64) (gx + (nI i).toInt64) nu j).length)), .int 1])), (aR, .inl (cA, n, .inl (wrB f k (rc8 kb vb (la + nI i) (gy + (nI i).toInt64) (gx + (nI i).toInt64) nu j))))] ∧ va_S A s.heap H locs ∧ lv_has ls 5 [(4, .int (nI j)), (0, .ref aG), (1, .ref aT), (2, .int (nI i)), (3, .int (nI nu))]) (fun j ls => F0 m 69 ls []) (fun _ => 0) (fun _ => 0) (fun j => vb.toNatClampNeg - j) ?_ 0 _ _ _ ⟨(show 0 ≤ vb.toNatClampNeg from Nat.zero_le _), hP.sub [0, 1, 2] rfl, hD.sub [0, 1, 2] (by decide) rfl, hS, lv_sub hl [0, 1, 2, 3, 4] rfl⟩
  rintro j H locs ls ⟨hj, hP, hD, hS, hl⟩ ih69
  have hP : va_P (dC, dI) vwCl [(aG, .inr (2, [.int (nI gn), .long gy, .int kb, .long gx, .int vb, .int la])), (aT, .inr (5, [.ref aR, .int (nI (k + (rc8 kb vb (la + nI i) (gy + (nI i).toInt64) (gx + (nI i).toInt64) nu j).length)), .int 1])), (aR, .inl (cA, n, .inl (wrB f k (rc8 kb vb (la + nI i) (gy + (nI i).toInt64) (gx + (nI i).toInt64) nu j))))] H := hP
  have hD : va_D A [(aG, .inr (2, [.int (nI gn), .long gy, .int kb, .long gx, .int vb, .int la])), (aT, .inr (5, [.ref aR, .int (nI (k + (rc8 kb vb (la + nI i) (gy + (nI i).toInt64) (gx + (nI i).toInt64) nu j).length)), .int 1])), (aR, .inl (cA, n, .inl (wrB f k (rc8 kb vb (la + nI i) (gy + (nI i).toInt64) (gx + (nI i).toInt64) nu j))))] := hD
  have hl : lv_has ls 5 [(4, .int (nI j)), (0, .ref aG), (1, .ref aT), (2, .int (nI i)), (3, .int (nI nu))] := hl
  show W _ _ _ _ _ _ _ _ _ _ _ _ _ _ _ (F0 m 69 ls [])
  have hj : j ≤ vb.toNatClampNeg := hj
  refine lv_iload hx hb dc_G_writeOne_69 (lv_at hl 0 rfl) ?_
  refine lv_aload_n hx hb dc_G_writeOne_71 rfl (lv_at hl 1 rfl) ?_
  refine va_get (D := (dC, dI)) (ci := 2) (v := .int vb) (C := rn_G) (T := ft_G) (N := 6) hx hb hts fw_G hown hK hP 0 rfl rfl 4 (by decide) (hts _ bw2_138) (fun _ h9 => h9) rfl dc_G_writeOne_72 ?_
  refine lv_icmp_ge (tgt := 105) hx hb dc_G_writeOne_75 (by decide) (fun c_26 => ?_) (fun c_26 => ?_)
  · have hiv : j = vb.toNatClampNeg := (pOk_le hd.2.2.1 hj).mp c_26
    have l8i := l8 j
    refine lv_aload_n hx hb dc_G_writeOne_105 rfl (lv_at hl 2 rfl) ?_
    refine lv_iconst (v := 0) hx hb dc_G_writeOne_106 (by decide) ?_
    refine kc_v (wc := [(aT, .inr (5, [.ref aR, .int (nI (k + (rc8 kb vb (la + nI i) (gy + (nI i).toInt64) (gx + (nI i).toInt64) nu j).length)), .int 1])), (aR, .inl (cA, n, .inl (wrB f k (rc8 kb vb (la + nI i) (gy + (nI i).toInt64) (gx + (nI i).toInt64) nu j))))]) (wr := [(aG, .inr (2, [.int (nI gn), .long gy, .int kb, .long gx, .int vb, .int la]))]) hP hD hS hA [1, 2] [0] rfl rfl (by decide) (by decide) (va_runV (As := [.int 0]) (rest := []) ⟨hx, hb, hml, hown, hts⟩ (c_T_add l dC dI _ aT aR cA n (wrB f k (rc8 kb vb (la + nI i) (gy + (nI i).toInt64) (gx + (nI i).toInt64) nu j)) (k + (rc8 kb vb (la + nI i) (gy + (nI i).toInt64) (gx + (nI i).toInt64) nu j).length) 1 (0 : Int32) (by omega) (by omega)) (kw_V 1 hts bw3_35 bw2_68 bw2_69 bw1_2 bw2_70 rfl rfl (by decide +kernel) ⟨Nat.le_of_ble_eq_true rfl, Nat.le_of_ble_eq_true rfl⟩) (kp_V (wc := [(aT, .inr (5, [.ref aR, .int (nI (k + (rc8 kb vb (la + nI i) (gy + (nI i).toInt64) (gx + (nI i).toInt64) nu j).length)), .int 1])), (aR, .inl (cA, n, .inl (wrB f k (rc8 kb vb (la + nI i) (gy + (nI i).toInt64) (gx + (nI i).toInt64) nu j))))]) (tc := [(cA, .byte)]) (As := [.int 0]) hG hS hA hP hD hK [1, 2] rfl (by decide) rfl [0] rfl (ci := 5) (q0 := 1) rfl rfl) rfl rfl hl.1 rfl (lv_room (Nat.le_of_ble_eq_true rfl)) dc_G_writeOne_107 ⟨Nat.zero_le _, Nat.zero_le _⟩) (fun _ H locs hw hP hD hK1 hS => ?_)
    have hP : va_P (dC, dI) vwCl [(aG, .inr (2, [.int (nI gn), .long gy, .int kb, .long gx, .int vb, .int la])), (aT, .inr (5, [.ref aR, .int (nI ((k + (rc8 kb vb (la + nI i) (gy + (nI i).toInt64) (gx + (nI i).toInt64) nu j).length) + 1)), .int 1])), (aR, .inl (cA, n, .inl (upd (wrB f k (rc8 kb vb (la + nI i) (gy + (nI i).toInt64) (gx + (nI i).toInt64) nu j)) (k + (rc8 kb vb (la + nI i) (gy + (nI i).toInt64) (gx + (nI i).toInt64) nu j).length) (0 : Int32).toInt8.toInt32)))] H := hP
    have hD : va_D A [(aG, .inr (2, [.int (nI gn), .long gy, .int kb, .long gx, .int vb, .int la])), (aT, .inr (5, [.ref aR, .int (nI ((k + (rc8 kb vb (la + nI i) (gy + (nI i).toInt64) (gx + (nI i).toInt64) nu j).length) + 1)), .int 1])), (aR, .inl (cA, n, .inl (upd (wrB f k (rc8 kb vb (la + nI i) (gy + (nI i).toInt64) (gx + (nI i).toInt64) nu j)) (k + (rc8 kb vb (la + nI i) (gy + (nI i).toInt64) (gx + (nI i).toInt64) nu j).length) (0 : Int32).toInt8.toInt32)))] := hD
    have e_28 : (nI ((k + (rc8 kb vb (la + nI i) (gy + (nI i).toInt64) (gx + (nI i).toInt64) nu j).length) + 1)) = (nI (k + (rc9 kb vb (la + nI i) (gy + (nI i).toInt64) (gx + (nI i).toInt64) nu).length)) := by exact sz_go (by omega)
    have e_29 : (upd (wrB f k (rc8 kb vb (la + nI i) (gy + (nI i).toInt64) (gx + (nI i).toInt64) nu j)) (k + (rc8 kb vb (la + nI i) (gy + (nI i).toInt64) (gx + (nI i).toInt64) nu j).length) (0 : Int32).toInt8.toInt32) = (wrB f k (rc9 kb vb (la + nI i) (gy + (nI i).toInt64) (gx + (nI i).toInt64) nu)) := by rw [hiv]; exact wb_add (by unfold rc9; rw [numL_0])
    have hP := wP_eq (ws' := [(aG, .inr (2, [.int (nI gn), .long gy, .int kb, .long gx, .int vb, .int la])), (aT, .inr (5, [.ref aR, .int (nI (k + (rc9 kb vb (la + nI i) (gy + (nI i).toInt64) (gx + (nI i).toInt64) nu).length)), .int 1])), (aR, .inl (cA, n, .inl (wrB f k (rc9 kb vb (la + nI i) (gy + (nI i).toInt64) (gx + (nI i).toInt64) nu))))]) hP (cg2 (fun y0 y1 => ([(aG, .inr (2, [.int (nI gn), .long gy, .int kb, .long gx, .int vb, .int la])), (aT, .inr (5, [.ref aR, .int y0, .int 1])), (aR, .inl (cA, n, .inl y1))] : va_W)) e_28 e_29)
    have hD := wD_eq (ws' := [(aG, .inr (2, [.int (nI gn), .long gy, .int kb, .long gx, .int vb, .int la])), (aT, .inr (5, [.ref aR, .int (nI (k + (rc9 kb vb (la + nI i) (gy + (nI i).toInt64) (gx + (nI i).toInt64) nu).length)), .int 1])), (aR, .inl (cA, n, .inl (wrB f k (rc9 kb vb (la + nI i) (gy + (nI i).toInt64) (gx + (nI i).toInt64) nu))))]) hD (cg2 (fun y0 y1 => ([(aG, .inr (2, [.int (nI gn), .long gy, .int kb, .long gx, .int vb, .int la])), (aT, .inr (5, [.ref aR, .int y0, .int 1])), (aR, .inl (cA, n, .inl y1))] : va_W)) e_28 e_29)
    have hP9 := hP.sub (ws' := [(aG, .inr (2, [.int (nI gn), .long gy, .int kb, .long gx, .int vb, .int la])), (aT, .inr (5, [.ref aR, .int (nI (k + (rc9 kb vb (la + nI i) (gy + (nI i).toInt64) (gx + (nI i).toInt64) nu).length)), .int 1])), (aR, .inl (cA, n, .inl (wrB f k (rc9 kb vb (la + nI i) (gy + (nI i).toInt64) (gx + (nI i).toInt64) nu))))]) [0, 1, 2] rfl
    have hD9 := hD.sub (ws' := [(aG, .inr (2, [.int (nI gn), .long gy, .int kb, .long gx, .int vb, .int la])), (aT, .inr (5, [.ref aR, .int (nI (k + (rc9 kb vb (la + nI i) (gy + (nI i).toInt64) (gx + (nI i).toInt64) nu).length)), .int 1])), (aR, .inl (cA, n, .inl (wrB f k (rc9 kb vb (la + nI i) (gy + (nI i).toInt64) (gx + (nI i).toInt64) nu))))]) [0, 1, 2] (by decide) rfl
    have hK9 := hK.sub (tys' := [(cA, .byte)]) [0] rfl
    exact W.vret hx hb hr (fun t ht hW => ⟨⟨(), rfl, trivial, by rw [ht]; exact hP9, va_K.moved hW.alike hK9, hD9⟩, hS.F ht⟩) hS.2.2 dc_G_writeOne_110
  · have hlt : j < vb.toNatClampNeg := by rcases Nat.lt_or_ge j (vb.toNatClampNeg) with h | h; exact h; exact absurd ((pOk_le hd.2.2.1 hj).mpr (by omega)) c_26
    have l8i := l8 j
    have l8s := l8 (j + 1)
    have h300 := hd.2.2.2.1
    refine lv_aload_n hx hb dc_G_writeOne_78 rfl (lv_at hl 2 rfl) ?_
    refine lv_aload_n hx hb dc_G_writeOne_79 rfl (lv_at hl 1 rfl) ?_
    refine va_get (D := (dC, dI)) (ci := 2) (v := .long gx) (C := rn_G) (T := ft_G) (N := 6) hx hb hts fw_G hown hK hP 0 rfl rfl 3 (by decide) (hts _ bw2_137) (fun _ h9 => h9) rfl dc_G_writeOne_80 ?_
    refine lv_iload_n hx hb dc_G_writeOne_83 rfl (lv_at hl 3 rfl) ?_
    refine lv_i2l (v := (nI i).toInt64) hx hb dc_G_writeOne_84 rfl ?_
    refine lv_ladd hx hb dc_G_writeOne_85 ?_
    refine lv_bipush (v := 8) hx hb dc_G_writeOne_86 (by decide) ?_
    refine lv_iload hx hb dc_G_writeOne_88 (lv_at hl 0 rfl) ?_
    refine lv_bipush (v := 7) hx hb dc_G_writeOne_90 (by decide) ?_
    refine lv_iand hx hb dc_G_writeOne_92 ?_
    refine lv_imul hx hb dc_G_writeOne_93 ?_
    refine lv_lshr (v := (gx + ((nI i).toInt64)) >>> ((8 * ((nI j) &&& 7) : Int32).toInt64 &&& 63)) hx hb dc_G_writeOne_94 rfl ?_
    refine lv_l2i (v := ((gx + ((nI i).toInt64)) >>> ((8 * ((nI j) &&& 7) : Int32).toInt64 &&& 63)).toInt32) hx hb dc_G_writeOne_95 rfl ?_
    refine kc_v (wc := [(aT, .inr (5, [.ref aR, .int (nI (k + (rc8 kb vb (la + nI i) (gy + (nI i).toInt64) (gx + (nI i).toInt64) nu j).length)), .int 1])), (aR, .inl (cA, n, .inl (wrB f k (rc8 kb vb (la + nI i) (gy + (nI i).toInt64) (gx + (nI i).toInt64) nu j))))]) (wr := [(aG, .inr (2, [.int (nI gn), .long gy, .int kb, .long gx, .int vb, .int la]))]) hP hD hS hA [1, 2] [0] rfl rfl (by decide) (by decide) (va_runV (As := [.int (((gx + ((nI i).toInt64)) >>> ((8 * ((nI j) &&& 7) : Int32).toInt64 &&& 63)).toInt32)]) (rest := []) ⟨hx, hb, hml, hown, hts⟩ (c_T_add l dC dI _ aT aR cA n (wrB f k (rc8 kb vb (la + nI i) (gy + (nI i).toInt64) (gx + (nI i).toInt64) nu j)) (k + (rc8 kb vb (la + nI i) (gy + (nI i).toInt64) (gx + (nI i).toInt64) nu j).length) 1 (((gx + ((nI i).toInt64)) >>> ((8 * ((nI j) &&& 7) : Int32).toInt64 &&& 63)).toInt32) (by omega) (by omega)) (kw_V 1 hts bw3_35 bw2_68 bw2_69 bw1_2 bw2_70 rfl rfl (by decide +kernel) ⟨Nat.le_of_ble_eq_true rfl, Nat.le_of_ble_eq_true rfl⟩) (kp_V (wc := [(aT, .inr (5, [.ref aR, .int (nI (k + (rc8 kb vb (la + nI i) (gy + (nI i).toInt64) (gx + (nI i).toInt64) nu j).length)), .int 1])), (aR, .inl (cA, n, .inl (wrB f k (rc8 kb vb (la + nI i) (gy + (nI i).toInt64) (gx + (nI i).toInt64) nu j))))]) (tc := [(cA, .byte)]) (As := [.int (((gx + ((nI i).toInt64)) >>> ((8 * ((nI j) &&& 7) : Int32).toInt64 &&& 63)).toInt32)]) hG hS hA hP hD hK [1, 2] rfl (by decide) rfl [0] rfl (ci := 5) (q0 := 1) rfl rfl) rfl rfl hl.1 rfl (lv_room (Nat.le_of_ble_eq_true rfl)) dc_G_writeOne_96 ⟨Nat.zero_le _, Nat.zero_le _⟩) (fun _ H locs hw hP hD hK1 hS => ?_)
    have hP : va_P (dC, dI) vwCl [(aG, .inr (2, [.int (nI gn), .long gy, .int kb, .long gx, .int vb, .int la])), (aT, .inr (5, [.ref aR, .int (nI ((k + (rc8 kb vb (la + nI i) (gy + (nI i).toInt64) (gx + (nI i).toInt64) nu j).length) + 1)), .int 1])), (aR, .inl (cA, n, .inl (upd (wrB f k (rc8 kb vb (la + nI i) (gy + (nI i).toInt64) (gx + (nI i).toInt64) nu j)) (k + (rc8 kb vb (la + nI i) (gy + (nI i).toInt64) (gx + (nI i).toInt64) nu j).length) (((gx + ((nI i).toInt64)) >>> ((8 * ((nI j) &&& 7) : Int32).toInt64 &&& 63)).toInt32).toInt8.toInt32)))] H := hP
    have hD : va_D A [(aG, .inr (2, [.int (nI gn), .long gy, .int kb, .long gx, .int vb, .int la])), (aT, .inr (5, [.ref aR, .int (nI ((k + (rc8 kb vb (la + nI i) (gy + (nI i).toInt64) (gx + (nI i).toInt64) nu j).length) + 1)), .int 1])), (aR, .inl (cA, n, .inl (upd (wrB f k (rc8 kb vb (la + nI i) (gy + (nI i).toInt64) (gx + (nI i).toInt64) nu j)) (k + (rc8 kb vb (la + nI i) (gy + (nI i).toInt64) (gx + (nI i).toInt64) nu j).length) (((gx + ((nI i).toInt64)) >>> ((8 * ((nI j) &&& 7) : Int32).toInt64 &&& 63)).toInt32).toInt8.toInt32)))] := hD
    refine lv_iinc (v := ((nI j) + 1)) (lv' := [(4, .int ((nI j) + 1)), (0, .ref aG), (1, .ref aT), (2, .int (nI i)), (3, .int (nI nu))]) hx hb dc_G_writeOne_99 hl (k := 0) rfl rfl (by decide) rfl (fun ls hl => ?_)
    refine lv_goto (tgt := 69) hx hb dc_G_writeOne_102 (by decide) ?_
    have e_31 : (nI ((k + (rc8 kb vb (la + nI i) (gy + (nI i).toInt64) (gx + (nI i).toInt64) nu j).length) + 1)) = (nI (k + (rc8 kb vb (la + nI i) (gy + (nI i).toInt64) (gx + (nI i).toInt64) nu (j + 1)).length)) := by exact sz_go (by omega)
    have e_32 : (upd (wrB f k (rc8 kb vb (la + nI i) (gy + (nI i).toInt64) (gx + (nI i).toInt64) nu j)) (k + (rc8 kb vb (la + nI i) (gy + (nI i).toInt64) (gx + (nI i).toInt64) nu j).length) (((gx + ((nI i).toInt64)) >>> ((8 * ((nI j) &&& 7) : Int32).toInt64 &&& 63)).toInt32).toInt8.toInt32) = (wrB f k (rc8 kb vb (la + nI i) (gy + (nI i).toInt64) (gx + (nI i).toInt64) nu (j + 1))) := by exact wb_add (by unfold rc8; rw [vaL, numL_v _ (by omega), List.append_assoc])
    have e_33 : ((nI j) + 1) = (nI (j + 1)) := by exact nI_1 _
    have hP := wP_eq (ws' := [(aG, .inr (2, [.int (nI gn), .long gy, .int kb, .long gx, .int vb, .int la])), (aT, .inr (5, [.ref aR, .int (nI (k + (rc8 kb vb (la + nI i) (gy + (nI i).toInt64) (gx + (nI i).toInt64) nu (j + 1)).length)), .int 1])), (aR, .inl (cA, n, .inl (wrB f k (rc8 kb vb (la + nI i) (gy + (nI i).toInt64) (gx + (nI i).toInt64) nu (j + 1)))))]) hP (cg2 (fun y0 y1 => ([(aG, .inr (2, [.int (nI gn), .long gy, .int kb, .long gx, .int vb, .int la])), (aT, .inr (5, [.ref aR, .int y0, .int 1])), (aR, .inl (cA, n, .inl y1))] : va_W)) e_31 e_32)
    have hD := wD_eq (ws' := [(aG, .inr (2, [.int (nI gn), .long gy, .int kb, .long gx, .int vb, .int la])), (aT, .inr (5, [.ref aR, .int (nI (k + (rc8 kb vb (la + nI i) (gy + (nI i).toInt64) (gx + (nI i).toInt64) nu (j + 1)).length)), .int 1])), (aR, .inl (cA, n, .inl (wrB f k (rc8 kb vb (la + nI i) (gy + (nI i).toInt64) (gx + (nI i).toInt64) nu (j + 1)))))]) hD (cg2 (fun y0 y1 => ([(aG, .inr (2, [.int (nI gn), .long gy, .int kb, .long gx, .int vb, .int la])), (aT, .inr (5, [.ref aR, .int y0, .int 1])), (aR, .inl (cA, n, .inl y1))] : va_W)) e_31 e_32)
    have hl := wL_eq (lv' := [(4, .int (nI (j + 1))), (0, .ref aG), (1, .ref aT), (2, .int (nI i)), (3, .int (nI nu))]) hl (cg1 (fun y0 => ([(4, .int y0), (0, .ref aG), (1, .ref aT), (2, .int (nI i)), (3, .int (nI nu))] : List (Nat × Value))) e_33)
    exact ih69 (j + 1) _ _ _ ⟨by show (j + 1) ≤ vb.toNatClampNeg; omega, hP.sub [0, 1, 2] rfl, hD.sub [0, 1, 2] (by decide) rfl, hS, lv_sub hl [0, 1, 2, 3, 4] rfl⟩ (by show vb.toNatClampNeg - (j + 1) < vb.toNatClampNeg - j; omega)
