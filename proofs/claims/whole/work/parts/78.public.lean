set_option maxHeartbeats 1000000 in
set_option maxRecDepth 100000 in
theorem c_R_init (l : Launch) (dC : Nat → ClassId) (dI : Nat → Nat → Nat) (sz : Nat) (aQ : Nat) (aT : Nat) : Met l my_R_init (wB my_R_init cd_R_init 2 none) ({ frames := 2, cells := 2, slots := 4, locals := 32 }) (va_Pc [.ref aQ, .ref aT] (PcW (dC, dI) [(aQ, .inr (4, [.null, .null, .null, .int 0, .int 0, .int 0, .int 0, .long 0]))] [] sz)) (va_Qv (fun (u : Nat × Nat) => True) (fun u => EnW (dC, dI) (va_A [(aQ, .inr (4, [.null, .null, .null, .int 0, .int 0, .int 0, .int 0, .long 0]))] sz) [(aQ, .inr (4, [.ref aT, .ref u.1, .ref u.2, .int 61, .int 0, .int 1, .int 61, .long 0])), (u.1, .inr (3, [.int (-1), .int 0])), (u.2, .inr (3, [.int (-1), .int 0]))] []) (va_A [(aQ, .inr (4, [.null, .null, .null, .int 0, .int 0, .int 0, .int 0, .long 0]))] sz)) 2 4 (va_A [(aQ, .inr (4, [.null, .null, .null, .int 0, .int 0, .int 0, .int 0, .long 0]))] sz) := by
  refine Met.ofW (cc := cd_R_init) (maxL := 2) (ret := none) (by decide) rfl ?_
  intro p e s m args below meth c s₁ B hml hv
  obtain ⟨rfl, hsz, hP, hK, hD0, hG⟩ := hv
  have hx := B.exec
  have hb := B.bytes
  have hr := B.returns
  have hts := fun (w : Cond) (h : w ∈ bigT) => atoms_spec (ws := (wB my_R_init cd_R_init 2 none)) B.pre w (List.mem_cons_of_mem _ h)
  have hown : s.vm.findClass rn_R = some m.cls := findClass_of_methodNamed B.named
  have hlocks := B.notSynchronized
  have hin : meth.name = "<init>" := (name_of_methodNamed B.named B.method).1
  subst hsz
  have hD := hD0.self (sz := s.heap.size)
  generalize hAe : va_A [(aQ, .inr (4, [.null, .null, .null, .int 0, .int 0, .int 0, .int 0, .long 0]))] s.heap.size = A at hD hG ⊢
  have hA : ∀ q : Nat, s.heap.size ≤ q → A q := fun q h => by rw [← hAe]; exact Or.inr h
  have hS : va_S A s.heap s.heap [] := va_S.rf
  have hP : va_P (dC, dI) vwCl [(aQ, .inr (4, [.null, .null, .null, .int 0, .int 0, .int 0, .int 0, .long 0]))] s.heap := hP
  have hl := lv_entry ([.ref aQ, .ref aT]) (n := 2) (Nat.le_of_ble_eq_true rfl)
  rw [lg_entry_eq]
  generalize (lg_sl ([.ref aQ, .ref aT]) ++ List.replicate (2 - (lg_sl ([.ref aQ, .ref aT])).length) Slot.unset).toArray = ls at hl ⊢
  have hl : lv_has ls 2 [(0, .ref aQ), (1, .ref aT)] := hl
  refine lv_aload_n hx hb dc_R_init_0 rfl (lv_at hl 0 rfl) ?_
  refine W.objInit hx hb hown (hts _ bw1_103) (hts _ bw1_28) (hts _ bw1_29) rfl (by rw [hml]; exact hl.1) rfl dc_R_init_1 (Nat.le_of_ble_eq_true rfl) (Nat.le_of_ble_eq_true rfl) ?_
  refine W.eq (g2 := F0 m 4 ls []) rfl ?_
  refine lv_aload_n hx hb dc_R_init_4 rfl (lv_at hl 0 rfl) ?_
  refine lv_aload_n hx hb dc_R_init_5 rfl (lv_at hl 1 rfl) ?_
  refine va_putF (D := (dC, dI)) (ci := 4) (v := .ref aT) (ty := .object "BatchBytes$Tape") (C := rn_R) (T := ft_R) (N := 8) hx hb hts fw_R fy_R fo_R fn_R hown hK hP hD hS 0 rfl rfl 0 (by decide) (hts _ bw1_121) (fun _ h9 => h9) rfl hin rfl (by decide +kernel) rfl rfl (Nat.le_of_ble_eq_true rfl) dc_R_init_6 (fun H locs hP hD hS => ?_)
  have hP : va_P (dC, dI) vwCl [(aQ, .inr (4, [.ref aT, .null, .null, .int 0, .int 0, .int 0, .int 0, .long 0]))] H := hP
  have hD : va_D A [(aQ, .inr (4, [.ref aT, .null, .null, .int 0, .int 0, .int 0, .int 0, .long 0]))] := hD
  refine lv_aload_n hx hb dc_R_init_9 rfl (lv_at hl 0 rfl) ?_
  refine va_new (ci := 3) (fs := [.int 0, .int 0]) (C := rn_P) (T := ft_P) (N := 2) hx hb hts fw_P fy_P fo_P hown (hts _ bw1_104) (hts _ bw1_105) (hts _ bw1_8) hK hP hD hS hA rfl (fun j hj => by rcases (show j = 0 ∨ j = 1 by omega) with rfl | rfl <;> rfl) (by show _ ≤ 2; omega) (by show _ ≤ 4; omega) dc_R_init_10 (fun q_1 H hP hD hS => ?_)
  have hP : va_P (dC, dI) vwCl [(aQ, .inr (4, [.ref aT, .null, .null, .int 0, .int 0, .int 0, .int 0, .long 0])), (q_1, .inr (3, [.int 0, .int 0]))] H := hP
  have hD : va_D A [(aQ, .inr (4, [.ref aT, .null, .null, .int 0, .int 0, .int 0, .int 0, .long 0])), (q_1, .inr (3, [.int 0, .int 0]))] := hD
  refine lv_dup hx hb dc_R_init_13 rfl ?_
  refine kc_v (wc := [(q_1, .inr (3, [.int 0, .int 0]))]) (wr := [(aQ, .inr (4, [.ref aT, .null, .null, .int 0, .int 0, .int 0, .int 0, .long 0]))]) hP hD hS hA [1] [0] rfl rfl (by decide) (by decide) (va_runI (As := []) (rest := [.ref q_1, .ref aQ]) ⟨hx, hb, hml, hown, hts⟩ (c_P_init l dC dI _ q_1 ) (kw_I 0 hts bw1_106 bw1_107 bw1_8 bw1_108 rfl rfl rfl (by decide +kernel) ⟨Nat.le_of_ble_eq_true rfl, Nat.le_of_ble_eq_true rfl⟩) (kp_S (wc := [(q_1, .inr (3, [.int 0, .int 0]))]) (tc := []) (av := [.ref q_1]) hG hS hA hP hD hK [1] rfl (by decide) rfl [] rfl) rfl rfl hl.1 rfl (lv_room (Nat.le_of_ble_eq_true rfl)) dc_R_init_14 ⟨by show _ ≤ 2; omega, by show _ ≤ 4; omega⟩) (fun _ H locs hw hP hD hK1 hS => ?_)
  have hP : va_P (dC, dI) vwCl [(aQ, .inr (4, [.ref aT, .null, .null, .int 0, .int 0, .int 0, .int 0, .long 0])), (q_1, .inr (3, [.int (-1), .int 0]))] H := hP
  have hD : va_D A [(aQ, .inr (4, [.ref aT, .null, .null, .int 0, .int 0, .int 0, .int 0, .long 0])), (q_1, .inr (3, [.int (-1), .int 0]))] := hD
  refine va_putF (D := (dC, dI)) (ci := 4) (v := .ref q_1) (ty := .object "BatchBytes$Part") (C := rn_R) (T := ft_R) (N := 8) hx hb hts fw_R fy_R fo_R fn_R hown hK hP hD hS 0 rfl rfl 1 (by decide) (hts _ bw1_122) (fun _ h9 => h9) rfl hin rfl (by decide +kernel) rfl rfl (Nat.le_of_ble_eq_true rfl) dc_R_init_17 (fun H locs hP hD hS => ?_)
  have hP : va_P (dC, dI) vwCl [(aQ, .inr (4, [.ref aT, .ref q_1, .null, .int 0, .int 0, .int 0, .int 0, .long 0])), (q_1, .inr (3, [.int (-1), .int 0]))] H := hP
  have hD : va_D A [(aQ, .inr (4, [.ref aT, .ref q_1, .null, .int 0, .int 0, .int 0, .int 0, .long 0])), (q_1, .inr (3, [.int (-1), .int 0]))] := hD
  refine lv_aload_n hx hb dc_R_init_20 rfl (lv_at hl 0 rfl) ?_
  refine va_new (ci := 3) (fs := [.int 0, .int 0]) (C := rn_P) (T := ft_P) (N := 2) hx hb hts fw_P fy_P fo_P hown (hts _ bw1_104) (hts _ bw1_105) (hts _ bw1_8) hK hP hD hS hA rfl (fun j hj => by rcases (show j = 0 ∨ j = 1 by omega) with rfl | rfl <;> rfl) (by show _ ≤ 2; omega) (by show _ ≤ 4; omega) dc_R_init_21 (fun q_3 H hP hD hS => ?_)
  have hP : va_P (dC, dI) vwCl [(aQ, .inr (4, [.ref aT, .ref q_1, .null, .int 0, .int 0, .int 0, .int 0, .long 0])), (q_1, .inr (3, [.int (-1), .int 0])), (q_3, .inr (3, [.int 0, .int 0]))] H := hP
  have hD : va_D A [(aQ, .inr (4, [.ref aT, .ref q_1, .null, .int 0, .int 0, .int 0, .int 0, .long 0])), (q_1, .inr (3, [.int (-1), .int 0])), (q_3, .inr (3, [.int 0, .int 0]))] := hD
  refine lv_dup hx hb dc_R_init_24 rfl ?_
  refine kc_v (wc := [(q_3, .inr (3, [.int 0, .int 0]))]) (wr := [(aQ, .inr (4, [.ref aT, .ref q_1, .null, .int 0, .int 0, .int 0, .int 0, .long 0])), (q_1, .inr (3, [.int (-1), .int 0]))]) hP hD hS hA [2] [0, 1] rfl rfl (by decide) (by decide) (va_runI (As := []) (rest := [.ref q_3, .ref aQ]) ⟨hx, hb, hml, hown, hts⟩ (c_P_init l dC dI _ q_3 ) (kw_I 0 hts bw1_106 bw1_107 bw1_8 bw1_108 rfl rfl rfl (by decide +kernel) ⟨Nat.le_of_ble_eq_true rfl, Nat.le_of_ble_eq_true rfl⟩) (kp_S (wc := [(q_3, .inr (3, [.int 0, .int 0]))]) (tc := []) (av := [.ref q_3]) hG hS hA hP hD hK [2] rfl (by decide) rfl [] rfl) rfl rfl hl.1 rfl (lv_room (Nat.le_of_ble_eq_true rfl)) dc_R_init_25 ⟨by show _ ≤ 2; omega, by show _ ≤ 4; omega⟩) (fun _ H locs hw hP hD hK1 hS => ?_)
  have hP : va_P (dC, dI) vwCl [(aQ, .inr (4, [.ref aT, .ref q_1, .null, .int 0, .int 0, .int 0, .int 0, .long 0])), (q_1, .inr (3, [.int (-1), .int 0])), (q_3, .inr (3, [.int (-1), .int 0]))] H := hP
  have hD : va_D A [(aQ, .inr (4, [.ref aT, .ref q_1, .null, .int 0, .int 0, .int 0, .int 0, .long 0])), (q_1, .inr (3, [.int (-1), .int 0])), (q_3, .inr (3, [.int (-1), .int 0]))] := hD
  refine va_putF (D := (dC, dI)) (ci := 4) (v := .ref q_3) (ty := .object "BatchBytes$Part") (C := rn_R) (T := ft_R) (N := 8) hx hb hts fw_R fy_R fo_R fn_R hown hK hP hD hS 0 rfl rfl 2 (by decide) (hts _ bw1_124) (fun _ h9 => h9) rfl hin rfl (by decide +kernel) rfl rfl (Nat.le_of_ble_eq_true rfl) dc_R_init_28 (fun H locs hP hD hS => ?_)
  have hP : va_P (dC, dI) vwCl [(aQ, .inr (4, [.ref aT, .ref q_1, .ref q_3, .int 0, .int 0, .int 0, .int 0, .long 0])), (q_1, .inr (3, [.int (-1), .int 0])), (q_3, .inr (3, [.int (-1), .int 0]))] H := hP
  have hD : va_D A [(aQ, .inr (4, [.ref aT, .ref q_1, .ref q_3, .int 0, .int 0, .int 0, .int 0, .long 0])), (q_1, .inr (3, [.int (-1), .int 0])), (q_3, .inr (3, [.int (-1), .int 0]))] := hD
  refine lv_aload_n hx hb dc_R_init_31 rfl (lv_at hl 0 rfl) ?_
  refine lv_bipush (v := 61) hx hb dc_R_init_32 (by decide) ?_
  refine va_put (D := (dC, dI)) (ci := 4) (v := .int 61) (ty := .int) (C := rn_R) (T := ft_R) (N := 8) hx hb hts fw_R fy_R fo_R fn_R hown hK hP hD hS 0 rfl rfl 3 (by decide) (hts _ bw1_126) (fun _ h9 => h9) rfl (by decide +kernel) rfl rfl (Nat.le_of_ble_eq_true rfl) dc_R_init_34 (fun H locs hP hD hS => ?_)
  have hP : va_P (dC, dI) vwCl [(aQ, .inr (4, [.ref aT, .ref q_1, .ref q_3, .int 61, .int 0, .int 0, .int 0, .long 0])), (q_1, .inr (3, [.int (-1), .int 0])), (q_3, .inr (3, [.int (-1), .int 0]))] H := hP
  have hD : va_D A [(aQ, .inr (4, [.ref aT, .ref q_1, .ref q_3, .int 61, .int 0, .int 0, .int 0, .long 0])), (q_1, .inr (3, [.int (-1), .int 0])), (q_3, .inr (3, [.int (-1), .int 0]))] := hD
  refine lv_aload_n hx hb dc_R_init_37 rfl (lv_at hl 0 rfl) ?_
  refine lv_iconst (v := 0) hx hb dc_R_init_38 (by decide) ?_
  refine va_put (D := (dC, dI)) (ci := 4) (v := .int 0) (ty := .int) (C := rn_R) (T := ft_R) (N := 8) hx hb hts fw_R fy_R fo_R fn_R hown hK hP hD hS 0 rfl rfl 4 (by decide) (hts _ bw1_128) (fun _ h9 => h9) rfl (by decide +kernel) rfl rfl (Nat.le_of_ble_eq_true rfl) dc_R_init_39 (fun H locs hP hD hS => ?_)
  have hP : va_P (dC, dI) vwCl [(aQ, .inr (4, [.ref aT, .ref q_1, .ref q_3, .int 61, .int 0, .int 0, .int 0, .long 0])), (q_1, .inr (3, [.int (-1), .int 0])), (q_3, .inr (3, [.int (-1), .int 0]))] H := hP
  have hD : va_D A [(aQ, .inr (4, [.ref aT, .ref q_1, .ref q_3, .int 61, .int 0, .int 0, .int 0, .long 0])), (q_1, .inr (3, [.int (-1), .int 0])), (q_3, .inr (3, [.int (-1), .int 0]))] := hD
  refine lv_aload_n hx hb dc_R_init_42 rfl (lv_at hl 0 rfl) ?_
  refine lv_iconst (v := 1) hx hb dc_R_init_43 (by decide) ?_
  refine va_put (D := (dC, dI)) (ci := 4) (v := .int 1) (ty := .boolean) (C := rn_R) (T := ft_R) (N := 8) hx hb hts fw_R fy_R fo_R fn_R hown hK hP hD hS 0 rfl rfl 5 (by decide) (hts _ bw1_129) (fun _ h9 => h9) rfl (by decide +kernel) rfl rfl (Nat.le_of_ble_eq_true rfl) dc_R_init_44 (fun H locs hP hD hS => ?_)
  have hP : va_P (dC, dI) vwCl [(aQ, .inr (4, [.ref aT, .ref q_1, .ref q_3, .int 61, .int 0, .int 1, .int 0, .long 0])), (q_1, .inr (3, [.int (-1), .int 0])), (q_3, .inr (3, [.int (-1), .int 0]))] H := hP
  have hD : va_D A [(aQ, .inr (4, [.ref aT, .ref q_1, .ref q_3, .int 61, .int 0, .int 1, .int 0, .long 0])), (q_1, .inr (3, [.int (-1), .int 0])), (q_3, .inr (3, [.int (-1), .int 0]))] := hD
  refine lv_aload_n hx hb dc_R_init_47 rfl (lv_at hl 0 rfl) ?_
  refine lv_bipush (v := 61) hx hb dc_R_init_48 (by decide) ?_
  refine va_put (D := (dC, dI)) (ci := 4) (v := .int 61) (ty := .int) (C := rn_R) (T := ft_R) (N := 8) hx hb hts fw_R fy_R fo_R fn_R hown hK hP hD hS 0 rfl rfl 6 (by decide) (hts _ bw1_130) (fun _ h9 => h9) rfl (by decide +kernel) rfl rfl (Nat.le_of_ble_eq_true rfl) dc_R_init_50 (fun H locs hP hD hS => ?_)
  have hP : va_P (dC, dI) vwCl [(aQ, .inr (4, [.ref aT, .ref q_1, .ref q_3, .int 61, .int 0, .int 1, .int 61, .long 0])), (q_1, .inr (3, [.int (-1), .int 0])), (q_3, .inr (3, [.int (-1), .int 0]))] H := hP
  have hD : va_D A [(aQ, .inr (4, [.ref aT, .ref q_1, .ref q_3, .int 61, .int 0, .int 1, .int 61, .long 0])), (q_1, .inr (3, [.int (-1), .int 0])), (q_3, .inr (3, [.int (-1), .int 0]))] := hD
  refine lv_aload_n hx hb dc_R_init_53 rfl (lv_at hl 0 rfl) ?_
  refine lv_lconst (v := 0) hx hb dc_R_init_54 rfl ?_
  refine va_put (D := (dC, dI)) (ci := 4) (v := .long 0) (ty := .long) (C := rn_R) (T := ft_R) (N := 8) hx hb hts fw_R fy_R fo_R fn_R hown hK hP hD hS 0 rfl rfl 7 (by decide) (hts _ bw1_132) (fun _ h9 => h9) rfl (by decide +kernel) rfl rfl (Nat.le_of_ble_eq_true rfl) dc_R_init_55 (fun H locs hP hD hS => ?_)
  have hP : va_P (dC, dI) vwCl [(aQ, .inr (4, [.ref aT, .ref q_1, .ref q_3, .int 61, .int 0, .int 1, .int 61, .long 0])), (q_1, .inr (3, [.int (-1), .int 0])), (q_3, .inr (3, [.int (-1), .int 0]))] H := hP
  have hD : va_D A [(aQ, .inr (4, [.ref aT, .ref q_1, .ref q_3, .int 61, .int 0, .int 1, .int 61, .long 0])), (q_1, .inr (3, [.int (-1), .int 0])), (q_3, .inr (3, [.int (-1), .int 0]))] := hD
  have hP9 := hP.sub (ws' := [(aQ, .inr (4, [.ref aT, .ref q_1, .ref q_3, .int 61, .int 0, .int 1, .int 61, .long 0])), (q_1, .inr (3, [.int (-1), .int 0])), (q_3, .inr (3, [.int (-1), .int 0]))]) [0, 1, 2] rfl
  have hD9 := hD.sub (ws' := [(aQ, .inr (4, [.ref aT, .ref q_1, .ref q_3, .int 61, .int 0, .int 1, .int 61, .long 0])), (q_1, .inr (3, [.int (-1), .int 0])), (q_3, .inr (3, [.int (-1), .int 0]))]) [0, 1, 2] (by decide) rfl
  have hK9 := hK.sub (tys' := []) [] rfl
  refine W.widen (k := 2) (n := 4) (by omega) (by omega) ?_
  exact W.vret hx hb hr (fun t ht hW => ⟨⟨(q_1, q_3), rfl, trivial, by rw [ht]; exact hP9, va_K.moved hW.alike hK9, hD9⟩, hS.F ht⟩) hS.2.2 dc_R_init_58

set_option maxHeartbeats 1000000 in
set_option maxRecDepth 100000 in
theorem c_B_init (l : Launch) (dC : Nat → ClassId) (dI : Nat → Nat → Nat) (sz : Nat) (eE : Nat) (aB : Nat) : Met l my_B_init (wB my_B_init cd_B_init 1 none) ({ frames := 5, cells := 7, slots := 86, locals := 92 }) (va_Pc [.ref aB] (PcE (dC, dI) eE [(aB, .inr (6, [.null, .null, .null, .int 0, .int 0]))] [] sz)) (va_Qv (fun (u : Nat × Nat × ClassId × Nat × Nat × Nat × Nat × Nat) => True) (fun u => EnW (dC, dI) (va_A [(aB, .inr (6, [.null, .null, .null, .int 0, .int 0]))] sz) [(aB, .inr (6, [.ref u.1, .ref u.2.2.2.1, .ref u.2.2.2.2.2.1, .int 0, .int (-1)])), (u.1, .inr (5, [.ref u.2.1, .int (nI 0), .int 1])), (u.2.1, .inl (u.2.2.1, 64, .inl (fun _ => 0))), (u.2.2.2.1, .inr (1, [.ref u.2.2.2.2.1, .int (nI 0), .int (nI 0), .int 0])), (u.2.2.2.2.1, .inr (0, [.int 0, .ref eE, .int (nI 0)])), (u.2.2.2.2.2.1, .inr (4, [.ref u.1, .ref u.2.2.2.2.2.2.1, .ref u.2.2.2.2.2.2.2, .int 61, .int 0, .int 1, .int 61, .long 0])), (u.2.2.2.2.2.2.1, .inr (3, [.int (-1), .int 0])), (u.2.2.2.2.2.2.2, .inr (3, [.int (-1), .int 0]))] [(u.2.2.1, .byte)]) (va_A [(aB, .inr (6, [.null, .null, .null, .int 0, .int 0]))] sz)) 7 86 (va_A [(aB, .inr (6, [.null, .null, .null, .int 0, .int 0]))] sz) := by
  refine Met.ofW (cc := cd_B_init) (maxL := 1) (ret := none) (by decide) rfl ?_
  intro p e s m args below meth c s₁ B hml hv
  obtain ⟨rfl, ⟨hsz, hP, hK, hD0, hG⟩, hE⟩ := hv
  have hx := B.exec
  have hb := B.bytes
  have hr := B.returns
  have hts := fun (w : Cond) (h : w ∈ bigT) => atoms_spec (ws := (wB my_B_init cd_B_init 1 none)) B.pre w (List.mem_cons_of_mem _ h)
  have hown : s.vm.findClass rn_B = some m.cls := findClass_of_methodNamed B.named
  have hlocks := B.notSynchronized
  have hin : meth.name = "<init>" := (name_of_methodNamed B.named B.method).1
  subst hsz
  have hD := hD0.self (sz := s.heap.size)
  generalize hAe : va_A [(aB, .inr (6, [.null, .null, .null, .int 0, .int 0]))] s.heap.size = A at hD hG hE ⊢
  have gE1 := hE.1
  have gE2 := hE.2
  have hA : ∀ q : Nat, s.heap.size ≤ q → A q := fun q h => by rw [← hAe]; exact Or.inr h
  have hS : va_S A s.heap s.heap [] := va_S.rf
  have hP : va_P (dC, dI) vwCl [(aB, .inr (6, [.null, .null, .null, .int 0, .int 0]))] s.heap := hP
  have hl := lv_entry ([.ref aB]) (n := 1) (Nat.le_of_ble_eq_true rfl)
  rw [lg_entry_eq]
  generalize (lg_sl ([.ref aB]) ++ List.replicate (1 - (lg_sl ([.ref aB])).length) Slot.unset).toArray = ls at hl ⊢
  have hl : lv_has ls 1 [(0, .ref aB)] := hl
  refine lv_aload_n hx hb dc_B_init_0 rfl (lv_at hl 0 rfl) ?_
  refine W.objInit hx hb hown (hts _ bw1_27) (hts _ bw1_28) (hts _ bw1_29) rfl (by rw [hml]; exact hl.1) rfl dc_B_init_1 (Nat.le_of_ble_eq_true rfl) (Nat.le_of_ble_eq_true rfl) ?_
  refine W.eq (g2 := F0 m 4 ls []) rfl ?_
  refine lv_aload_n hx hb dc_B_init_4 rfl (lv_at hl 0 rfl) ?_
  refine va_new (ci := 5) (fs := [.null, .int 0, .int 0]) (C := rn_T) (T := ft_T) (N := 3) hx hb hts fw_T fy_T fo_T hown (hts _ bw1_30) (hts _ bw1_31) (hts _ bw1_2) hK hP hD hS hA rfl (fun j hj => by rcases (show j = 0 ∨ j = 1 ∨ j = 2 by omega) with rfl | rfl | rfl <;> rfl) (by show _ ≤ 7; omega) (by show _ ≤ 86; omega) dc_B_init_5 (fun q_1 H hP hD hS => ?_)
  have hP : va_P (dC, dI) vwCl [(aB, .inr (6, [.null, .null, .null, .int 0, .int 0])), (q_1, .inr (5, [.null, .int 0, .int 0]))] H := hP
  have hD : va_D A [(aB, .inr (6, [.null, .null, .null, .int 0, .int 0])), (q_1, .inr (5, [.null, .int 0, .int 0]))] := hD
  refine lv_dup hx hb dc_B_init_8 rfl ?_
  refine kc_v (wc := [(q_1, .inr (5, [.null, .int 0, .int 0]))]) (wr := [(aB, .inr (6, [.null, .null, .null, .int 0, .int 0]))]) hP hD hS hA [1] [0] rfl rfl (by decide) (by decide) (va_runI (As := []) (rest := [.ref q_1, .ref aB]) ⟨hx, hb, hml, hown, hts⟩ (c_T_init l dC dI _ q_1 ) (kw_I 0 hts bw1_32 bw1_33 bw1_2 bw1_34 rfl rfl rfl (by decide +kernel) ⟨Nat.le_of_ble_eq_true rfl, Nat.le_of_ble_eq_true rfl⟩) (kp_S (wc := [(q_1, .inr (5, [.null, .int 0, .int 0]))]) (tc := []) (av := [.ref q_1]) hG hS hA hP hD hK [1] rfl (by decide) rfl [] rfl) rfl rfl hl.1 rfl (lv_room (Nat.le_of_ble_eq_true rfl)) dc_B_init_9 ⟨by show _ ≤ 7; omega, by show _ ≤ 86; omega⟩) (fun u_5 H locs hw hP hD hK1 hS => ?_)
  obtain ⟨aR_2, cA_3⟩ := u_5
  have hK := hK.app hK1
  have hK : va_K (dC, dI) vwCl [(cA_3, .byte)] s := hK
  have hP : va_P (dC, dI) vwCl [(aB, .inr (6, [.null, .null, .null, .int 0, .int 0])), (q_1, .inr (5, [.ref aR_2, .int (nI 0), .int 1])), (aR_2, .inl (cA_3, 64, .inl (fun _ => 0)))] H := hP
  have hD : va_D A [(aB, .inr (6, [.null, .null, .null, .int 0, .int 0])), (q_1, .inr (5, [.ref aR_2, .int (nI 0), .int 1])), (aR_2, .inl (cA_3, 64, .inl (fun _ => 0)))] := hD
  refine va_putF (D := (dC, dI)) (ci := 6) (v := .ref q_1) (ty := .object "BatchBytes$Tape") (C := rn_B) (T := ft_B) (N := 5) hx hb hts fw_B fy_B fo_B fn_B hown hK hP hD hS 0 rfl rfl 0 (by decide) (hts _ bw1_151) (fun _ h9 => h9) rfl hin rfl (by decide +kernel) rfl rfl (Nat.le_of_ble_eq_true rfl) dc_B_init_12 (fun H locs hP hD hS => ?_)
  have hP : va_P (dC, dI) vwCl [(aB, .inr (6, [.ref q_1, .null, .null, .int 0, .int 0])), (q_1, .inr (5, [.ref aR_2, .int (nI 0), .int 1])), (aR_2, .inl (cA_3, 64, .inl (fun _ => 0)))] H := hP
  have hD : va_D A [(aB, .inr (6, [.ref q_1, .null, .null, .int 0, .int 0])), (q_1, .inr (5, [.ref aR_2, .int (nI 0), .int 1])), (aR_2, .inl (cA_3, 64, .inl (fun _ => 0)))] := hD
  refine lv_aload_n hx hb dc_B_init_15 rfl (lv_at hl 0 rfl) ?_
  refine va_new (ci := 1) (fs := [.null, .int 0, .int 0, .int 0]) (C := rn_D) (T := ft_D) (N := 4) hx hb hts fw_D fy_D fo_D hown (hts _ bw1_50) (hts _ bw1_51) (hts _ bw1_3) hK hP hD hS hA rfl (fun j hj => by rcases (show j = 0 ∨ j = 1 ∨ j = 2 ∨ j = 3 by omega) with rfl | rfl | rfl | rfl <;> rfl) (by show _ ≤ 7; omega) (by show _ ≤ 86; omega) dc_B_init_16 (fun q_6 H hP hD hS => ?_)
  have hP : va_P (dC, dI) vwCl [(aB, .inr (6, [.ref q_1, .null, .null, .int 0, .int 0])), (q_1, .inr (5, [.ref aR_2, .int (nI 0), .int 1])), (aR_2, .inl (cA_3, 64, .inl (fun _ => 0))), (q_6, .inr (1, [.null, .int 0, .int 0, .int 0]))] H := hP
  have hD : va_D A [(aB, .inr (6, [.ref q_1, .null, .null, .int 0, .int 0])), (q_1, .inr (5, [.ref aR_2, .int (nI 0), .int 1])), (aR_2, .inl (cA_3, 64, .inl (fun _ => 0))), (q_6, .inr (1, [.null, .int 0, .int 0, .int 0]))] := hD
  refine lv_dup hx hb dc_B_init_19 rfl ?_
  refine kc_v (wc := [(q_6, .inr (1, [.null, .int 0, .int 0, .int 0]))]) (wr := [(aB, .inr (6, [.ref q_1, .null, .null, .int 0, .int 0])), (q_1, .inr (5, [.ref aR_2, .int (nI 0), .int 1])), (aR_2, .inl (cA_3, 64, .inl (fun _ => 0)))]) hP hD hS hA [3] [0, 1, 2] rfl rfl (by decide) (by decide) (va_runI (As := []) (rest := [.ref q_6, .ref aB]) ⟨hx, hb, hml, hown, hts⟩ (c_D_init l dC dI _ eE q_6 ) (kw_I 0 hts bw1_52 bw1_53 bw1_3 bw1_54 rfl rfl rfl (by decide +kernel) ⟨Nat.le_of_ble_eq_true rfl, Nat.le_of_ble_eq_true rfl⟩) (kp_SE (wc := [(q_6, .inr (1, [.null, .int 0, .int 0, .int 0]))]) (tc := []) (av := [.ref q_6]) hE hG hS hA hP hD hK [3] rfl (by decide) rfl [] rfl) rfl rfl hl.1 rfl (lv_room (Nat.le_of_ble_eq_true rfl)) dc_B_init_20 ⟨by show _ ≤ 7; omega, by show _ ≤ 86; omega⟩) (fun aL_7 H locs hw hP hD hK1 hS => ?_)
  have hP : va_P (dC, dI) vwCl [(aB, .inr (6, [.ref q_1, .null, .null, .int 0, .int 0])), (q_1, .inr (5, [.ref aR_2, .int (nI 0), .int 1])), (aR_2, .inl (cA_3, 64, .inl (fun _ => 0))), (q_6, .inr (1, [.ref aL_7, .int (nI 0), .int (nI 0), .int 0])), (aL_7, .inr (0, [.int 0, .ref eE, .int (nI 0)]))] H := hP
  have hD : va_D A [(aB, .inr (6, [.ref q_1, .null, .null, .int 0, .int 0])), (q_1, .inr (5, [.ref aR_2, .int (nI 0), .int 1])), (aR_2, .inl (cA_3, 64, .inl (fun _ => 0))), (q_6, .inr (1, [.ref aL_7, .int (nI 0), .int (nI 0), .int 0])), (aL_7, .inr (0, [.int 0, .ref eE, .int (nI 0)]))] := hD
  refine va_putF (D := (dC, dI)) (ci := 6) (v := .ref q_6) (ty := .object "BatchBytes$Draft") (C := rn_B) (T := ft_B) (N := 5) hx hb hts fw_B fy_B fo_B fn_B hown hK hP hD hS 0 rfl rfl 1 (by decide) (hts _ bw1_152) (fun _ h9 => h9) rfl hin rfl (by decide +kernel) rfl rfl (Nat.le_of_ble_eq_true rfl) dc_B_init_23 (fun H locs hP hD hS => ?_)
  have hP : va_P (dC, dI) vwCl [(aB, .inr (6, [.ref q_1, .ref q_6, .null, .int 0, .int 0])), (q_1, .inr (5, [.ref aR_2, .int (nI 0), .int 1])), (aR_2, .inl (cA_3, 64, .inl (fun _ => 0))), (q_6, .inr (1, [.ref aL_7, .int (nI 0), .int (nI 0), .int 0])), (aL_7, .inr (0, [.int 0, .ref eE, .int (nI 0)]))] H := hP
  have hD : va_D A [(aB, .inr (6, [.ref q_1, .ref q_6, .null, .int 0, .int 0])), (q_1, .inr (5, [.ref aR_2, .int (nI 0), .int 1])), (aR_2, .inl (cA_3, 64, .inl (fun _ => 0))), (q_6, .inr (1, [.ref aL_7, .int (nI 0), .int (nI 0), .int 0])), (aL_7, .inr (0, [.int 0, .ref eE, .int (nI 0)]))] := hD
  refine lv_aload_n hx hb dc_B_init_26 rfl (lv_at hl 0 rfl) ?_
  refine va_new (ci := 4) (fs := [.null, .null, .null, .int 0, .int 0, .int 0, .int 0, .long 0]) (C := rn_R) (T := ft_R) (N := 8) hx hb hts fw_R fy_R fo_R hown (hts _ bw1_98) (hts _ bw1_99) (hts _ bw1_7) hK hP hD hS hA rfl (fun j hj => by rcases (show j = 0 ∨ j = 1 ∨ j = 2 ∨ j = 3 ∨ j = 4 ∨ j = 5 ∨ j = 6 ∨ j = 7 by omega) with rfl | rfl | rfl | rfl | rfl | rfl | rfl | rfl <;> rfl) (by show _ ≤ 7; omega) (by show _ ≤ 86; omega) dc_B_init_27 (fun q_9 H hP hD hS => ?_)
  have hP : va_P (dC, dI) vwCl [(aB, .inr (6, [.ref q_1, .ref q_6, .null, .int 0, .int 0])), (q_1, .inr (5, [.ref aR_2, .int (nI 0), .int 1])), (aR_2, .inl (cA_3, 64, .inl (fun _ => 0))), (q_6, .inr (1, [.ref aL_7, .int (nI 0), .int (nI 0), .int 0])), (aL_7, .inr (0, [.int 0, .ref eE, .int (nI 0)])), (q_9, .inr (4, [.null, .null, .null, .int 0, .int 0, .int 0, .int 0, .long 0]))] H := hP
  have hD : va_D A [(aB, .inr (6, [.ref q_1, .ref q_6, .null, .int 0, .int 0])), (q_1, .inr (5, [.ref aR_2, .int (nI 0), .int 1])), (aR_2, .inl (cA_3, 64, .inl (fun _ => 0))), (q_6, .inr (1, [.ref aL_7, .int (nI 0), .int (nI 0), .int 0])), (aL_7, .inr (0, [.int 0, .ref eE, .int (nI 0)])), (q_9, .inr (4, [.null, .null, .null, .int 0, .int 0, .int 0, .int 0, .long 0]))] := hD
  refine lv_dup hx hb dc_B_init_30 rfl ?_
  refine lv_aload_n hx hb dc_B_init_31 rfl (lv_at hl 0 rfl) ?_
  refine va_get (D := (dC, dI)) (ci := 6) (v := .ref q_1) (C := rn_B) (T := ft_B) (N := 5) hx hb hts fw_B hown hK hP 0 rfl rfl 0 (by decide) (hts _ bw1_151) (fun _ h9 => h9) rfl dc_B_init_32 ?_
  refine kc_v (wc := [(q_9, .inr (4, [.null, .null, .null, .int 0, .int 0, .int 0, .int 0, .long 0]))]) (wr := [(aB, .inr (6, [.ref q_1, .ref q_6, .null, .int 0, .int 0])), (q_1, .inr (5, [.ref aR_2, .int (nI 0), .int 1])), (aR_2, .inl (cA_3, 64, .inl (fun _ => 0))), (q_6, .inr (1, [.ref aL_7, .int (nI 0), .int (nI 0), .int 0])), (aL_7, .inr (0, [.int 0, .ref eE, .int (nI 0)]))]) hP hD hS hA [5] [0, 1, 2, 3, 4] rfl rfl (by decide) (by decide) (va_runI (As := [.ref q_1]) (rest := [.ref q_9, .ref aB]) ⟨hx, hb, hml, hown, hts⟩ (c_R_init l dC dI _ q_9 q_1 ) (kw_I 1 hts bw1_100 bw1_101 bw1_7 bw1_102 rfl rfl rfl (by decide +kernel) ⟨Nat.le_of_ble_eq_true rfl, Nat.le_of_ble_eq_true rfl⟩) (kp_S (wc := [(q_9, .inr (4, [.null, .null, .null, .int 0, .int 0, .int 0, .int 0, .long 0]))]) (tc := []) (av := [.ref q_9, .ref q_1]) hG hS hA hP hD hK [5] rfl (by decide) rfl [] rfl) rfl rfl hl.1 rfl (lv_room (Nat.le_of_ble_eq_true rfl)) dc_B_init_35 ⟨by show _ ≤ 7; omega, by show _ ≤ 86; omega⟩) (fun u_13 H locs hw hP hD hK1 hS => ?_)
  obtain ⟨aK_10, aV_11⟩ := u_13
  have hP : va_P (dC, dI) vwCl [(aB, .inr (6, [.ref q_1, .ref q_6, .null, .int 0, .int 0])), (q_1, .inr (5, [.ref aR_2, .int (nI 0), .int 1])), (aR_2, .inl (cA_3, 64, .inl (fun _ => 0))), (q_6, .inr (1, [.ref aL_7, .int (nI 0), .int (nI 0), .int 0])), (aL_7, .inr (0, [.int 0, .ref eE, .int (nI 0)])), (q_9, .inr (4, [.ref q_1, .ref aK_10, .ref aV_11, .int 61, .int 0, .int 1, .int 61, .long 0])), (aK_10, .inr (3, [.int (-1), .int 0])), (aV_11, .inr (3, [.int (-1), .int 0]))] H := hP
  have hD : va_D A [(aB, .inr (6, [.ref q_1, .ref q_6, .null, .int 0, .int 0])), (q_1, .inr (5, [.ref aR_2, .int (nI 0), .int 1])), (aR_2, .inl (cA_3, 64, .inl (fun _ => 0))), (q_6, .inr (1, [.ref aL_7, .int (nI 0), .int (nI 0), .int 0])), (aL_7, .inr (0, [.int 0, .ref eE, .int (nI 0)])), (q_9, .inr (4, [.ref q_1, .ref aK_10, .ref aV_11, .int 61, .int 0, .int 1, .int 61, .long 0])), (aK_10, .inr (3, [.int (-1), .int 0])), (aV_11, .inr (3, [.int (-1), .int 0]))] := hD
  refine va_putF (D := (dC, dI)) (ci := 6) (v := .ref q_9) (ty := .object "BatchBytes$Reader") (C := rn_B) (T := ft_B) (N := 5) hx hb hts fw_B fy_B fo_B fn_B hown hK hP hD hS 0 rfl rfl 2 (by decide) (hts _ bw1_153) (fun _ h9 => h9) rfl hin rfl (by decide +kernel) rfl rfl (Nat.le_of_ble_eq_true rfl) dc_B_init_38 (fun H locs hP hD hS => ?_)
  have hP : va_P (dC, dI) vwCl [(aB, .inr (6, [.ref q_1, .ref q_6, .ref q_9, .int 0, .int 0])), (q_1, .inr (5, [.ref aR_2, .int (nI 0), .int 1])), (aR_2, .inl (cA_3, 64, .inl (fun _ => 0))), (q_6, .inr (1, [.ref aL_7, .int (nI 0), .int (nI 0), .int 0])), (aL_7, .inr (0, [.int 0, .ref eE, .int (nI 0)])), (q_9, .inr (4, [.ref q_1, .ref aK_10, .ref aV_11, .int 61, .int 0, .int 1, .int 61, .long 0])), (aK_10, .inr (3, [.int (-1), .int 0])), (aV_11, .inr (3, [.int (-1), .int 0]))] H := hP
  have hD : va_D A [(aB, .inr (6, [.ref q_1, .ref q_6, .ref q_9, .int 0, .int 0])), (q_1, .inr (5, [.ref aR_2, .int (nI 0), .int 1])), (aR_2, .inl (cA_3, 64, .inl (fun _ => 0))), (q_6, .inr (1, [.ref aL_7, .int (nI 0), .int (nI 0), .int 0])), (aL_7, .inr (0, [.int 0, .ref eE, .int (nI 0)])), (q_9, .inr (4, [.ref q_1, .ref aK_10, .ref aV_11, .int 61, .int 0, .int 1, .int 61, .long 0])), (aK_10, .inr (3, [.int (-1), .int 0])), (aV_11, .inr (3, [.int (-1), .int 0]))] := hD
  refine lv_aload_n hx hb dc_B_init_41 rfl (lv_at hl 0 rfl) ?_
  refine lv_iconst (v := 0) hx hb dc_B_init_42 (by decide) ?_
  refine va_put (D := (dC, dI)) (ci := 6) (v := .int 0) (ty := .int) (C := rn_B) (T := ft_B) (N := 5) hx hb hts fw_B fy_B fo_B fn_B hown hK hP hD hS 0 rfl rfl 3 (by decide) (hts _ bw1_154) (fun _ h9 => h9) rfl (by decide +kernel) rfl rfl (Nat.le_of_ble_eq_true rfl) dc_B_init_43 (fun H locs hP hD hS => ?_)
  have hP : va_P (dC, dI) vwCl [(aB, .inr (6, [.ref q_1, .ref q_6, .ref q_9, .int 0, .int 0])), (q_1, .inr (5, [.ref aR_2, .int (nI 0), .int 1])), (aR_2, .inl (cA_3, 64, .inl (fun _ => 0))), (q_6, .inr (1, [.ref aL_7, .int (nI 0), .int (nI 0), .int 0])), (aL_7, .inr (0, [.int 0, .ref eE, .int (nI 0)])), (q_9, .inr (4, [.ref q_1, .ref aK_10, .ref aV_11, .int 61, .int 0, .int 1, .int 61, .long 0])), (aK_10, .inr (3, [.int (-1), .int 0])), (aV_11, .inr (3, [.int (-1), .int 0]))] H := hP
  have hD : va_D A [(aB, .inr (6, [.ref q_1, .ref q_6, .ref q_9, .int 0, .int 0])), (q_1, .inr (5, [.ref aR_2, .int (nI 0), .int 1])), (aR_2, .inl (cA_3, 64, .inl (fun _ => 0))), (q_6, .inr (1, [.ref aL_7, .int (nI 0), .int (nI 0), .int 0])), (aL_7, .inr (0, [.int 0, .ref eE, .int (nI 0)])), (q_9, .inr (4, [.ref q_1, .ref aK_10, .ref aV_11, .int 61, .int 0, .int 1, .int 61, .long 0])), (aK_10, .inr (3, [.int (-1), .int 0])), (aV_11, .inr (3, [.int (-1), .int 0]))] := hD
  refine lv_aload_n hx hb dc_B_init_46 rfl (lv_at hl 0 rfl) ?_
  refine lv_iconst (v := (-1)) hx hb dc_B_init_47 (by decide) ?_
  refine va_put (D := (dC, dI)) (ci := 6) (v := .int (-1)) (ty := .int) (C := rn_B) (T := ft_B) (N := 5) hx hb hts fw_B fy_B fo_B fn_B hown hK hP hD hS 0 rfl rfl 4 (by decide) (hts _ bw1_155) (fun _ h9 => h9) rfl (by decide +kernel) rfl rfl (Nat.le_of_ble_eq_true rfl) dc_B_init_48 (fun H locs hP hD hS => ?_)
  have hP : va_P (dC, dI) vwCl [(aB, .inr (6, [.ref q_1, .ref q_6, .ref q_9, .int 0, .int (-1)])), (q_1, .inr (5, [.ref aR_2, .int (nI 0), .int 1])), (aR_2, .inl (cA_3, 64, .inl (fun _ => 0))), (q_6, .inr (1, [.ref aL_7, .int (nI 0), .int (nI 0), .int 0])), (aL_7, .inr (0, [.int 0, .ref eE, .int (nI 0)])), (q_9, .inr (4, [.ref q_1, .ref aK_10, .ref aV_11, .int 61, .int 0, .int 1, .int 61, .long 0])), (aK_10, .inr (3, [.int (-1), .int 0])), (aV_11, .inr (3, [.int (-1), .int 0]))] H := hP
  have hD : va_D A [(aB, .inr (6, [.ref q_1, .ref q_6, .ref q_9, .int 0, .int (-1)])), (q_1, .inr (5, [.ref aR_2, .int (nI 0), .int 1])), (aR_2, .inl (cA_3, 64, .inl (fun _ => 0))), (q_6, .inr (1, [.ref aL_7, .int (nI 0), .int (nI 0), .int 0])), (aL_7, .inr (0, [.int 0, .ref eE, .int (nI 0)])), (q_9, .inr (4, [.ref q_1, .ref aK_10, .ref aV_11, .int 61, .int 0, .int 1, .int 61, .long 0])), (aK_10, .inr (3, [.int (-1), .int 0])), (aV_11, .inr (3, [.int (-1), .int 0]))] := hD
  have hP9 := hP.sub (ws' := [(aB, .inr (6, [.ref q_1, .ref q_6, .ref q_9, .int 0, .int (-1)])), (q_1, .inr (5, [.ref aR_2, .int (nI 0), .int 1])), (aR_2, .inl (cA_3, 64, .inl (fun _ => 0))), (q_6, .inr (1, [.ref aL_7, .int (nI 0), .int (nI 0), .int 0])), (aL_7, .inr (0, [.int 0, .ref eE, .int (nI 0)])), (q_9, .inr (4, [.ref q_1, .ref aK_10, .ref aV_11, .int 61, .int 0, .int 1, .int 61, .long 0])), (aK_10, .inr (3, [.int (-1), .int 0])), (aV_11, .inr (3, [.int (-1), .int 0]))]) [0, 1, 2, 3, 4, 5, 6, 7] rfl
  have hD9 := hD.sub (ws' := [(aB, .inr (6, [.ref q_1, .ref q_6, .ref q_9, .int 0, .int (-1)])), (q_1, .inr (5, [.ref aR_2, .int (nI 0), .int 1])), (aR_2, .inl (cA_3, 64, .inl (fun _ => 0))), (q_6, .inr (1, [.ref aL_7, .int (nI 0), .int (nI 0), .int 0])), (aL_7, .inr (0, [.int 0, .ref eE, .int (nI 0)])), (q_9, .inr (4, [.ref q_1, .ref aK_10, .ref aV_11, .int 61, .int 0, .int 1, .int 61, .long 0])), (aK_10, .inr (3, [.int (-1), .int 0])), (aV_11, .inr (3, [.int (-1), .int 0]))]) [0, 1, 2, 3, 4, 5, 6, 7] (by decide) rfl
  have hK9 := hK.sub (tys' := [(cA_3, .byte)]) [0] rfl
  refine W.widen (k := 7) (n := 86) (by omega) (by omega) ?_
  exact W.vret hx hb hr (fun t ht hW => ⟨⟨(q_1, aR_2, cA_3, q_6, aL_7, q_9, aK_10, aV_11), rfl, trivial, by rw [ht]; exact hP9, va_K.moved hW.alike hK9, hD9⟩, hS.F ht⟩) hS.2.2 dc_B_init_51

set_option maxHeartbeats 1000000 in
set_option maxRecDepth 100000 in
theorem c_B_size (l : Launch) (dC : Nat → ClassId) (dI : Nat → Nat → Nat) (sz : Nat) (aB : Nat) (aF : Nat) (aQ : Nat) (fk : Int32) (fp : Int32) (aT : Nat) (aR : Nat) (cA : ClassId) (n : Nat) (f : Nat → Int32) (k : Nat) (ch : Int32) : Met l my_B_size (wB my_B_size cd_B_size 1 (some .int)) ({ frames := 0, cells := 0, slots := 0, locals := 0 }) (va_Pc [.ref aB] (PcW (dC, dI) [(aB, .inr (6, [.ref aT, .ref aF, .ref aQ, .int fk, .int fp])), (aT, .inr (5, [.ref aR, .int (nI k), .int ch])), (aR, .inl (cA, n, .inl f))] [(cA, .byte)] sz)) (va_Qi (fun (r : Int32) => fun (_ : Unit) => r = nI k) (fun _ => EnW (dC, dI) (va_A [(aB, .inr (6, [.ref aT, .ref aF, .ref aQ, .int fk, .int fp])), (aT, .inr (5, [.ref aR, .int (nI k), .int ch])), (aR, .inl (cA, n, .inl f))] sz) [(aB, .inr (6, [.ref aT, .ref aF, .ref aQ, .int fk, .int fp])), (aT, .inr (5, [.ref aR, .int (nI k), .int ch])), (aR, .inl (cA, n, .inl f))] [(cA, .byte)]) (va_A [(aB, .inr (6, [.ref aT, .ref aF, .ref aQ, .int fk, .int fp])), (aT, .inr (5, [.ref aR, .int (nI k), .int ch])), (aR, .inl (cA, n, .inl f))] sz)) 0 0 (va_A [(aB, .inr (6, [.ref aT, .ref aF, .ref aQ, .int fk, .int fp])), (aT, .inr (5, [.ref aR, .int (nI k), .int ch])), (aR, .inl (cA, n, .inl f))] sz) := by
  refine Met.ofW (cc := cd_B_size) (maxL := 1) (ret := (some .int)) (by decide) rfl ?_
  intro p e s m args below meth c s₁ B hml hv
  obtain ⟨rfl, hsz, hP, hK, hD0, hG⟩ := hv
  have hx := B.exec
  have hb := B.bytes
  have hr := B.returns
  have hts := fun (w : Cond) (h : w ∈ bigT) => atoms_spec (ws := (wB my_B_size cd_B_size 1 (some .int))) B.pre w (List.mem_cons_of_mem _ h)
  have hown : s.vm.findClass rn_B = some m.cls := findClass_of_methodNamed B.named
  have hlocks := B.notSynchronized
  subst hsz
  have hD := hD0.self (sz := s.heap.size)
  generalize hAe : va_A [(aB, .inr (6, [.ref aT, .ref aF, .ref aQ, .int fk, .int fp])), (aT, .inr (5, [.ref aR, .int (nI k), .int ch])), (aR, .inl (cA, n, .inl f))] s.heap.size = A at hD hG ⊢
  have hA : ∀ q : Nat, s.heap.size ≤ q → A q := fun q h => by rw [← hAe]; exact Or.inr h
  have hS : va_S A s.heap s.heap [] := va_S.rf
  have hP : va_P (dC, dI) vwCl [(aB, .inr (6, [.ref aT, .ref aF, .ref aQ, .int fk, .int fp])), (aT, .inr (5, [.ref aR, .int (nI k), .int ch])), (aR, .inl (cA, n, .inl f))] s.heap := hP
  have hl := lv_entry ([.ref aB]) (n := 1) (Nat.le_of_ble_eq_true rfl)
  rw [lg_entry_eq]
  generalize (lg_sl ([.ref aB]) ++ List.replicate (1 - (lg_sl ([.ref aB])).length) Slot.unset).toArray = ls at hl ⊢
  have hl : lv_has ls 1 [(0, .ref aB)] := hl
  refine lv_aload_n hx hb dc_B_size_0 rfl (lv_at hl 0 rfl) ?_
  refine va_get (D := (dC, dI)) (ci := 6) (v := .ref aT) (C := rn_B) (T := ft_B) (N := 5) hx hb hts fw_B hown hK hP 0 rfl rfl 0 (by decide) (hts _ bw1_151) (fun _ h9 => h9) rfl dc_B_size_1 ?_
  refine va_get (D := (dC, dI)) (ci := 5) (v := .int (nI k)) (C := rn_T) (T := ft_T) (N := 3) hx hb hts fw_T hown hK hP 1 rfl rfl 1 (by decide) (hts _ bw1_38) (fun _ h9 => h9) rfl dc_B_size_4 ?_
  have hP9 := hP.sub (ws' := [(aB, .inr (6, [.ref aT, .ref aF, .ref aQ, .int fk, .int fp])), (aT, .inr (5, [.ref aR, .int (nI k), .int ch])), (aR, .inl (cA, n, .inl f))]) [0, 1, 2] rfl
  have hD9 := hD.sub (ws' := [(aB, .inr (6, [.ref aT, .ref aF, .ref aQ, .int fk, .int fp])), (aT, .inr (5, [.ref aR, .int (nI k), .int ch])), (aR, .inl (cA, n, .inl f))]) [0, 1, 2] (by decide) rfl
  have hK9 := hK.sub (tys' := [(cA, .byte)]) [0] rfl
  exact W.iret (v := (nI k)) hx hb hr (fun t ht hW => ⟨⟨(nI k), (), rfl, rfl, by rw [ht]; exact hP9, va_K.moved hW.alike hK9, hD9⟩, hS.F ht⟩) hS.2.2 dc_B_size_7

set_option maxHeartbeats 1000000 in
set_option maxRecDepth 100000 in
theorem c_B_trim_ok (l : Launch) (dC : Nat → ClassId) (dI : Nat → Nat → Nat) (sz : Nat) (aB : Nat) (aF : Nat) (aQ : Nat) (fk : Int32) (fp : Int32) (aT : Nat) (aR : Nat) (cA : ClassId) (n : Nat) (f : Nat → Int32) (k : Nat) (ch : Int32) (j : Nat) (hk : k ≤ n) (hn : n ≤ 16384) (hj : j ≤ k) : Met l my_B_trim (wB my_B_trim cd_B_trim 2 (some .int)) ({ frames := 1, cells := 0, slots := 0, locals := 21 }) (va_Pc [.ref aB, .int (nI j)] (PcW (dC, dI) [(aB, .inr (6, [.ref aT, .ref aF, .ref aQ, .int fk, .int fp])), (aT, .inr (5, [.ref aR, .int (nI k), .int ch])), (aR, .inl (cA, n, .inl f))] [(cA, .byte)] sz)) (va_Qi (fun (r : Int32) => fun (_ : Unit) => r = nI (k - j)) (fun _ => EnW (dC, dI) (va_A [(aB, .inr (6, [.ref aT, .ref aF, .ref aQ, .int fk, .int fp])), (aT, .inr (5, [.ref aR, .int (nI k), .int ch])), (aR, .inl (cA, n, .inl f))] sz) [(aB, .inr (6, [.ref aT, .ref aF, .ref aQ, .int fk, .int fp])), (aT, .inr (5, [.ref aR, .int (nI (k - j)), .int 1])), (aR, .inl (cA, n, .inl f))] [(cA, .byte)]) (va_A [(aB, .inr (6, [.ref aT, .ref aF, .ref aQ, .int fk, .int fp])), (aT, .inr (5, [.ref aR, .int (nI k), .int ch])), (aR, .inl (cA, n, .inl f))] sz)) 0 0 (va_A [(aB, .inr (6, [.ref aT, .ref aF, .ref aQ, .int fk, .int fp])), (aT, .inr (5, [.ref aR, .int (nI k), .int ch])), (aR, .inl (cA, n, .inl f))] sz) := by
  refine Met.ofW (cc := cd_B_trim) (maxL := 2) (ret := (some .int)) (by decide) rfl ?_
  intro p e s m args below meth c s₁ B hml hv
  obtain ⟨rfl, hsz, hP, hK, hD0, hG⟩ := hv
  have hx := B.exec
  have hb := B.bytes
  have hr := B.returns
  have hts := fun (w : Cond) (h : w ∈ bigT) => atoms_spec (ws := (wB my_B_trim cd_B_trim 2 (some .int))) B.pre w (List.mem_cons_of_mem _ h)
  have hown : s.vm.findClass rn_B = some m.cls := findClass_of_methodNamed B.named
  have hlocks := B.notSynchronized
  subst hsz
  have hD := hD0.self (sz := s.heap.size)
  generalize hAe : va_A [(aB, .inr (6, [.ref aT, .ref aF, .ref aQ, .int fk, .int fp])), (aT, .inr (5, [.ref aR, .int (nI k), .int ch])), (aR, .inl (cA, n, .inl f))] s.heap.size = A at hD hG ⊢
  have hA : ∀ q : Nat, s.heap.size ≤ q → A q := fun q h => by rw [← hAe]; exact Or.inr h
  have hS : va_S A s.heap s.heap [] := va_S.rf
  have hP : va_P (dC, dI) vwCl [(aB, .inr (6, [.ref aT, .ref aF, .ref aQ, .int fk, .int fp])), (aT, .inr (5, [.ref aR, .int (nI k), .int ch])), (aR, .inl (cA, n, .inl f))] s.heap := hP
  have hl := lv_entry ([.ref aB, .int (nI j)]) (n := 2) (Nat.le_of_ble_eq_true rfl)
  rw [lg_entry_eq]
  generalize (lg_sl ([.ref aB, .int (nI j)]) ++ List.replicate (2 - (lg_sl ([.ref aB, .int (nI j)])).length) Slot.unset).toArray = ls at hl ⊢
  have hl : lv_has ls 2 [(0, .ref aB), (1, .int (nI j))] := hl
  refine lv_iload_n hx hb dc_B_trim_0 rfl (lv_at hl 1 rfl) ?_
  refine lv_if_lt (tgt := 15) hx hb dc_B_trim_1 (by decide) (fun c_1 => ?_) (fun c_1 => ?_)
  · exfalso; exact nI_pos (by omega) c_1
  · refine lv_iload_n hx hb dc_B_trim_4 rfl (lv_at hl 1 rfl) ?_
    refine lv_aload_n hx hb dc_B_trim_5 rfl (lv_at hl 0 rfl) ?_
    refine va_get (D := (dC, dI)) (ci := 6) (v := .ref aT) (C := rn_B) (T := ft_B) (N := 5) hx hb hts fw_B hown hK hP 0 rfl rfl 0 (by decide) (hts _ bw1_151) (fun _ h9 => h9) rfl dc_B_trim_6 ?_
    refine va_get (D := (dC, dI)) (ci := 5) (v := .int (nI k)) (C := rn_T) (T := ft_T) (N := 3) hx hb hts fw_T hown hK hP 1 rfl rfl 1 (by decide) (hts _ bw1_38) (fun _ h9 => h9) rfl dc_B_trim_9 ?_
    refine lv_icmp_le (tgt := 25) hx hb dc_B_trim_12 (by decide) (fun c_2 => ?_) (fun c_2 => ?_)
    · refine lv_aload_n hx hb dc_B_trim_25 rfl (lv_at hl 0 rfl) ?_
      refine va_get (D := (dC, dI)) (ci := 6) (v := .ref aT) (C := rn_B) (T := ft_B) (N := 5) hx hb hts fw_B hown hK hP 0 rfl rfl 0 (by decide) (hts _ bw1_151) (fun _ h9 => h9) rfl dc_B_trim_26 ?_
      refine lv_iload_n hx hb dc_B_trim_29 rfl (lv_at hl 1 rfl) ?_
      refine kc_v (wc := [(aT, .inr (5, [.ref aR, .int (nI k), .int ch])), (aR, .inl (cA, n, .inl f))]) (wr := [(aB, .inr (6, [.ref aT, .ref aF, .ref aQ, .int fk, .int fp]))]) hP hD hS hA [1, 2] [0] rfl rfl (by decide) (by decide) (va_runV (As := [.int (nI j)]) (rest := []) ⟨hx, hb, hml, hown, hts⟩ (c_T_cut l dC dI _ aT aR cA n f k ch j (by omega)) (kw_V 1 hts bw2_96 bw2_97 bw2_98 bw1_2 bw2_99 rfl rfl (by decide +kernel) ⟨Nat.le_of_ble_eq_true rfl, Nat.le_of_ble_eq_true rfl⟩) (kp_V (wc := [(aT, .inr (5, [.ref aR, .int (nI k), .int ch])), (aR, .inl (cA, n, .inl f))]) (tc := [(cA, .byte)]) (As := [.int (nI j)]) hG hS hA hP hD hK [1, 2] rfl (by decide) rfl [0] rfl (ci := 5) (q0 := 1) rfl rfl) rfl rfl hl.1 rfl (lv_room (Nat.le_of_ble_eq_true rfl)) dc_B_trim_30 ⟨Nat.zero_le _, Nat.zero_le _⟩) (fun _ H locs hw hP hD hK1 hS => ?_)
      have hP : va_P (dC, dI) vwCl [(aB, .inr (6, [.ref aT, .ref aF, .ref aQ, .int fk, .int fp])), (aT, .inr (5, [.ref aR, .int (nI (k - j)), .int 1])), (aR, .inl (cA, n, .inl f))] H := hP
      have hD : va_D A [(aB, .inr (6, [.ref aT, .ref aF, .ref aQ, .int fk, .int fp])), (aT, .inr (5, [.ref aR, .int (nI (k - j)), .int 1])), (aR, .inl (cA, n, .inl f))] := hD
      refine lv_aload_n hx hb dc_B_trim_33 rfl (lv_at hl 0 rfl) ?_
      refine va_get (D := (dC, dI)) (ci := 6) (v := .ref aT) (C := rn_B) (T := ft_B) (N := 5) hx hb hts fw_B hown hK hP 0 rfl rfl 0 (by decide) (hts _ bw1_151) (fun _ h9 => h9) rfl dc_B_trim_34 ?_
      refine va_get (D := (dC, dI)) (ci := 5) (v := .int (nI (k - j))) (C := rn_T) (T := ft_T) (N := 3) hx hb hts fw_T hown hK hP 1 rfl rfl 1 (by decide) (hts _ bw1_38) (fun _ h9 => h9) rfl dc_B_trim_37 ?_
      have hP9 := hP.sub (ws' := [(aB, .inr (6, [.ref aT, .ref aF, .ref aQ, .int fk, .int fp])), (aT, .inr (5, [.ref aR, .int (nI (k - j)), .int 1])), (aR, .inl (cA, n, .inl f))]) [0, 1, 2] rfl
      have hD9 := hD.sub (ws' := [(aB, .inr (6, [.ref aT, .ref aF, .ref aQ, .int fk, .int fp])), (aT, .inr (5, [.ref aR, .int (nI (k - j)), .int 1])), (aR, .inl (cA, n, .inl f))]) [0, 1, 2] (by decide) rfl
      have hK9 := hK.sub (tys' := [(cA, .byte)]) [0] rfl
      exact W.iret (v := (nI (k - j))) hx hb hr (fun t ht hW => ⟨⟨(nI (k - j)), (), rfl, rfl, by rw [ht]; exact hP9, va_K.moved hW.alike hK9, hD9⟩, hS.F ht⟩) hS.2.2 dc_B_trim_40
    · exact absurd (nI_le hj (by omega)) c_2

set_option maxHeartbeats 1000000 in
set_option maxRecDepth 100000 in
theorem c_B_byteAt_ok (l : Launch) (dC : Nat → ClassId) (dI : Nat → Nat → Nat) (sz : Nat) (aB : Nat) (aF : Nat) (aQ : Nat) (fk : Int32) (fp : Int32) (aT : Nat) (aR : Nat) (cA : ClassId) (n : Nat) (f : Nat → Int32) (k : Nat) (ch : Int32) (j : Nat) (hk : k ≤ n) (hn : n ≤ 16384) (hj : j < k) : Met l my_B_byteAt (wB my_B_byteAt cd_B_byteAt 2 (some .int)) ({ frames := 1, cells := 0, slots := 0, locals := 21 }) (va_Pc [.ref aB, .int (nI j)] (PcW (dC, dI) [(aB, .inr (6, [.ref aT, .ref aF, .ref aQ, .int fk, .int fp])), (aT, .inr (5, [.ref aR, .int (nI k), .int ch])), (aR, .inl (cA, n, .inl f))] [(cA, .byte)] sz)) (va_Qi (fun (r : Int32) => fun (_ : Unit) => r = tb f k (nI j)) (fun _ => EnW (dC, dI) (va_A [(aB, .inr (6, [.ref aT, .ref aF, .ref aQ, .int fk, .int fp])), (aT, .inr (5, [.ref aR, .int (nI k), .int ch])), (aR, .inl (cA, n, .inl f))] sz) [(aB, .inr (6, [.ref aT, .ref aF, .ref aQ, .int fk, .int fp])), (aT, .inr (5, [.ref aR, .int (nI k), .int ch])), (aR, .inl (cA, n, .inl f))] [(cA, .byte)]) (va_A [(aB, .inr (6, [.ref aT, .ref aF, .ref aQ, .int fk, .int fp])), (aT, .inr (5, [.ref aR, .int (nI k), .int ch])), (aR, .inl (cA, n, .inl f))] sz)) 0 0 (va_A [(aB, .inr (6, [.ref aT, .ref aF, .ref aQ, .int fk, .int fp])), (aT, .inr (5, [.ref aR, .int (nI k), .int ch])), (aR, .inl (cA, n, .inl f))] sz) := by
  refine Met.ofW (cc := cd_B_byteAt) (maxL := 2) (ret := (some .int)) (by decide) rfl ?_
  intro p e s m args below meth c s₁ B hml hv
  obtain ⟨rfl, hsz, hP, hK, hD0, hG⟩ := hv
  have hx := B.exec
  have hb := B.bytes
  have hr := B.returns
  have hts := fun (w : Cond) (h : w ∈ bigT) => atoms_spec (ws := (wB my_B_byteAt cd_B_byteAt 2 (some .int))) B.pre w (List.mem_cons_of_mem _ h)
  have hown : s.vm.findClass rn_B = some m.cls := findClass_of_methodNamed B.named
  have hlocks := B.notSynchronized
  subst hsz
  have hD := hD0.self (sz := s.heap.size)
  generalize hAe : va_A [(aB, .inr (6, [.ref aT, .ref aF, .ref aQ, .int fk, .int fp])), (aT, .inr (5, [.ref aR, .int (nI k), .int ch])), (aR, .inl (cA, n, .inl f))] s.heap.size = A at hD hG ⊢
  have hA : ∀ q : Nat, s.heap.size ≤ q → A q := fun q h => by rw [← hAe]; exact Or.inr h
  have hS : va_S A s.heap s.heap [] := va_S.rf
  have hP : va_P (dC, dI) vwCl [(aB, .inr (6, [.ref aT, .ref aF, .ref aQ, .int fk, .int fp])), (aT, .inr (5, [.ref aR, .int (nI k), .int ch])), (aR, .inl (cA, n, .inl f))] s.heap := hP
  have hl := lv_entry ([.ref aB, .int (nI j)]) (n := 2) (Nat.le_of_ble_eq_true rfl)
  rw [lg_entry_eq]
  generalize (lg_sl ([.ref aB, .int (nI j)]) ++ List.replicate (2 - (lg_sl ([.ref aB, .int (nI j)])).length) Slot.unset).toArray = ls at hl ⊢
  have hl : lv_has ls 2 [(0, .ref aB), (1, .int (nI j))] := hl
  refine lv_aload_n hx hb dc_B_byteAt_0 rfl (lv_at hl 0 rfl) ?_
  refine va_get (D := (dC, dI)) (ci := 6) (v := .ref aT) (C := rn_B) (T := ft_B) (N := 5) hx hb hts fw_B hown hK hP 0 rfl rfl 0 (by decide) (hts _ bw1_151) (fun _ h9 => h9) rfl dc_B_byteAt_1 ?_
  refine lv_iload_n hx hb dc_B_byteAt_4 rfl (lv_at hl 1 rfl) ?_
  refine kc_i (wc := [(aT, .inr (5, [.ref aR, .int (nI k), .int ch])), (aR, .inl (cA, n, .inl f))]) (wr := [(aB, .inr (6, [.ref aT, .ref aF, .ref aQ, .int fk, .int fp]))]) hP hD hS hA [1, 2] [0] rfl rfl (by decide) (by decide) (va_runV (As := [.int (nI j)]) (rest := []) ⟨hx, hb, hml, hown, hts⟩ (c_T_has l dC dI _ aT aR cA n f k ch (nI j) (by omega) (by omega)) (kw_V 1 hts bw2_107 bw1_186 bw1_187 bw1_2 bw1_188 rfl rfl (by decide +kernel) ⟨Nat.le_of_ble_eq_true rfl, Nat.le_of_ble_eq_true rfl⟩) (kp_V (wc := [(aT, .inr (5, [.ref aR, .int (nI k), .int ch])), (aR, .inl (cA, n, .inl f))]) (tc := [(cA, .byte)]) (As := [.int (nI j)]) hG hS hA hP hD hK [1, 2] rfl (by decide) rfl [0] rfl (ci := 5) (q0 := 1) rfl rfl) rfl rfl hl.1 rfl (lv_room (Nat.le_of_ble_eq_true rfl)) dc_B_byteAt_5 ⟨Nat.zero_le _, Nat.zero_le _⟩) (fun r_1 _ H locs hw hP hD hK1 hS => ?_)
  have hw : hasC k (nI j) = r_1 := hw.symm
  subst hw
  have hP : va_P (dC, dI) vwCl [(aB, .inr (6, [.ref aT, .ref aF, .ref aQ, .int fk, .int fp])), (aT, .inr (5, [.ref aR, .int (nI k), .int ch])), (aR, .inl (cA, n, .inl f))] H := hP
  have hD : va_D A [(aB, .inr (6, [.ref aT, .ref aF, .ref aQ, .int fk, .int fp])), (aT, .inr (5, [.ref aR, .int (nI k), .int ch])), (aR, .inl (cA, n, .inl f))] := hD
  refine lv_if_ne (tgt := 21) hx hb dc_B_byteAt_8 (by decide) (fun c_2 => ?_) (fun c_2 => ?_)
  · refine lv_aload_n hx hb dc_B_byteAt_21 rfl (lv_at hl 0 rfl) ?_
    refine va_get (D := (dC, dI)) (ci := 6) (v := .ref aT) (C := rn_B) (T := ft_B) (N := 5) hx hb hts fw_B hown hK hP 0 rfl rfl 0 (by decide) (hts _ bw1_151) (fun _ h9 => h9) rfl dc_B_byteAt_22 ?_
    refine lv_iload_n hx hb dc_B_byteAt_25 rfl (lv_at hl 1 rfl) ?_
    refine kc_i (wc := [(aT, .inr (5, [.ref aR, .int (nI k), .int ch])), (aR, .inl (cA, n, .inl f))]) (wr := [(aB, .inr (6, [.ref aT, .ref aF, .ref aQ, .int fk, .int fp]))]) hP hD hS hA [1, 2] [0] rfl rfl (by decide) (by decide) (va_runV (As := [.int (nI j)]) (rest := []) ⟨hx, hb, hml, hown, hts⟩ (c_T_get l dC dI _ aT aR cA n f k ch (nI j) (by omega) (by omega)) (kw_V 1 hts bw2_110 bw2_111 bw2_112 bw1_2 bw2_113 rfl rfl (by decide +kernel) ⟨Nat.le_of_ble_eq_true rfl, Nat.le_of_ble_eq_true rfl⟩) (kp_V (wc := [(aT, .inr (5, [.ref aR, .int (nI k), .int ch])), (aR, .inl (cA, n, .inl f))]) (tc := [(cA, .byte)]) (As := [.int (nI j)]) hG hS hA hP hD hK [1, 2] rfl (by decide) rfl [0] rfl (ci := 5) (q0 := 1) rfl rfl) rfl rfl hl.1 rfl (lv_room (Nat.le_of_ble_eq_true rfl)) dc_B_byteAt_26 ⟨Nat.zero_le _, Nat.zero_le _⟩) (fun r_3 _ H locs hw hP hD hK1 hS => ?_)
    have hw : tb f k (nI j) = r_3 := hw.symm
    subst hw
    have hP : va_P (dC, dI) vwCl [(aB, .inr (6, [.ref aT, .ref aF, .ref aQ, .int fk, .int fp])), (aT, .inr (5, [.ref aR, .int (nI k), .int ch])), (aR, .inl (cA, n, .inl f))] H := hP
    have hD : va_D A [(aB, .inr (6, [.ref aT, .ref aF, .ref aQ, .int fk, .int fp])), (aT, .inr (5, [.ref aR, .int (nI k), .int ch])), (aR, .inl (cA, n, .inl f))] := hD
    have hP9 := hP.sub (ws' := [(aB, .inr (6, [.ref aT, .ref aF, .ref aQ, .int fk, .int fp])), (aT, .inr (5, [.ref aR, .int (nI k), .int ch])), (aR, .inl (cA, n, .inl f))]) [0, 1, 2] rfl
    have hD9 := hD.sub (ws' := [(aB, .inr (6, [.ref aT, .ref aF, .ref aQ, .int fk, .int fp])), (aT, .inr (5, [.ref aR, .int (nI k), .int ch])), (aR, .inl (cA, n, .inl f))]) [0, 1, 2] (by decide) rfl
    have hK9 := hK.sub (tys' := [(cA, .byte)]) [0] rfl
    exact W.iret (v := (tb f k (nI j))) hx hb hr (fun t ht hW => ⟨⟨(tb f k (nI j)), (), rfl, rfl, by rw [ht]; exact hP9, va_K.moved hW.alike hK9, hD9⟩, hS.F ht⟩) hS.2.2 dc_B_byteAt_29
  · exfalso; exact hasC_in hj (by omega) c_2

set_option maxHeartbeats 1000000 in
set_option maxRecDepth 100000 in
theorem c_B_spoil_ok (l : Launch) (dC : Nat → ClassId) (dI : Nat → Nat → Nat) (sz : Nat) (aB : Nat) (aF : Nat) (aQ : Nat) (fk : Int32) (fp : Int32) (aT : Nat) (aR : Nat) (cA : ClassId) (n : Nat) (f : Nat → Int32) (k : Nat) (ch : Int32) (j : Nat) (xs : Int32) (hk : k ≤ n) (hn : n ≤ 16384) (hj : j < k) (hx0 : ¬ xs < 0) (hx1 : xs ≤ 255) : Met l my_B_spoil (wB my_B_spoil cd_B_spoil 3 (some .int)) ({ frames := 2, cells := 0, slots := 0, locals := 43 }) (va_Pc [.ref aB, .int (nI j), .int xs] (PcW (dC, dI) [(aB, .inr (6, [.ref aT, .ref aF, .ref aQ, .int fk, .int fp])), (aT, .inr (5, [.ref aR, .int (nI k), .int ch])), (aR, .inl (cA, n, .inl f))] [(cA, .byte)] sz)) (va_Qi (fun (r : Int32) => fun (_ : Unit) => r = tb (upd f j (tb f k (nI j) ^^^ xs).toInt8.toInt32) k (nI j)) (fun _ => EnW (dC, dI) (va_A [(aB, .inr (6, [.ref aT, .ref aF, .ref aQ, .int fk, .int fp])), (aT, .inr (5, [.ref aR, .int (nI k), .int ch])), (aR, .inl (cA, n, .inl f))] sz) [(aB, .inr (6, [.ref aT, .ref aF, .ref aQ, .int fk, .int fp])), (aT, .inr (5, [.ref aR, .int (nI k), .int 1])), (aR, .inl (cA, n, .inl (upd f j (tb f k (nI j) ^^^ xs).toInt8.toInt32)))] [(cA, .byte)]) (va_A [(aB, .inr (6, [.ref aT, .ref aF, .ref aQ, .int fk, .int fp])), (aT, .inr (5, [.ref aR, .int (nI k), .int ch])), (aR, .inl (cA, n, .inl f))] sz)) 0 0 (va_A [(aB, .inr (6, [.ref aT, .ref aF, .ref aQ, .int fk, .int fp])), (aT, .inr (5, [.ref aR, .int (nI k), .int ch])), (aR, .inl (cA, n, .inl f))] sz) := by
  refine Met.ofW (cc := cd_B_spoil) (maxL := 3) (ret := (some .int)) (by decide) rfl ?_
  intro p e s m args below meth c s₁ B hml hv
  obtain ⟨rfl, hsz, hP, hK, hD0, hG⟩ := hv
  have hx := B.exec
  have hb := B.bytes
  have hr := B.returns
  have hts := fun (w : Cond) (h : w ∈ bigT) => atoms_spec (ws := (wB my_B_spoil cd_B_spoil 3 (some .int))) B.pre w (List.mem_cons_of_mem _ h)
  have hown : s.vm.findClass rn_B = some m.cls := findClass_of_methodNamed B.named
  have hlocks := B.notSynchronized
  subst hsz
  have hD := hD0.self (sz := s.heap.size)
  generalize hAe : va_A [(aB, .inr (6, [.ref aT, .ref aF, .ref aQ, .int fk, .int fp])), (aT, .inr (5, [.ref aR, .int (nI k), .int ch])), (aR, .inl (cA, n, .inl f))] s.heap.size = A at hD hG ⊢
  have hA : ∀ q : Nat, s.heap.size ≤ q → A q := fun q h => by rw [← hAe]; exact Or.inr h
  have hS : va_S A s.heap s.heap [] := va_S.rf
  have hP : va_P (dC, dI) vwCl [(aB, .inr (6, [.ref aT, .ref aF, .ref aQ, .int fk, .int fp])), (aT, .inr (5, [.ref aR, .int (nI k), .int ch])), (aR, .inl (cA, n, .inl f))] s.heap := hP
  have hl := lv_entry ([.ref aB, .int (nI j), .int xs]) (n := 3) (Nat.le_of_ble_eq_true rfl)
  rw [lg_entry_eq]
  generalize (lg_sl ([.ref aB, .int (nI j), .int xs]) ++ List.replicate (3 - (lg_sl ([.ref aB, .int (nI j), .int xs])).length) Slot.unset).toArray = ls at hl ⊢
  have hl : lv_has ls 3 [(0, .ref aB), (1, .int (nI j)), (2, .int xs)] := hl
  refine lv_aload_n hx hb dc_B_spoil_0 rfl (lv_at hl 0 rfl) ?_
  refine va_get (D := (dC, dI)) (ci := 6) (v := .ref aT) (C := rn_B) (T := ft_B) (N := 5) hx hb hts fw_B hown hK hP 0 rfl rfl 0 (by decide) (hts _ bw1_151) (fun _ h9 => h9) rfl dc_B_spoil_1 ?_
  refine lv_iload_n hx hb dc_B_spoil_4 rfl (lv_at hl 1 rfl) ?_
  refine kc_i (wc := [(aT, .inr (5, [.ref aR, .int (nI k), .int ch])), (aR, .inl (cA, n, .inl f))]) (wr := [(aB, .inr (6, [.ref aT, .ref aF, .ref aQ, .int fk, .int fp]))]) hP hD hS hA [1, 2] [0] rfl rfl (by decide) (by decide) (va_runV (As := [.int (nI j)]) (rest := []) ⟨hx, hb, hml, hown, hts⟩ (c_T_has l dC dI _ aT aR cA n f k ch (nI j) (by omega) (by omega)) (kw_V 1 hts bw2_107 bw1_186 bw1_187 bw1_2 bw1_188 rfl rfl (by decide +kernel) ⟨Nat.le_of_ble_eq_true rfl, Nat.le_of_ble_eq_true rfl⟩) (kp_V (wc := [(aT, .inr (5, [.ref aR, .int (nI k), .int ch])), (aR, .inl (cA, n, .inl f))]) (tc := [(cA, .byte)]) (As := [.int (nI j)]) hG hS hA hP hD hK [1, 2] rfl (by decide) rfl [0] rfl (ci := 5) (q0 := 1) rfl rfl) rfl rfl hl.1 rfl (lv_room (Nat.le_of_ble_eq_true rfl)) dc_B_spoil_5 ⟨Nat.zero_le _, Nat.zero_le _⟩) (fun r_1 _ H locs hw hP hD hK1 hS => ?_)
  have hw : hasC k (nI j) = r_1 := hw.symm
  subst hw
  have hP : va_P (dC, dI) vwCl [(aB, .inr (6, [.ref aT, .ref aF, .ref aQ, .int fk, .int fp])), (aT, .inr (5, [.ref aR, .int (nI k), .int ch])), (aR, .inl (cA, n, .inl f))] H := hP
  have hD : va_D A [(aB, .inr (6, [.ref aT, .ref aF, .ref aQ, .int fk, .int fp])), (aT, .inr (5, [.ref aR, .int (nI k), .int ch])), (aR, .inl (cA, n, .inl f))] := hD
  refine lv_if_ne (tgt := 21) hx hb dc_B_spoil_8 (by decide) (fun c_2 => ?_) (fun c_2 => ?_)
  · refine lv_iload_n hx hb dc_B_spoil_21 rfl (lv_at hl 2 rfl) ?_
    refine lv_if_lt (tgt := 32) hx hb dc_B_spoil_22 (by decide) (fun c_3 => ?_) (fun c_3 => ?_)
    · exfalso; exact hx0 c_3
    · refine lv_iload_n hx hb dc_B_spoil_25 rfl (lv_at hl 2 rfl) ?_
      refine lv_sipush (v := 255) hx hb dc_B_spoil_26 (by decide) ?_
      refine lv_icmp_le (tgt := 42) hx hb dc_B_spoil_29 (by decide) (fun c_4 => ?_) (fun c_4 => ?_)
      · refine lv_aload_n hx hb dc_B_spoil_42 rfl (lv_at hl 0 rfl) ?_
        refine va_get (D := (dC, dI)) (ci := 6) (v := .ref aT) (C := rn_B) (T := ft_B) (N := 5) hx hb hts fw_B hown hK hP 0 rfl rfl 0 (by decide) (hts _ bw1_151) (fun _ h9 => h9) rfl dc_B_spoil_43 ?_
        refine lv_iload_n hx hb dc_B_spoil_46 rfl (lv_at hl 1 rfl) ?_
        refine lv_aload_n hx hb dc_B_spoil_47 rfl (lv_at hl 0 rfl) ?_
        refine va_get (D := (dC, dI)) (ci := 6) (v := .ref aT) (C := rn_B) (T := ft_B) (N := 5) hx hb hts fw_B hown hK hP 0 rfl rfl 0 (by decide) (hts _ bw1_151) (fun _ h9 => h9) rfl dc_B_spoil_48 ?_
        refine lv_iload_n hx hb dc_B_spoil_51 rfl (lv_at hl 1 rfl) ?_
        refine kc_i (wc := [(aT, .inr (5, [.ref aR, .int (nI k), .int ch])), (aR, .inl (cA, n, .inl f))]) (wr := [(aB, .inr (6, [.ref aT, .ref aF, .ref aQ, .int fk, .int fp]))]) hP hD hS hA [1, 2] [0] rfl rfl (by decide) (by decide) (va_runV (As := [.int (nI j)]) (rest := [.int (nI j), .ref aT]) ⟨hx, hb, hml, hown, hts⟩ (c_T_get l dC dI _ aT aR cA n f k ch (nI j) (by omega) (by omega)) (kw_V 1 hts bw2_110 bw2_111 bw2_112 bw1_2 bw2_113 rfl rfl (by decide +kernel) ⟨Nat.le_of_ble_eq_true rfl, Nat.le_of_ble_eq_true rfl⟩) (kp_V (wc := [(aT, .inr (5, [.ref aR, .int (nI k), .int ch])), (aR, .inl (cA, n, .inl f))]) (tc := [(cA, .byte)]) (As := [.int (nI j)]) hG hS hA hP hD hK [1, 2] rfl (by decide) rfl [0] rfl (ci := 5) (q0 := 1) rfl rfl) rfl rfl hl.1 rfl (lv_room (Nat.le_of_ble_eq_true rfl)) dc_B_spoil_52 ⟨Nat.zero_le _, Nat.zero_le _⟩) (fun r_5 _ H locs hw hP hD hK1 hS => ?_)
        have hw : tb f k (nI j) = r_5 := hw.symm
        subst hw
        have hP : va_P (dC, dI) vwCl [(aB, .inr (6, [.ref aT, .ref aF, .ref aQ, .int fk, .int fp])), (aT, .inr (5, [.ref aR, .int (nI k), .int ch])), (aR, .inl (cA, n, .inl f))] H := hP
        have hD : va_D A [(aB, .inr (6, [.ref aT, .ref aF, .ref aQ, .int fk, .int fp])), (aT, .inr (5, [.ref aR, .int (nI k), .int ch])), (aR, .inl (cA, n, .inl f))] := hD
        refine lv_iload_n hx hb dc_B_spoil_55 rfl (lv_at hl 2 rfl) ?_
        refine lv_ixor hx hb dc_B_spoil_56 ?_
        refine kc_v (wc := [(aT, .inr (5, [.ref aR, .int (nI k), .int ch])), (aR, .inl (cA, n, .inl f))]) (wr := [(aB, .inr (6, [.ref aT, .ref aF, .ref aQ, .int fk, .int fp]))]) hP hD hS hA [1, 2] [0] rfl rfl (by decide) (by decide) (va_runV (As := [.int (nI j), .int ((tb f k (nI j)) ^^^ xs)]) (rest := []) ⟨hx, hb, hml, hown, hts⟩ (c_T_put l dC dI _ aT aR cA n f k ch j ((tb f k (nI j)) ^^^ xs) (by omega) (by omega) (by omega)) (kw_V 2 hts bw2_114 bw1_182 bw1_183 bw1_2 bw1_184 rfl rfl (by decide +kernel) ⟨Nat.le_of_ble_eq_true rfl, Nat.le_of_ble_eq_true rfl⟩) (kp_V (wc := [(aT, .inr (5, [.ref aR, .int (nI k), .int ch])), (aR, .inl (cA, n, .inl f))]) (tc := [(cA, .byte)]) (As := [.int (nI j), .int ((tb f k (nI j)) ^^^ xs)]) hG hS hA hP hD hK [1, 2] rfl (by decide) rfl [0] rfl (ci := 5) (q0 := 1) rfl rfl) rfl rfl hl.1 rfl (lv_room (Nat.le_of_ble_eq_true rfl)) dc_B_spoil_57 ⟨Nat.zero_le _, Nat.zero_le _⟩) (fun _ H locs hw hP hD hK1 hS => ?_)
        have hP : va_P (dC, dI) vwCl [(aB, .inr (6, [.ref aT, .ref aF, .ref aQ, .int fk, .int fp])), (aT, .inr (5, [.ref aR, .int (nI k), .int 1])), (aR, .inl (cA, n, .inl (upd f j ((tb f k (nI j)) ^^^ xs).toInt8.toInt32)))] H := hP
        have hD : va_D A [(aB, .inr (6, [.ref aT, .ref aF, .ref aQ, .int fk, .int fp])), (aT, .inr (5, [.ref aR, .int (nI k), .int 1])), (aR, .inl (cA, n, .inl (upd f j ((tb f k (nI j)) ^^^ xs).toInt8.toInt32)))] := hD
        refine lv_aload_n hx hb dc_B_spoil_60 rfl (lv_at hl 0 rfl) ?_
        refine va_get (D := (dC, dI)) (ci := 6) (v := .ref aT) (C := rn_B) (T := ft_B) (N := 5) hx hb hts fw_B hown hK hP 0 rfl rfl 0 (by decide) (hts _ bw1_151) (fun _ h9 => h9) rfl dc_B_spoil_61 ?_
        refine lv_iload_n hx hb dc_B_spoil_64 rfl (lv_at hl 1 rfl) ?_
        refine kc_i (wc := [(aT, .inr (5, [.ref aR, .int (nI k), .int 1])), (aR, .inl (cA, n, .inl (upd f j ((tb f k (nI j)) ^^^ xs).toInt8.toInt32)))]) (wr := [(aB, .inr (6, [.ref aT, .ref aF, .ref aQ, .int fk, .int fp]))]) hP hD hS hA [1, 2] [0] rfl rfl (by decide) (by decide) (va_runV (As := [.int (nI j)]) (rest := []) ⟨hx, hb, hml, hown, hts⟩ (c_T_get l dC dI _ aT aR cA n (upd f j ((tb f k (nI j)) ^^^ xs).toInt8.toInt32) k 1 (nI j) (by omega) (by omega)) (kw_V 1 hts bw2_110 bw2_111 bw2_112 bw1_2 bw2_113 rfl rfl (by decide +kernel) ⟨Nat.le_of_ble_eq_true rfl, Nat.le_of_ble_eq_true rfl⟩) (kp_V (wc := [(aT, .inr (5, [.ref aR, .int (nI k), .int 1])), (aR, .inl (cA, n, .inl (upd f j ((tb f k (nI j)) ^^^ xs).toInt8.toInt32)))]) (tc := [(cA, .byte)]) (As := [.int (nI j)]) hG hS hA hP hD hK [1, 2] rfl (by decide) rfl [0] rfl (ci := 5) (q0 := 1) rfl rfl) rfl rfl hl.1 rfl (lv_room (Nat.le_of_ble_eq_true rfl)) dc_B_spoil_65 ⟨Nat.zero_le _, Nat.zero_le _⟩) (fun r_7 _ H locs hw hP hD hK1 hS => ?_)
        have hw : tb (upd f j ((tb f k (nI j)) ^^^ xs).toInt8.toInt32) k (nI j) = r_7 := hw.symm
        subst hw
        have hP : va_P (dC, dI) vwCl [(aB, .inr (6, [.ref aT, .ref aF, .ref aQ, .int fk, .int fp])), (aT, .inr (5, [.ref aR, .int (nI k), .int 1])), (aR, .inl (cA, n, .inl (upd f j ((tb f k (nI j)) ^^^ xs).toInt8.toInt32)))] H := hP
        have hD : va_D A [(aB, .inr (6, [.ref aT, .ref aF, .ref aQ, .int fk, .int fp])), (aT, .inr (5, [.ref aR, .int (nI k), .int 1])), (aR, .inl (cA, n, .inl (upd f j ((tb f k (nI j)) ^^^ xs).toInt8.toInt32)))] := hD
        have e_8 : (upd f j ((tb f k (nI j)) ^^^ xs).toInt8.toInt32) = (upd f j (tb f k (nI j) ^^^ xs).toInt8.toInt32) := by with_reducible rfl
        have hP := wP_eq (ws' := [(aB, .inr (6, [.ref aT, .ref aF, .ref aQ, .int fk, .int fp])), (aT, .inr (5, [.ref aR, .int (nI k), .int 1])), (aR, .inl (cA, n, .inl (upd f j (tb f k (nI j) ^^^ xs).toInt8.toInt32)))]) hP (cg1 (fun y0 => ([(aB, .inr (6, [.ref aT, .ref aF, .ref aQ, .int fk, .int fp])), (aT, .inr (5, [.ref aR, .int (nI k), .int 1])), (aR, .inl (cA, n, .inl y0))] : va_W)) e_8)
        have hD := wD_eq (ws' := [(aB, .inr (6, [.ref aT, .ref aF, .ref aQ, .int fk, .int fp])), (aT, .inr (5, [.ref aR, .int (nI k), .int 1])), (aR, .inl (cA, n, .inl (upd f j (tb f k (nI j) ^^^ xs).toInt8.toInt32)))]) hD (cg1 (fun y0 => ([(aB, .inr (6, [.ref aT, .ref aF, .ref aQ, .int fk, .int fp])), (aT, .inr (5, [.ref aR, .int (nI k), .int 1])), (aR, .inl (cA, n, .inl y0))] : va_W)) e_8)
        have hP9 := hP.sub (ws' := [(aB, .inr (6, [.ref aT, .ref aF, .ref aQ, .int fk, .int fp])), (aT, .inr (5, [.ref aR, .int (nI k), .int 1])), (aR, .inl (cA, n, .inl (upd f j (tb f k (nI j) ^^^ xs).toInt8.toInt32)))]) [0, 1, 2] rfl
        have hD9 := hD.sub (ws' := [(aB, .inr (6, [.ref aT, .ref aF, .ref aQ, .int fk, .int fp])), (aT, .inr (5, [.ref aR, .int (nI k), .int 1])), (aR, .inl (cA, n, .inl (upd f j (tb f k (nI j) ^^^ xs).toInt8.toInt32)))]) [0, 1, 2] (by decide) rfl
        have hK9 := hK.sub (tys' := [(cA, .byte)]) [0] rfl
        exact W.iret (v := (tb (upd f j ((tb f k (nI j)) ^^^ xs).toInt8.toInt32) k (nI j))) hx hb hr (fun t ht hW => ⟨⟨(tb (upd f j ((tb f k (nI j)) ^^^ xs).toInt8.toInt32) k (nI j)), (), rfl, rfl, by rw [ht]; exact hP9, va_K.moved hW.alike hK9, hD9⟩, hS.F ht⟩) hS.2.2 dc_B_spoil_68
      · exact absurd (hx1) c_4
  · exfalso; exact hasC_in hj (by omega) c_2

set_option maxHeartbeats 1000000 in
set_option maxRecDepth 100000 in
theorem c_B_check_small (l : Launch) (dC : Nat → ClassId) (dI : Nat → Nat → Nat) (sz : Nat) (aB : Nat) (aF : Nat) (aQ : Nat) (fk : Int32) (fp : Int32) (aT : Nat) (aR : Nat) (cA : ClassId) (n : Nat) (f : Nat → Int32) (k : Nat) (ch : Int32) (hk : k ≤ n) (hn : n ≤ 16384) (hk2 : k < 61) : Met l my_B_check (wB my_B_check cd_B_check 1 (some .int)) ({ frames := 0, cells := 0, slots := 0, locals := 0 }) (va_Pc [.ref aB] (PcW (dC, dI) [(aB, .inr (6, [.ref aT, .ref aF, .ref aQ, .int fk, .int fp])), (aT, .inr (5, [.ref aR, .int (nI k), .int ch])), (aR, .inl (cA, n, .inl f))] [(cA, .byte)] sz)) (va_Qi (fun (r : Int32) => fun (_ : Unit) => r = (-1)) (fun _ => EnW (dC, dI) (va_A [(aB, .inr (6, [.ref aT, .ref aF, .ref aQ, .int fk, .int fp])), (aT, .inr (5, [.ref aR, .int (nI k), .int ch])), (aR, .inl (cA, n, .inl f))] sz) [(aB, .inr (6, [.ref aT, .ref aF, .ref aQ, .int fk, .int fp])), (aT, .inr (5, [.ref aR, .int (nI k), .int ch])), (aR, .inl (cA, n, .inl f))] [(cA, .byte)]) (va_A [(aB, .inr (6, [.ref aT, .ref aF, .ref aQ, .int fk, .int fp])), (aT, .inr (5, [.ref aR, .int (nI k), .int ch])), (aR, .inl (cA, n, .inl f))] sz)) 0 0 (va_A [(aB, .inr (6, [.ref aT, .ref aF, .ref aQ, .int fk, .int fp])), (aT, .inr (5, [.ref aR, .int (nI k), .int ch])), (aR, .inl (cA, n, .inl f))] sz) := by
  refine Met.ofW (cc := cd_B_check) (maxL := 1) (ret := (some .int)) (by decide) rfl ?_
  intro p e s m args below meth c s₁ B hml hv
  obtain ⟨rfl, hsz, hP, hK, hD0, hG⟩ := hv
  have hx := B.exec
  have hb := B.bytes
  have hr := B.returns
  have hts := fun (w : Cond) (h : w ∈ bigT) => atoms_spec (ws := (wB my_B_check cd_B_check 1 (some .int))) B.pre w (List.mem_cons_of_mem _ h)
  have hown : s.vm.findClass rn_B = some m.cls := findClass_of_methodNamed B.named
  have hlocks := B.notSynchronized
  subst hsz
  have hD := hD0.self (sz := s.heap.size)
  generalize hAe : va_A [(aB, .inr (6, [.ref aT, .ref aF, .ref aQ, .int fk, .int fp])), (aT, .inr (5, [.ref aR, .int (nI k), .int ch])), (aR, .inl (cA, n, .inl f))] s.heap.size = A at hD hG ⊢
  have hA : ∀ q : Nat, s.heap.size ≤ q → A q := fun q h => by rw [← hAe]; exact Or.inr h
  have hS : va_S A s.heap s.heap [] := va_S.rf
  have hP : va_P (dC, dI) vwCl [(aB, .inr (6, [.ref aT, .ref aF, .ref aQ, .int fk, .int fp])), (aT, .inr (5, [.ref aR, .int (nI k), .int ch])), (aR, .inl (cA, n, .inl f))] s.heap := hP
  have hl := lv_entry ([.ref aB]) (n := 1) (Nat.le_of_ble_eq_true rfl)
  rw [lg_entry_eq]
  generalize (lg_sl ([.ref aB]) ++ List.replicate (1 - (lg_sl ([.ref aB])).length) Slot.unset).toArray = ls at hl ⊢
  have hl : lv_has ls 1 [(0, .ref aB)] := hl
  refine lv_aload_n hx hb dc_B_check_0 rfl (lv_at hl 0 rfl) ?_
  refine va_get (D := (dC, dI)) (ci := 6) (v := .ref aT) (C := rn_B) (T := ft_B) (N := 5) hx hb hts fw_B hown hK hP 0 rfl rfl 0 (by decide) (hts _ bw1_151) (fun _ h9 => h9) rfl dc_B_check_1 ?_
  refine va_get (D := (dC, dI)) (ci := 5) (v := .int (nI k)) (C := rn_T) (T := ft_T) (N := 3) hx hb hts fw_T hown hK hP 1 rfl rfl 1 (by decide) (hts _ bw1_38) (fun _ h9 => h9) rfl dc_B_check_4 ?_
  refine lv_bipush (v := 61) hx hb dc_B_check_7 (by decide) ?_
  refine lv_icmp_ge (tgt := 14) hx hb dc_B_check_9 (by decide) (fun c_1 => ?_) (fun c_1 => ?_)
  · exfalso; exact absurd ((nI_leI (a := 61) (by omega) (by omega)).mp c_1) (by omega)
  · refine lv_iconst (v := (-1)) hx hb dc_B_check_12 (by decide) ?_
    have hP9 := hP.sub (ws' := [(aB, .inr (6, [.ref aT, .ref aF, .ref aQ, .int fk, .int fp])), (aT, .inr (5, [.ref aR, .int (nI k), .int ch])), (aR, .inl (cA, n, .inl f))]) [0, 1, 2] rfl
    have hD9 := hD.sub (ws' := [(aB, .inr (6, [.ref aT, .ref aF, .ref aQ, .int fk, .int fp])), (aT, .inr (5, [.ref aR, .int (nI k), .int ch])), (aR, .inl (cA, n, .inl f))]) [0, 1, 2] (by decide) rfl
    have hK9 := hK.sub (tys' := [(cA, .byte)]) [0] rfl
    exact W.iret (v := (-1)) hx hb hr (fun t ht hW => ⟨⟨(-1), (), rfl, rfl, by rw [ht]; exact hP9, va_K.moved hW.alike hK9, hD9⟩, hS.F ht⟩) hS.2.2 dc_B_check_13

set_option maxHeartbeats 1000000 in
set_option maxRecDepth 100000 in
theorem c_B_check_ok (l : Launch) (dC : Nat → ClassId) (dI : Nat → Nat → Nat) (sz : Nat) (aB : Nat) (aF : Nat) (aQ : Nat) (fk : Int32) (fp : Int32) (aT : Nat) (aR : Nat) (cA : ClassId) (n : Nat) (f : Nat → Int32) (k : Nat) (ch : Int32) (hk : k ≤ n) (hn : n ≤ 16384) (hk2 : 61 ≤ k) : Met l my_B_check (wB my_B_check cd_B_check 1 (some .int)) ({ frames := 3, cells := 0, slots := 0, locals := 66 }) (va_Pc [.ref aB] (PcW (dC, dI) [(aB, .inr (6, [.ref aT, .ref aF, .ref aQ, .int fk, .int fp])), (aT, .inr (5, [.ref aR, .int (nI k), .int ch])), (aR, .inl (cA, n, .inl f))] [(cA, .byte)] sz)) (va_Qi (fun (r : Int32) => fun (_ : Unit) => r = ckC f (0 + 21) (k - (0 + 21))) (fun _ => EnW (dC, dI) (va_A [(aB, .inr (6, [.ref aT, .ref aF, .ref aQ, .int fk, .int fp])), (aT, .inr (5, [.ref aR, .int (nI k), .int ch])), (aR, .inl (cA, n, .inl f))] sz) [(aB, .inr (6, [.ref aT, .ref aF, .ref aQ, .int fk, .int fp])), (aT, .inr (5, [.ref aR, .int (nI k), .int 1])), (aR, .inl (cA, n, .inl (pCk f (0 + 17) (ckC f (0 + 21) (k - (0 + 21))) 4)))] [(cA, .byte)]) (va_A [(aB, .inr (6, [.ref aT, .ref aF, .ref aQ, .int fk, .int fp])), (aT, .inr (5, [.ref aR, .int (nI k), .int ch])), (aR, .inl (cA, n, .inl f))] sz)) 0 0 (va_A [(aB, .inr (6, [.ref aT, .ref aF, .ref aQ, .int fk, .int fp])), (aT, .inr (5, [.ref aR, .int (nI k), .int ch])), (aR, .inl (cA, n, .inl f))] sz) := by
  refine Met.ofW (cc := cd_B_check) (maxL := 1) (ret := (some .int)) (by decide) rfl ?_
  intro p e s m args below meth c s₁ B hml hv
  obtain ⟨rfl, hsz, hP, hK, hD0, hG⟩ := hv
  have hx := B.exec
  have hb := B.bytes
  have hr := B.returns
  have hts := fun (w : Cond) (h : w ∈ bigT) => atoms_spec (ws := (wB my_B_check cd_B_check 1 (some .int))) B.pre w (List.mem_cons_of_mem _ h)
  have hown : s.vm.findClass rn_B = some m.cls := findClass_of_methodNamed B.named
  have hlocks := B.notSynchronized
  subst hsz
  have hD := hD0.self (sz := s.heap.size)
  generalize hAe : va_A [(aB, .inr (6, [.ref aT, .ref aF, .ref aQ, .int fk, .int fp])), (aT, .inr (5, [.ref aR, .int (nI k), .int ch])), (aR, .inl (cA, n, .inl f))] s.heap.size = A at hD hG ⊢
  have hA : ∀ q : Nat, s.heap.size ≤ q → A q := fun q h => by rw [← hAe]; exact Or.inr h
  have hS : va_S A s.heap s.heap [] := va_S.rf
  have hP : va_P (dC, dI) vwCl [(aB, .inr (6, [.ref aT, .ref aF, .ref aQ, .int fk, .int fp])), (aT, .inr (5, [.ref aR, .int (nI k), .int ch])), (aR, .inl (cA, n, .inl f))] s.heap := hP
  have hl := lv_entry ([.ref aB]) (n := 1) (Nat.le_of_ble_eq_true rfl)
  rw [lg_entry_eq]
  generalize (lg_sl ([.ref aB]) ++ List.replicate (1 - (lg_sl ([.ref aB])).length) Slot.unset).toArray = ls at hl ⊢
  have hl : lv_has ls 1 [(0, .ref aB)] := hl
  refine lv_aload_n hx hb dc_B_check_0 rfl (lv_at hl 0 rfl) ?_
  refine va_get (D := (dC, dI)) (ci := 6) (v := .ref aT) (C := rn_B) (T := ft_B) (N := 5) hx hb hts fw_B hown hK hP 0 rfl rfl 0 (by decide) (hts _ bw1_151) (fun _ h9 => h9) rfl dc_B_check_1 ?_
  refine va_get (D := (dC, dI)) (ci := 5) (v := .int (nI k)) (C := rn_T) (T := ft_T) (N := 3) hx hb hts fw_T hown hK hP 1 rfl rfl 1 (by decide) (hts _ bw1_38) (fun _ h9 => h9) rfl dc_B_check_4 ?_
  refine lv_bipush (v := 61) hx hb dc_B_check_7 (by decide) ?_
  refine lv_icmp_ge (tgt := 14) hx hb dc_B_check_9 (by decide) (fun c_1 => ?_) (fun c_1 => ?_)
  · refine lv_aload_n hx hb dc_B_check_14 rfl (lv_at hl 0 rfl) ?_
    refine va_get (D := (dC, dI)) (ci := 6) (v := .ref aT) (C := rn_B) (T := ft_B) (N := 5) hx hb hts fw_B hown hK hP 0 rfl rfl 0 (by decide) (hts _ bw1_151) (fun _ h9 => h9) rfl dc_B_check_15 ?_
    refine lv_iconst (v := 0) hx hb dc_B_check_18 (by decide) ?_
    refine kc_i (wc := [(aT, .inr (5, [.ref aR, .int (nI k), .int ch])), (aR, .inl (cA, n, .inl f))]) (wr := [(aB, .inr (6, [.ref aT, .ref aF, .ref aQ, .int fk, .int fp]))]) hP hD hS hA [1, 2] [0] rfl rfl (by decide) (by decide) (va_runV (As := [.int 0]) (rest := []) ⟨hx, hb, hml, hown, hts⟩ (c_T_rightChecksum l dC dI _ aT aR cA n f k ch 0 (by omega) (by omega) (by omega)) (kw_V 1 hts bw1_171 bw1_172 bw1_173 bw1_2 bw1_174 rfl rfl (by decide +kernel) ⟨Nat.le_of_ble_eq_true rfl, Nat.le_of_ble_eq_true rfl⟩) (kp_V (wc := [(aT, .inr (5, [.ref aR, .int (nI k), .int ch])), (aR, .inl (cA, n, .inl f))]) (tc := [(cA, .byte)]) (As := [.int 0]) hG hS hA hP hD hK [1, 2] rfl (by decide) rfl [0] rfl (ci := 5) (q0 := 1) rfl rfl) rfl rfl hl.1 rfl (lv_room (Nat.le_of_ble_eq_true rfl)) dc_B_check_19 ⟨Nat.zero_le _, Nat.zero_le _⟩) (fun r_2 _ H locs hw hP hD hK1 hS => ?_)
    have hw : ckC f (0 + 21) (k - (0 + 21)) = r_2 := hw.symm
    subst hw
    have hP : va_P (dC, dI) vwCl [(aB, .inr (6, [.ref aT, .ref aF, .ref aQ, .int fk, .int fp])), (aT, .inr (5, [.ref aR, .int (nI k), .int 1])), (aR, .inl (cA, n, .inl (pCk f (0 + 17) (ckC f (0 + 21) (k - (0 + 21))) 4)))] H := hP
    have hD : va_D A [(aB, .inr (6, [.ref aT, .ref aF, .ref aQ, .int fk, .int fp])), (aT, .inr (5, [.ref aR, .int (nI k), .int 1])), (aR, .inl (cA, n, .inl (pCk f (0 + 17) (ckC f (0 + 21) (k - (0 + 21))) 4)))] := hD
    have hP9 := hP.sub (ws' := [(aB, .inr (6, [.ref aT, .ref aF, .ref aQ, .int fk, .int fp])), (aT, .inr (5, [.ref aR, .int (nI k), .int 1])), (aR, .inl (cA, n, .inl (pCk f (0 + 17) (ckC f (0 + 21) (k - (0 + 21))) 4)))]) [0, 1, 2] rfl
    have hD9 := hD.sub (ws' := [(aB, .inr (6, [.ref aT, .ref aF, .ref aQ, .int fk, .int fp])), (aT, .inr (5, [.ref aR, .int (nI k), .int 1])), (aR, .inl (cA, n, .inl (pCk f (0 + 17) (ckC f (0 + 21) (k - (0 + 21))) 4)))]) [0, 1, 2] (by decide) rfl
    have hK9 := hK.sub (tys' := [(cA, .byte)]) [0] rfl
    exact W.iret (v := (ckC f (0 + 21) (k - (0 + 21)))) hx hb hr (fun t ht hW => ⟨⟨(ckC f (0 + 21) (k - (0 + 21))), (), rfl, rfl, by rw [ht]; exact hP9, va_K.moved hW.alike hK9, hD9⟩, hS.F ht⟩) hS.2.2 dc_B_check_22
  · exact absurd (nI_le (a := 61) hk2 (by omega)) c_1

set_option maxHeartbeats 1000000 in
set_option maxRecDepth 100000 in
theorem c_B_feed_ok (l : Launch) (dC : Nat → ClassId) (dI : Nat → Nat → Nat) (sz : Nat) (aB : Nat) (aF : Nat) (aQ : Nat) (fk : Int32) (fp : Int32) (aT : Nat) (aR : Nat) (cA : ClassId) (n : Nat) (f : Nat → Int32) (k : Nat) (ch : Int32) (va0 : Int32) (va1 : Int32) (va2 : Int32) (va3 : Int32) (va4 : Int32) (hk : k ≤ n) (hn : n ≤ 16384) (hk2 : k + 20 ≤ 16384) (hfit : fitB f) : Met l my_B_feed (wB my_B_feed cd_B_feed 6 (some .int)) ({ frames := 3, cells := grC n (k + 20), slots := grS n (k + 20), locals := 73 }) (va_Pc [.ref aB, .int va0, .int va1, .int va2, .int va3, .int va4] (PcW (dC, dI) [(aB, .inr (6, [.ref aT, .ref aF, .ref aQ, .int fk, .int fp])), (aT, .inr (5, [.ref aR, .int (nI k), .int ch])), (aR, .inl (cA, n, .inl f))] [(cA, .byte)] sz)) (va_Qi (fun (r : Int32) => fun (u : Nat × ClassId × (Nat → Int32)) => r = nI (k + 20) ∧ (∀ i, i < k → u.2.2 i = f i) ∧ fitB u.2.2) (fun u => EnW (dC, dI) (va_A [(aB, .inr (6, [.ref aT, .ref aF, .ref aQ, .int fk, .int fp])), (aT, .inr (5, [.ref aR, .int (nI k), .int ch])), (aR, .inl (cA, n, .inl f))] sz) [(aB, .inr (6, [.ref aT, .ref aF, .ref aQ, .int fk, .int fp])), (aT, .inr (5, [.ref u.1, .int (nI (k + 20)), .int 1])), (u.1, .inl (u.2.1, grN n (k + 20), .inl (wrB (wrB (wrB (wrB (wrB u.2.2 k (numL va0.toInt64 4)) (k + 4) (numL va1.toInt64 4)) (k + 8) (numL va2.toInt64 4)) (k + 12) (numL va3.toInt64 4)) (k + 16) (numL va4.toInt64 4))))] [(u.2.1, .byte)]) (va_A [(aB, .inr (6, [.ref aT, .ref aF, .ref aQ, .int fk, .int fp])), (aT, .inr (5, [.ref aR, .int (nI k), .int ch])), (aR, .inl (cA, n, .inl f))] sz)) (grC n (k + 20)) (grS n (k + 20)) (va_A [(aB, .inr (6, [.ref aT, .ref aF, .ref aQ, .int fk, .int fp])), (aT, .inr (5, [.ref aR, .int (nI k), .int ch])), (aR, .inl (cA, n, .inl f))] sz) := by
  refine Met.ofW (cc := cd_B_feed) (maxL := 6) (ret := (some .int)) (by decide) rfl ?_
  intro p e s m args below meth c s₁ B hml hv
  obtain ⟨rfl, hsz, hP, hK, hD0, hG⟩ := hv
  have hx := B.exec
  have hb := B.bytes
  have hr := B.returns
  have hts := fun (w : Cond) (h : w ∈ bigT) => atoms_spec (ws := (wB my_B_feed cd_B_feed 6 (some .int))) B.pre w (List.mem_cons_of_mem _ h)
  have hown : s.vm.findClass rn_B = some m.cls := findClass_of_methodNamed B.named
  have hlocks := B.notSynchronized
  subst hsz
  have hD := hD0.self (sz := s.heap.size)
  generalize hAe : va_A [(aB, .inr (6, [.ref aT, .ref aF, .ref aQ, .int fk, .int fp])), (aT, .inr (5, [.ref aR, .int (nI k), .int ch])), (aR, .inl (cA, n, .inl f))] s.heap.size = A at hD hG ⊢
  have hA : ∀ q : Nat, s.heap.size ≤ q → A q := fun q h => by rw [← hAe]; exact Or.inr h
  have hS : va_S A s.heap s.heap [] := va_S.rf
  have hP : va_P (dC, dI) vwCl [(aB, .inr (6, [.ref aT, .ref aF, .ref aQ, .int fk, .int fp])), (aT, .inr (5, [.ref aR, .int (nI k), .int ch])), (aR, .inl (cA, n, .inl f))] s.heap := hP
  have hl := lv_entry ([.ref aB, .int va0, .int va1, .int va2, .int va3, .int va4]) (n := 6) (Nat.le_of_ble_eq_true rfl)
  rw [lg_entry_eq]
  generalize (lg_sl ([.ref aB, .int va0, .int va1, .int va2, .int va3, .int va4]) ++ List.replicate (6 - (lg_sl ([.ref aB, .int va0, .int va1, .int va2, .int va3, .int va4])).length) Slot.unset).toArray = ls at hl ⊢
  have hl : lv_has ls 6 [(0, .ref aB), (1, .int va0), (2, .int va1), (3, .int va2), (4, .int va3), (5, .int va4)] := hl
  have hgr := grN_ge (n := n) hk2 hn
  refine lv_aload_n hx hb dc_B_feed_0 rfl (lv_at hl 0 rfl) ?_
  refine va_get (D := (dC, dI)) (ci := 6) (v := .ref aT) (C := rn_B) (T := ft_B) (N := 5) hx hb hts fw_B hown hK hP 0 rfl rfl 0 (by decide) (hts _ bw1_151) (fun _ h9 => h9) rfl dc_B_feed_1 ?_
  refine va_get (D := (dC, dI)) (ci := 5) (v := .int (nI k)) (C := rn_T) (T := ft_T) (N := 3) hx hb hts fw_T hown hK hP 1 rfl rfl 1 (by decide) (hts _ bw1_38) (fun _ h9 => h9) rfl dc_B_feed_4 ?_
  refine lv_bipush (v := 20) hx hb dc_B_feed_7 (by decide) ?_
  refine lv_iadd hx hb dc_B_feed_9 ?_
  refine lv_sipush (v := 16384) hx hb dc_B_feed_10 (by decide) ?_
  refine lv_icmp_le (tgt := 26) hx hb dc_B_feed_13 (by decide) (fun c_1 => ?_) (fun c_1 => ?_)
  · refine lv_aload_n hx hb dc_B_feed_26 rfl (lv_at hl 0 rfl) ?_
    refine va_get (D := (dC, dI)) (ci := 6) (v := .ref aT) (C := rn_B) (T := ft_B) (N := 5) hx hb hts fw_B hown hK hP 0 rfl rfl 0 (by decide) (hts _ bw1_151) (fun _ h9 => h9) rfl dc_B_feed_27 ?_
    refine lv_bipush (v := 20) hx hb dc_B_feed_30 (by decide) ?_
    refine kc_v (wc := [(aT, .inr (5, [.ref aR, .int (nI k), .int ch])), (aR, .inl (cA, n, .inl f))]) (wr := [(aB, .inr (6, [.ref aT, .ref aF, .ref aQ, .int fk, .int fp]))]) hP hD hS hA [1, 2] [0] rfl rfl (by decide) (by decide) (va_runV (As := [.int 20]) (rest := []) ⟨hx, hb, hml, hown, hts⟩ (c_T_makeRoom l dC dI _ aT aR cA n f k ch 20 (by omega) (by omega) (by omega) (hfit)) (kw_V 1 hts bw2_39 bw2_40 bw2_41 bw1_2 bw2_42 rfl rfl (by decide +kernel) ⟨Nat.le_of_ble_eq_true rfl, Nat.le_of_ble_eq_true rfl⟩) (kp_V (wc := [(aT, .inr (5, [.ref aR, .int (nI k), .int ch])), (aR, .inl (cA, n, .inl f))]) (tc := [(cA, .byte)]) (As := [.int 20]) hG hS hA hP hD hK [1, 2] rfl (by decide) rfl [0] rfl (ci := 5) (q0 := 1) rfl rfl) rfl rfl hl.1 rfl (lv_room (Nat.le_of_ble_eq_true rfl)) dc_B_feed_32 ⟨by show _ ≤ grC n (k + 20); omega, by show _ ≤ grS n (k + 20); omega⟩) (fun u_6 H locs hw hP hD hK1 hS => ?_)
    obtain ⟨aR1_2, cA1_3, f1_4⟩ := u_6
    obtain ⟨h_7, h_8⟩ := hw
    have h_7 : (∀ i, i < k → f1_4 i = f i) := h_7
    have h_8 : fitB f1_4 := h_8
    have hK := hK.app hK1
    have hK : va_K (dC, dI) vwCl [(cA, .byte), (cA1_3, .byte)] s := hK
    have hP : va_P (dC, dI) vwCl [(aB, .inr (6, [.ref aT, .ref aF, .ref aQ, .int fk, .int fp])), (aT, .inr (5, [.ref aR1_2, .int (nI k), .int ch])), (aR1_2, .inl (cA1_3, grN n (k + 20), .inl f1_4))] H := hP
    have hD : va_D A [(aB, .inr (6, [.ref aT, .ref aF, .ref aQ, .int fk, .int fp])), (aT, .inr (5, [.ref aR1_2, .int (nI k), .int ch])), (aR1_2, .inl (cA1_3, grN n (k + 20), .inl f1_4))] := hD
    refine lv_aload_n hx hb dc_B_feed_35 rfl (lv_at hl 0 rfl) ?_
    refine va_get (D := (dC, dI)) (ci := 6) (v := .ref aT) (C := rn_B) (T := ft_B) (N := 5) hx hb hts fw_B hown hK hP 0 rfl rfl 0 (by decide) (hts _ bw1_151) (fun _ h9 => h9) rfl dc_B_feed_36 ?_
    refine lv_iload_n hx hb dc_B_feed_39 rfl (lv_at hl 1 rfl) ?_
    refine lv_i2l (v := va0.toInt64) hx hb dc_B_feed_40 rfl ?_
    refine lv_iconst (v := 4) hx hb dc_B_feed_41 (by decide) ?_
    refine kc_v (wc := [(aT, .inr (5, [.ref aR1_2, .int (nI k), .int ch])), (aR1_2, .inl (cA1_3, grN n (k + 20), .inl f1_4))]) (wr := [(aB, .inr (6, [.ref aT, .ref aF, .ref aQ, .int fk, .int fp]))]) hP hD hS hA [1, 2] [0] rfl rfl (by decide) (by decide) (va_runV (As := [.long va0.toInt64, .int 4]) (rest := []) ⟨hx, hb, hml, hown, hts⟩ (c_T_putNumber l dC dI _ aT aR1_2 cA1_3 (grN n (k + 20)) f1_4 k ch va0.toInt64 4 (by omega) (by omega)) (kw_V 2 hts bw2_63 bw2_64 bw2_65 bw1_2 bw2_66 rfl rfl (by decide +kernel) ⟨Nat.le_of_ble_eq_true rfl, Nat.le_of_ble_eq_true rfl⟩) (kp_V (wc := [(aT, .inr (5, [.ref aR1_2, .int (nI k), .int ch])), (aR1_2, .inl (cA1_3, grN n (k + 20), .inl f1_4))]) (tc := [(cA1_3, .byte)]) (As := [.long va0.toInt64, .int 4]) hG hS hA hP hD hK [1, 2] rfl (by decide) rfl [1] rfl (ci := 5) (q0 := 1) rfl rfl) rfl rfl hl.1 rfl (lv_room (Nat.le_of_ble_eq_true rfl)) dc_B_feed_42 ⟨by show _ ≤ grC n (k + 20); omega, by show _ ≤ grS n (k + 20); omega⟩) (fun _ H locs hw hP hD hK1 hS => ?_)
    have hP : va_P (dC, dI) vwCl [(aB, .inr (6, [.ref aT, .ref aF, .ref aQ, .int fk, .int fp])), (aT, .inr (5, [.ref aR1_2, .int (nI (k + 4)), .int (if 4 = 0 then ch else 1)])), (aR1_2, .inl (cA1_3, (grN n (k + 20)), .inl (wrB f1_4 k (numL va0.toInt64 4))))] H := hP
    have hD : va_D A [(aB, .inr (6, [.ref aT, .ref aF, .ref aQ, .int fk, .int fp])), (aT, .inr (5, [.ref aR1_2, .int (nI (k + 4)), .int (if 4 = 0 then ch else 1)])), (aR1_2, .inl (cA1_3, (grN n (k + 20)), .inl (wrB f1_4 k (numL va0.toInt64 4))))] := hD
    have e_10 : (if 4 = 0 then ch else 1) = 1 := by rfl
    have hP := wP_eq (ws' := [(aB, .inr (6, [.ref aT, .ref aF, .ref aQ, .int fk, .int fp])), (aT, .inr (5, [.ref aR1_2, .int (nI (k + 4)), .int 1])), (aR1_2, .inl (cA1_3, (grN n (k + 20)), .inl (wrB f1_4 k (numL va0.toInt64 4))))]) hP (cg1 (fun y0 => ([(aB, .inr (6, [.ref aT, .ref aF, .ref aQ, .int fk, .int fp])), (aT, .inr (5, [.ref aR1_2, .int (nI (k + 4)), .int y0])), (aR1_2, .inl (cA1_3, (grN n (k + 20)), .inl (wrB f1_4 k (numL va0.toInt64 4))))] : va_W)) e_10)
    have hD := wD_eq (ws' := [(aB, .inr (6, [.ref aT, .ref aF, .ref aQ, .int fk, .int fp])), (aT, .inr (5, [.ref aR1_2, .int (nI (k + 4)), .int 1])), (aR1_2, .inl (cA1_3, (grN n (k + 20)), .inl (wrB f1_4 k (numL va0.toInt64 4))))]) hD (cg1 (fun y0 => ([(aB, .inr (6, [.ref aT, .ref aF, .ref aQ, .int fk, .int fp])), (aT, .inr (5, [.ref aR1_2, .int (nI (k + 4)), .int y0])), (aR1_2, .inl (cA1_3, (grN n (k + 20)), .inl (wrB f1_4 k (numL va0.toInt64 4))))] : va_W)) e_10)
    refine lv_aload_n hx hb dc_B_feed_45 rfl (lv_at hl 0 rfl) ?_
    refine va_get (D := (dC, dI)) (ci := 6) (v := .ref aT) (C := rn_B) (T := ft_B) (N := 5) hx hb hts fw_B hown hK hP 0 rfl rfl 0 (by decide) (hts _ bw1_151) (fun _ h9 => h9) rfl dc_B_feed_46 ?_
    refine lv_iload_n hx hb dc_B_feed_49 rfl (lv_at hl 2 rfl) ?_
    refine lv_i2l (v := va1.toInt64) hx hb dc_B_feed_50 rfl ?_
    refine lv_iconst (v := 4) hx hb dc_B_feed_51 (by decide) ?_
    refine kc_v (wc := [(aT, .inr (5, [.ref aR1_2, .int (nI (k + 4)), .int 1])), (aR1_2, .inl (cA1_3, (grN n (k + 20)), .inl (wrB f1_4 k (numL va0.toInt64 4))))]) (wr := [(aB, .inr (6, [.ref aT, .ref aF, .ref aQ, .int fk, .int fp]))]) hP hD hS hA [1, 2] [0] rfl rfl (by decide) (by decide) (va_runV (As := [.long va1.toInt64, .int 4]) (rest := []) ⟨hx, hb, hml, hown, hts⟩ (c_T_putNumber l dC dI _ aT aR1_2 cA1_3 (grN n (k + 20)) (wrB f1_4 k (numL va0.toInt64 4)) (k + 4) 1 va1.toInt64 4 (by omega) (by omega)) (kw_V 2 hts bw2_63 bw2_64 bw2_65 bw1_2 bw2_66 rfl rfl (by decide +kernel) ⟨Nat.le_of_ble_eq_true rfl, Nat.le_of_ble_eq_true rfl⟩) (kp_V (wc := [(aT, .inr (5, [.ref aR1_2, .int (nI (k + 4)), .int 1])), (aR1_2, .inl (cA1_3, (grN n (k + 20)), .inl (wrB f1_4 k (numL va0.toInt64 4))))]) (tc := [(cA1_3, .byte)]) (As := [.long va1.toInt64, .int 4]) hG hS hA hP hD hK [1, 2] rfl (by decide) rfl [1] rfl (ci := 5) (q0 := 1) rfl rfl) rfl rfl hl.1 rfl (lv_room (Nat.le_of_ble_eq_true rfl)) dc_B_feed_52 ⟨by show _ ≤ grC n (k + 20); omega, by show _ ≤ grS n (k + 20); omega⟩) (fun _ H locs hw hP hD hK1 hS => ?_)
    have hP : va_P (dC, dI) vwCl [(aB, .inr (6, [.ref aT, .ref aF, .ref aQ, .int fk, .int fp])), (aT, .inr (5, [.ref aR1_2, .int (nI ((k + 4) + 4)), .int (if 4 = 0 then 1 else 1)])), (aR1_2, .inl (cA1_3, (grN n (k + 20)), .inl (wrB (wrB f1_4 k (numL va0.toInt64 4)) (k + 4) (numL va1.toInt64 4))))] H := hP
    have hD : va_D A [(aB, .inr (6, [.ref aT, .ref aF, .ref aQ, .int fk, .int fp])), (aT, .inr (5, [.ref aR1_2, .int (nI ((k + 4) + 4)), .int (if 4 = 0 then 1 else 1)])), (aR1_2, .inl (cA1_3, (grN n (k + 20)), .inl (wrB (wrB f1_4 k (numL va0.toInt64 4)) (k + 4) (numL va1.toInt64 4))))] := hD
    have e_12 : (nI ((k + 4) + 4)) = (nI (k + 8)) := by exact congrArg nI (by omega)
    have e_13 : (if 4 = 0 then 1 else 1) = (1 : Int32) := by rfl
    have hP := wP_eq (ws' := [(aB, .inr (6, [.ref aT, .ref aF, .ref aQ, .int fk, .int fp])), (aT, .inr (5, [.ref aR1_2, .int (nI (k + 8)), .int 1])), (aR1_2, .inl (cA1_3, (grN n (k + 20)), .inl (wrB (wrB f1_4 k (numL va0.toInt64 4)) (k + 4) (numL va1.toInt64 4))))]) hP (cg2 (fun y0 y1 => ([(aB, .inr (6, [.ref aT, .ref aF, .ref aQ, .int fk, .int fp])), (aT, .inr (5, [.ref aR1_2, .int y0, .int y1])), (aR1_2, .inl (cA1_3, (grN n (k + 20)), .inl (wrB (wrB f1_4 k (numL va0.toInt64 4)) (k + 4) (numL va1.toInt64 4))))] : va_W)) e_12 e_13)
    have hD := wD_eq (ws' := [(aB, .inr (6, [.ref aT, .ref aF, .ref aQ, .int fk, .int fp])), (aT, .inr (5, [.ref aR1_2, .int (nI (k + 8)), .int 1])), (aR1_2, .inl (cA1_3, (grN n (k + 20)), .inl (wrB (wrB f1_4 k (numL va0.toInt64 4)) (k + 4) (numL va1.toInt64 4))))]) hD (cg2 (fun y0 y1 => ([(aB, .inr (6, [.ref aT, .ref aF, .ref aQ, .int fk, .int fp])), (aT, .inr (5, [.ref aR1_2, .int y0, .int y1])), (aR1_2, .inl (cA1_3, (grN n (k + 20)), .inl (wrB (wrB f1_4 k (numL va0.toInt64 4)) (k + 4) (numL va1.toInt64 4))))] : va_W)) e_12 e_13)
    refine lv_aload_n hx hb dc_B_feed_55 rfl (lv_at hl 0 rfl) ?_
    refine va_get (D := (dC, dI)) (ci := 6) (v := .ref aT) (C := rn_B) (T := ft_B) (N := 5) hx hb hts fw_B hown hK hP 0 rfl rfl 0 (by decide) (hts _ bw1_151) (fun _ h9 => h9) rfl dc_B_feed_56 ?_
    refine lv_iload_n hx hb dc_B_feed_59 rfl (lv_at hl 3 rfl) ?_
    refine lv_i2l (v := va2.toInt64) hx hb dc_B_feed_60 rfl ?_
    refine lv_iconst (v := 4) hx hb dc_B_feed_61 (by decide) ?_
    refine kc_v (wc := [(aT, .inr (5, [.ref aR1_2, .int (nI (k + 8)), .int 1])), (aR1_2, .inl (cA1_3, (grN n (k + 20)), .inl (wrB (wrB f1_4 k (numL va0.toInt64 4)) (k + 4) (numL va1.toInt64 4))))]) (wr := [(aB, .inr (6, [.ref aT, .ref aF, .ref aQ, .int fk, .int fp]))]) hP hD hS hA [1, 2] [0] rfl rfl (by decide) (by decide) (va_runV (As := [.long va2.toInt64, .int 4]) (rest := []) ⟨hx, hb, hml, hown, hts⟩ (c_T_putNumber l dC dI _ aT aR1_2 cA1_3 (grN n (k + 20)) (wrB (wrB f1_4 k (numL va0.toInt64 4)) (k + 4) (numL va1.toInt64 4)) (k + 8) 1 va2.toInt64 4 (by omega) (by omega)) (kw_V 2 hts bw2_63 bw2_64 bw2_65 bw1_2 bw2_66 rfl rfl (by decide +kernel) ⟨Nat.le_of_ble_eq_true rfl, Nat.le_of_ble_eq_true rfl⟩) (kp_V (wc := [(aT, .inr (5, [.ref aR1_2, .int (nI (k + 8)), .int 1])), (aR1_2, .inl (cA1_3, (grN n (k + 20)), .inl (wrB (wrB f1_4 k (numL va0.toInt64 4)) (k + 4) (numL va1.toInt64 4))))]) (tc := [(cA1_3, .byte)]) (As := [.long va2.toInt64, .int 4]) hG hS hA hP hD hK [1, 2] rfl (by decide) rfl [1] rfl (ci := 5) (q0 := 1) rfl rfl) rfl rfl hl.1 rfl (lv_room (Nat.le_of_ble_eq_true rfl)) dc_B_feed_62 ⟨by show _ ≤ grC n (k + 20); omega, by show _ ≤ grS n (k + 20); omega⟩) (fun _ H locs hw hP hD hK1 hS => ?_)
    have hP : va_P (dC, dI) vwCl [(aB, .inr (6, [.ref aT, .ref aF, .ref aQ, .int fk, .int fp])), (aT, .inr (5, [.ref aR1_2, .int (nI ((k + 8) + 4)), .int (if 4 = 0 then 1 else 1)])), (aR1_2, .inl (cA1_3, (grN n (k + 20)), .inl (wrB (wrB (wrB f1_4 k (numL va0.toInt64 4)) (k + 4) (numL va1.toInt64 4)) (k + 8) (numL va2.toInt64 4))))] H := hP
    have hD : va_D A [(aB, .inr (6, [.ref aT, .ref aF, .ref aQ, .int fk, .int fp])), (aT, .inr (5, [.ref aR1_2, .int (nI ((k + 8) + 4)), .int (if 4 = 0 then 1 else 1)])), (aR1_2, .inl (cA1_3, (grN n (k + 20)), .inl (wrB (wrB (wrB f1_4 k (numL va0.toInt64 4)) (k + 4) (numL va1.toInt64 4)) (k + 8) (numL va2.toInt64 4))))] := hD
    have e_15 : (nI ((k + 8) + 4)) = (nI (k + 12)) := by exact congrArg nI (by omega)
    have e_16 : (if 4 = 0 then 1 else 1) = (1 : Int32) := by rfl
    have hP := wP_eq (ws' := [(aB, .inr (6, [.ref aT, .ref aF, .ref aQ, .int fk, .int fp])), (aT, .inr (5, [.ref aR1_2, .int (nI (k + 12)), .int 1])), (aR1_2, .inl (cA1_3, (grN n (k + 20)), .inl (wrB (wrB (wrB f1_4 k (numL va0.toInt64 4)) (k + 4) (numL va1.toInt64 4)) (k + 8) (numL va2.toInt64 4))))]) hP (cg2 (fun y0 y1 => ([(aB, .inr (6, [.ref aT, .ref aF, .ref aQ, .int fk, .int fp])), (aT, .inr (5, [.ref aR1_2, .int y0, .int y1])), (aR1_2, .inl (cA1_3, (grN n (k + 20)), .inl (wrB (wrB (wrB f1_4 k (numL va0.toInt64 4)) (k + 4) (numL va1.toInt64 4)) (k + 8) (numL va2.toInt64 4))))] : va_W)) e_15 e_16)
    have hD := wD_eq (ws' := [(aB, .inr (6, [.ref aT, .ref aF, .ref aQ, .int fk, .int fp])), (aT, .inr (5, [.ref aR1_2, .int (nI (k + 12)), .int 1])), (aR1_2, .inl (cA1_3, (grN n (k + 20)), .inl (wrB (wrB (wrB f1_4 k (numL va0.toInt64 4)) (k + 4) (numL va1.toInt64 4)) (k + 8) (numL va2.toInt64 4))))]) hD (cg2 (fun y0 y1 => ([(aB, .inr (6, [.ref aT, .ref aF, .ref aQ, .int fk, .int fp])), (aT, .inr (5, [.ref aR1_2, .int y0, .int y1])), (aR1_2, .inl (cA1_3, (grN n (k + 20)), .inl (wrB (wrB (wrB f1_4 k (numL va0.toInt64 4)) (k + 4) (numL va1.toInt64 4)) (k + 8) (numL va2.toInt64 4))))] : va_W)) e_15 e_16)
    refine lv_aload_n hx hb dc_B_feed_65 rfl (lv_at hl 0 rfl) ?_
    refine va_get (D := (dC, dI)) (ci := 6) (v := .ref aT) (C := rn_B) (T := ft_B) (N := 5) hx hb hts fw_B hown hK hP 0 rfl rfl 0 (by decide) (hts _ bw1_151) (fun _ h9 => h9) rfl dc_B_feed_66 ?_
    refine lv_iload hx hb dc_B_feed_69 (lv_at hl 4 rfl) ?_
    refine lv_i2l (v := va3.toInt64) hx hb dc_B_feed_71 rfl ?_
    refine lv_iconst (v := 4) hx hb dc_B_feed_72 (by decide) ?_
    refine kc_v (wc := [(aT, .inr (5, [.ref aR1_2, .int (nI (k + 12)), .int 1])), (aR1_2, .inl (cA1_3, (grN n (k + 20)), .inl (wrB (wrB (wrB f1_4 k (numL va0.toInt64 4)) (k + 4) (numL va1.toInt64 4)) (k + 8) (numL va2.toInt64 4))))]) (wr := [(aB, .inr (6, [.ref aT, .ref aF, .ref aQ, .int fk, .int fp]))]) hP hD hS hA [1, 2] [0] rfl rfl (by decide) (by decide) (va_runV (As := [.long va3.toInt64, .int 4]) (rest := []) ⟨hx, hb, hml, hown, hts⟩ (c_T_putNumber l dC dI _ aT aR1_2 cA1_3 (grN n (k + 20)) (wrB (wrB (wrB f1_4 k (numL va0.toInt64 4)) (k + 4) (numL va1.toInt64 4)) (k + 8) (numL va2.toInt64 4)) (k + 12) 1 va3.toInt64 4 (by omega) (by omega)) (kw_V 2 hts bw2_63 bw2_64 bw2_65 bw1_2 bw2_66 rfl rfl (by decide +kernel) ⟨Nat.le_of_ble_eq_true rfl, Nat.le_of_ble_eq_true rfl⟩) (kp_V (wc := [(aT, .inr (5, [.ref aR1_2, .int (nI (k + 12)), .int 1])), (aR1_2, .inl (cA1_3, (grN n (k + 20)), .inl (wrB (wrB (wrB f1_4 k (numL va0.toInt64 4)) (k + 4) (numL va1.toInt64 4)) (k + 8) (numL va2.toInt64 4))))]) (tc := [(cA1_3, .byte)]) (As := [.long va3.toInt64, .int 4]) hG hS hA hP hD hK [1, 2] rfl (by decide) rfl [1] rfl (ci := 5) (q0 := 1) rfl rfl) rfl rfl hl.1 rfl (lv_room (Nat.le_of_ble_eq_true rfl)) dc_B_feed_73 ⟨by show _ ≤ grC n (k + 20); omega, by show _ ≤ grS n (k + 20); omega⟩) (fun _ H locs hw hP hD hK1 hS => ?_)
    have hP : va_P (dC, dI) vwCl [(aB, .inr (6, [.ref aT, .ref aF, .ref aQ, .int fk, .int fp])), (aT, .inr (5, [.ref aR1_2, .int (nI ((k + 12) + 4)), .int (if 4 = 0 then 1 else 1)])), (aR1_2, .inl (cA1_3, (grN n (k + 20)), .inl (wrB (wrB (wrB (wrB f1_4 k (numL va0.toInt64 4)) (k + 4) (numL va1.toInt64 4)) (k + 8) (numL va2.toInt64 4)) (k + 12) (numL va3.toInt64 4))))] H := hP
    have hD : va_D A [(aB, .inr (6, [.ref aT, .ref aF, .ref aQ, .int fk, .int fp])), (aT, .inr (5, [.ref aR1_2, .int (nI ((k + 12) + 4)), .int (if 4 = 0 then 1 else 1)])), (aR1_2, .inl (cA1_3, (grN n (k + 20)), .inl (wrB (wrB (wrB (wrB f1_4 k (numL va0.toInt64 4)) (k + 4) (numL va1.toInt64 4)) (k + 8) (numL va2.toInt64 4)) (k + 12) (numL va3.toInt64 4))))] := hD
    have e_18 : (nI ((k + 12) + 4)) = (nI (k + 16)) := by exact congrArg nI (by omega)
    have e_19 : (if 4 = 0 then 1 else 1) = (1 : Int32) := by rfl
    have hP := wP_eq (ws' := [(aB, .inr (6, [.ref aT, .ref aF, .ref aQ, .int fk, .int fp])), (aT, .inr (5, [.ref aR1_2, .int (nI (k + 16)), .int 1])), (aR1_2, .inl (cA1_3, (grN n (k + 20)), .inl (wrB (wrB (wrB (wrB f1_4 k (numL va0.toInt64 4)) (k + 4) (numL va1.toInt64 4)) (k + 8) (numL va2.toInt64 4)) (k + 12) (numL va3.toInt64 4))))]) hP (cg2 (fun y0 y1 => ([(aB, .inr (6, [.ref aT, .ref aF, .ref aQ, .int fk, .int fp])), (aT, .inr (5, [.ref aR1_2, .int y0, .int y1])), (aR1_2, .inl (cA1_3, (grN n (k + 20)), .inl (wrB (wrB (wrB (wrB f1_4 k (numL va0.toInt64 4)) (k + 4) (numL va1.toInt64 4)) (k + 8) (numL va2.toInt64 4)) (k + 12) (numL va3.toInt64 4))))] : va_W)) e_18 e_19)
    have hD := wD_eq (ws' := [(aB, .inr (6, [.ref aT, .ref aF, .ref aQ, .int fk, .int fp])), (aT, .inr (5, [.ref aR1_2, .int (nI (k + 16)), .int 1])), (aR1_2, .inl (cA1_3, (grN n (k + 20)), .inl (wrB (wrB (wrB (wrB f1_4 k (numL va0.toInt64 4)) (k + 4) (numL va1.toInt64 4)) (k + 8) (numL va2.toInt64 4)) (k + 12) (numL va3.toInt64 4))))]) hD (cg2 (fun y0 y1 => ([(aB, .inr (6, [.ref aT, .ref aF, .ref aQ, .int fk, .int fp])), (aT, .inr (5, [.ref aR1_2, .int y0, .int y1])), (aR1_2, .inl (cA1_3, (grN n (k + 20)), .inl (wrB (wrB (wrB (wrB f1_4 k (numL va0.toInt64 4)) (k + 4) (numL va1.toInt64 4)) (k + 8) (numL va2.toInt64 4)) (k + 12) (numL va3.toInt64 4))))] : va_W)) e_18 e_19)
    refine lv_aload_n hx hb dc_B_feed_76 rfl (lv_at hl 0 rfl) ?_
    refine va_get (D := (dC, dI)) (ci := 6) (v := .ref aT) (C := rn_B) (T := ft_B) (N := 5) hx hb hts fw_B hown hK hP 0 rfl rfl 0 (by decide) (hts _ bw1_151) (fun _ h9 => h9) rfl dc_B_feed_77 ?_
    refine lv_iload hx hb dc_B_feed_80 (lv_at hl 5 rfl) ?_
    refine lv_i2l (v := va4.toInt64) hx hb dc_B_feed_82 rfl ?_
    refine lv_iconst (v := 4) hx hb dc_B_feed_83 (by decide) ?_
    refine kc_v (wc := [(aT, .inr (5, [.ref aR1_2, .int (nI (k + 16)), .int 1])), (aR1_2, .inl (cA1_3, (grN n (k + 20)), .inl (wrB (wrB (wrB (wrB f1_4 k (numL va0.toInt64 4)) (k + 4) (numL va1.toInt64 4)) (k + 8) (numL va2.toInt64 4)) (k + 12) (numL va3.toInt64 4))))]) (wr := [(aB, .inr (6, [.ref aT, .ref aF, .ref aQ, .int fk, .int fp]))]) hP hD hS hA [1, 2] [0] rfl rfl (by decide) (by decide) (va_runV (As := [.long va4.toInt64, .int 4]) (rest := []) ⟨hx, hb, hml, hown, hts⟩ (c_T_putNumber l dC dI _ aT aR1_2 cA1_3 (grN n (k + 20)) (wrB (wrB (wrB (wrB f1_4 k (numL va0.toInt64 4)) (k + 4) (numL va1.toInt64 4)) (k + 8) (numL va2.toInt64 4)) (k + 12) (numL va3.toInt64 4)) (k + 16) 1 va4.toInt64 4 (by omega) (by omega)) (kw_V 2 hts bw2_63 bw2_64 bw2_65 bw1_2 bw2_66 rfl rfl (by decide +kernel) ⟨Nat.le_of_ble_eq_true rfl, Nat.le_of_ble_eq_true rfl⟩) (kp_V (wc := [(aT, .inr (5, [.ref aR1_2, .int (nI (k + 16)), .int 1])), (aR1_2, .inl (cA1_3, (grN n (k + 20)), .inl (wrB (wrB (wrB (wrB f1_4 k (numL va0.toInt64 4)) (k + 4) (numL va1.toInt64 4)) (k + 8) (numL va2.toInt64 4)) (k + 12) (numL va3.toInt64 4))))]) (tc := [(cA1_3, .byte)]) (As := [.long va4.toInt64, .int 4]) hG hS hA hP hD hK [1, 2] rfl (by decide) rfl [1] rfl (ci := 5) (q0 := 1) rfl rfl) rfl rfl hl.1 rfl (lv_room (Nat.le_of_ble_eq_true rfl)) dc_B_feed_84 ⟨by show _ ≤ grC n (k + 20); omega, by show _ ≤ grS n (k + 20); omega⟩) (fun _ H locs hw hP hD hK1 hS => ?_)
    have hP : va_P (dC, dI) vwCl [(aB, .inr (6, [.ref aT, .ref aF, .ref aQ, .int fk, .int fp])), (aT, .inr (5, [.ref aR1_2, .int (nI ((k + 16) + 4)), .int (if 4 = 0 then 1 else 1)])), (aR1_2, .inl (cA1_3, (grN n (k + 20)), .inl (wrB (wrB (wrB (wrB (wrB f1_4 k (numL va0.toInt64 4)) (k + 4) (numL va1.toInt64 4)) (k + 8) (numL va2.toInt64 4)) (k + 12) (numL va3.toInt64 4)) (k + 16) (numL va4.toInt64 4))))] H := hP
    have hD : va_D A [(aB, .inr (6, [.ref aT, .ref aF, .ref aQ, .int fk, .int fp])), (aT, .inr (5, [.ref aR1_2, .int (nI ((k + 16) + 4)), .int (if 4 = 0 then 1 else 1)])), (aR1_2, .inl (cA1_3, (grN n (k + 20)), .inl (wrB (wrB (wrB (wrB (wrB f1_4 k (numL va0.toInt64 4)) (k + 4) (numL va1.toInt64 4)) (k + 8) (numL va2.toInt64 4)) (k + 12) (numL va3.toInt64 4)) (k + 16) (numL va4.toInt64 4))))] := hD
    have e_21 : (nI ((k + 16) + 4)) = (nI (k + 20)) := by exact congrArg nI (by omega)
    have e_22 : (if 4 = 0 then 1 else 1) = (1 : Int32) := by rfl
    have hP := wP_eq (ws' := [(aB, .inr (6, [.ref aT, .ref aF, .ref aQ, .int fk, .int fp])), (aT, .inr (5, [.ref aR1_2, .int (nI (k + 20)), .int 1])), (aR1_2, .inl (cA1_3, (grN n (k + 20)), .inl (wrB (wrB (wrB (wrB (wrB f1_4 k (numL va0.toInt64 4)) (k + 4) (numL va1.toInt64 4)) (k + 8) (numL va2.toInt64 4)) (k + 12) (numL va3.toInt64 4)) (k + 16) (numL va4.toInt64 4))))]) hP (cg2 (fun y0 y1 => ([(aB, .inr (6, [.ref aT, .ref aF, .ref aQ, .int fk, .int fp])), (aT, .inr (5, [.ref aR1_2, .int y0, .int y1])), (aR1_2, .inl (cA1_3, (grN n (k + 20)), .inl (wrB (wrB (wrB (wrB (wrB f1_4 k (numL va0.toInt64 4)) (k + 4) (numL va1.toInt64 4)) (k + 8) (numL va2.toInt64 4)) (k + 12) (numL va3.toInt64 4)) (k + 16) (numL va4.toInt64 4))))] : va_W)) e_21 e_22)
    have hD := wD_eq (ws' := [(aB, .inr (6, [.ref aT, .ref aF, .ref aQ, .int fk, .int fp])), (aT, .inr (5, [.ref aR1_2, .int (nI (k + 20)), .int 1])), (aR1_2, .inl (cA1_3, (grN n (k + 20)), .inl (wrB (wrB (wrB (wrB (wrB f1_4 k (numL va0.toInt64 4)) (k + 4) (numL va1.toInt64 4)) (k + 8) (numL va2.toInt64 4)) (k + 12) (numL va3.toInt64 4)) (k + 16) (numL va4.toInt64 4))))]) hD (cg2 (fun y0 y1 => ([(aB, .inr (6, [.ref aT, .ref aF, .ref aQ, .int fk, .int fp])), (aT, .inr (5, [.ref aR1_2, .int y0, .int y1])), (aR1_2, .inl (cA1_3, (grN n (k + 20)), .inl (wrB (wrB (wrB (wrB (wrB f1_4 k (numL va0.toInt64 4)) (k + 4) (numL va1.toInt64 4)) (k + 8) (numL va2.toInt64 4)) (k + 12) (numL va3.toInt64 4)) (k + 16) (numL va4.toInt64 4))))] : va_W)) e_21 e_22)
    refine lv_aload_n hx hb dc_B_feed_87 rfl (lv_at hl 0 rfl) ?_
    refine va_get (D := (dC, dI)) (ci := 6) (v := .ref aT) (C := rn_B) (T := ft_B) (N := 5) hx hb hts fw_B hown hK hP 0 rfl rfl 0 (by decide) (hts _ bw1_151) (fun _ h9 => h9) rfl dc_B_feed_88 ?_
    refine va_get (D := (dC, dI)) (ci := 5) (v := .int (nI (k + 20))) (C := rn_T) (T := ft_T) (N := 3) hx hb hts fw_T hown hK hP 1 rfl rfl 1 (by decide) (hts _ bw1_38) (fun _ h9 => h9) rfl dc_B_feed_91 ?_
    have hP9 := hP.sub (ws' := [(aB, .inr (6, [.ref aT, .ref aF, .ref aQ, .int fk, .int fp])), (aT, .inr (5, [.ref aR1_2, .int (nI (k + 20)), .int 1])), (aR1_2, .inl (cA1_3, grN n (k + 20), .inl (wrB (wrB (wrB (wrB (wrB f1_4 k (numL va0.toInt64 4)) (k + 4) (numL va1.toInt64 4)) (k + 8) (numL va2.toInt64 4)) (k + 12) (numL va3.toInt64 4)) (k + 16) (numL va4.toInt64 4))))]) [0, 1, 2] rfl
    have hD9 := hD.sub (ws' := [(aB, .inr (6, [.ref aT, .ref aF, .ref aQ, .int fk, .int fp])), (aT, .inr (5, [.ref aR1_2, .int (nI (k + 20)), .int 1])), (aR1_2, .inl (cA1_3, grN n (k + 20), .inl (wrB (wrB (wrB (wrB (wrB f1_4 k (numL va0.toInt64 4)) (k + 4) (numL va1.toInt64 4)) (k + 8) (numL va2.toInt64 4)) (k + 12) (numL va3.toInt64 4)) (k + 16) (numL va4.toInt64 4))))]) [0, 1, 2] (by decide) rfl
    have hK9 := hK.sub (tys' := [(cA1_3, .byte)]) [1] rfl
    refine W.widen (k := grC n (k + 20)) (n := grS n (k + 20)) (by omega) (by omega) ?_
    exact W.iret (v := (nI (k + 20))) hx hb hr (fun t ht hW => ⟨⟨(nI (k + 20)), (aR1_2, cA1_3, f1_4), rfl, ⟨rfl, h_7, h_8⟩, by rw [ht]; exact hP9, va_K.moved hW.alike hK9, hD9⟩, hS.F ht⟩) hS.2.2 dc_B_feed_94
  · exact absurd (by rw [show (20 : Int32) = nI 20 from rfl, nI_add]; exact nI_le (b := 16384) hk2 (by omega)) c_1
