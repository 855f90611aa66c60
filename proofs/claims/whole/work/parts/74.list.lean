set_option maxHeartbeats 1000000 in
set_option maxRecDepth 100000 in
theorem c_AC_init (l : Launch) (dC : Nat → ClassId) (dI : Nat → Nat → Nat) (sz : Nat) (aL : Nat) : Met l my_AC_init (wB my_AC_init cd_AC_init 1 none) ({ frames := 1, cells := 0, slots := 0, locals := 12 }) (va_Pc [.ref aL] (PcW (dC, dI) [(aL, .inr (0, [.int 0, .null, .int 0]))] [] sz)) (va_Qv (fun (_ : Unit) => True) (fun _ => EnW (dC, dI) (va_A [(aL, .inr (0, [.int 0, .null, .int 0]))] sz) [(aL, .inr (0, [.int 0, .null, .int 0]))] []) (va_A [(aL, .inr (0, [.int 0, .null, .int 0]))] sz)) 0 0 (va_A [(aL, .inr (0, [.int 0, .null, .int 0]))] sz) := by
  refine Met.ofW (cc := cd_AC_init) (maxL := 1) (ret := none) (by decide) rfl ?_
  intro p e s m args below meth c s₁ B hml hv
  obtain ⟨rfl, hsz, hP, hK, hD0, hG⟩ := hv
  have hx := B.exec
  have hb := B.bytes
  have hr := B.returns
  have hts := fun (w : Cond) (h : w ∈ bigT) => atoms_spec (ws := (wB my_AC_init cd_AC_init 1 none)) B.pre w (List.mem_cons_of_mem _ h)
  have hown : s.vm.findClass rn_AC = some m.cls := findClass_of_methodNamed B.named
  have hlocks := B.notSynchronized
  have hin : meth.name = "<init>" := (name_of_methodNamed B.named B.method).1
  subst hsz
  have hD := hD0.self (sz := s.heap.size)
  generalize hAe : va_A [(aL, .inr (0, [.int 0, .null, .int 0]))] s.heap.size = A at hD hG ⊢
  have hA : ∀ q : Nat, s.heap.size ≤ q → A q := fun q h => by rw [← hAe]; exact Or.inr h
  have hS : va_S A s.heap s.heap [] := va_S.rf
  have hP : va_P (dC, dI) vwCl [(aL, .inr (0, [.int 0, .null, .int 0]))] s.heap := hP
  have hl := lv_entry ([.ref aL]) (n := 1) (Nat.le_of_ble_eq_true rfl)
  rw [lg_entry_eq]
  generalize (lg_sl ([.ref aL]) ++ List.replicate (1 - (lg_sl ([.ref aL])).length) Slot.unset).toArray = ls at hl ⊢
  have hl : lv_has ls 1 [(0, .ref aL)] := hl
  refine lv_aload_n hx hb dc_AC_init_0 rfl (lv_at hl 0 rfl) ?_
  refine W.objInit hx hb hown (hts _ bw1_67) (hts _ bw1_28) (hts _ bw1_29) rfl (by rw [hml]; exact hl.1) rfl dc_AC_init_1 (Nat.le_of_ble_eq_true rfl) (Nat.le_of_ble_eq_true rfl) ?_
  refine W.eq (g2 := F0 m 4 ls []) rfl ?_
  have hP9 := hP.sub (ws' := [(aL, .inr (0, [.int 0, .null, .int 0]))]) [0] rfl
  have hD9 := hD.sub (ws' := [(aL, .inr (0, [.int 0, .null, .int 0]))]) [0] (by decide) rfl
  have hK9 := hK.sub (tys' := []) [] rfl
  exact W.vret hx hb hr (fun t ht hW => ⟨⟨(), rfl, trivial, by rw [ht]; exact hP9, va_K.moved hW.alike hK9, hD9⟩, hS.F ht⟩) hS.2.2 dc_AC_init_4

set_option maxHeartbeats 1000000 in
set_option maxRecDepth 100000 in
theorem c_AL_init (l : Launch) (dC : Nat → ClassId) (dI : Nat → Nat → Nat) (sz : Nat) (aL : Nat) : Met l my_AL_init (wB my_AL_init cd_AL_init 1 none) ({ frames := 2, cells := 0, slots := 0, locals := 32 }) (va_Pc [.ref aL] (PcW (dC, dI) [(aL, .inr (0, [.int 0, .null, .int 0]))] [] sz)) (va_Qv (fun (_ : Unit) => True) (fun _ => EnW (dC, dI) (va_A [(aL, .inr (0, [.int 0, .null, .int 0]))] sz) [(aL, .inr (0, [.int 0, .null, .int 0]))] []) (va_A [(aL, .inr (0, [.int 0, .null, .int 0]))] sz)) 0 0 (va_A [(aL, .inr (0, [.int 0, .null, .int 0]))] sz) := by
  refine Met.ofW (cc := cd_AL_init) (maxL := 1) (ret := none) (by decide) rfl ?_
  intro p e s m args below meth c s₁ B hml hv
  obtain ⟨rfl, hsz, hP, hK, hD0, hG⟩ := hv
  have hx := B.exec
  have hb := B.bytes
  have hr := B.returns
  have hts := fun (w : Cond) (h : w ∈ bigT) => atoms_spec (ws := (wB my_AL_init cd_AL_init 1 none)) B.pre w (List.mem_cons_of_mem _ h)
  have hown : s.vm.findClass rn_AL = some m.cls := findClass_of_methodNamed B.named
  have hlocks := B.notSynchronized
  have hin : meth.name = "<init>" := (name_of_methodNamed B.named B.method).1
  subst hsz
  have hD := hD0.self (sz := s.heap.size)
  generalize hAe : va_A [(aL, .inr (0, [.int 0, .null, .int 0]))] s.heap.size = A at hD hG ⊢
  have hA : ∀ q : Nat, s.heap.size ≤ q → A q := fun q h => by rw [← hAe]; exact Or.inr h
  have hS : va_S A s.heap s.heap [] := va_S.rf
  have hP : va_P (dC, dI) vwCl [(aL, .inr (0, [.int 0, .null, .int 0]))] s.heap := hP
  have hl := lv_entry ([.ref aL]) (n := 1) (Nat.le_of_ble_eq_true rfl)
  rw [lg_entry_eq]
  generalize (lg_sl ([.ref aL]) ++ List.replicate (1 - (lg_sl ([.ref aL])).length) Slot.unset).toArray = ls at hl ⊢
  have hl : lv_has ls 1 [(0, .ref aL)] := hl
  refine lv_aload_n hx hb dc_AL_init_0 rfl (lv_at hl 0 rfl) ?_
  refine kc_v (wc := [(aL, .inr (0, [.int 0, .null, .int 0]))]) (wr := []) hP hD hS hA [0] [] rfl rfl (by decide) (by decide) (va_runI (As := []) (rest := []) ⟨hx, hb, hml, hown, hts⟩ (c_AC_init l dC dI _ aL ) (kw_I 0 hts bw1_64 bw1_65 bw1_4 bw1_66 rfl rfl rfl (by decide +kernel) ⟨Nat.le_of_ble_eq_true rfl, Nat.le_of_ble_eq_true rfl⟩) (kp_S (wc := [(aL, .inr (0, [.int 0, .null, .int 0]))]) (tc := []) (av := [.ref aL]) hG hS hA hP hD hK [0] rfl (by decide) rfl [] rfl) rfl rfl hl.1 rfl (lv_room (Nat.le_of_ble_eq_true rfl)) dc_AL_init_1 ⟨Nat.zero_le _, Nat.zero_le _⟩) (fun _ H locs hw hP hD hK1 hS => ?_)
  have hP : va_P (dC, dI) vwCl [(aL, .inr (0, [.int 0, .null, .int 0]))] H := hP
  have hD : va_D A [(aL, .inr (0, [.int 0, .null, .int 0]))] := hD
  refine lv_aload_n hx hb dc_AL_init_4 rfl (lv_at hl 0 rfl) ?_
  refine lv_iconst (v := 0) hx hb dc_AL_init_5 (by decide) ?_
  refine va_put (D := (dC, dI)) (ci := 0) (v := .int 0) (ty := .int) (C := rn_A) (T := ft_A) (N := 3) hx hb hts fw_A fy_A fo_A fn_A hown hK hP hD hS 0 rfl rfl 0 (by decide) (hts _ bw1_72) (fun _ h9 => h9) rfl (by decide +kernel) rfl rfl (Nat.le_of_ble_eq_true rfl) dc_AL_init_6 (fun H locs hP hD hS => ?_)
  have hP : va_P (dC, dI) vwCl [(aL, .inr (0, [.int 0, .null, .int 0]))] H := hP
  have hD : va_D A [(aL, .inr (0, [.int 0, .null, .int 0]))] := hD
  have hP9 := hP.sub (ws' := [(aL, .inr (0, [.int 0, .null, .int 0]))]) [0] rfl
  have hD9 := hD.sub (ws' := [(aL, .inr (0, [.int 0, .null, .int 0]))]) [0] (by decide) rfl
  have hK9 := hK.sub (tys' := []) [] rfl
  exact W.vret hx hb hr (fun t ht hW => ⟨⟨(), rfl, trivial, by rw [ht]; exact hP9, va_K.moved hW.alike hK9, hD9⟩, hS.F ht⟩) hS.2.2 dc_AL_init_9

set_option maxHeartbeats 1000000 in
set_option maxRecDepth 100000 in
theorem c_A_init (l : Launch) (dC : Nat → ClassId) (dI : Nat → Nat → Nat) (sz : Nat) (eE : Nat) (aL : Nat) : Met l my_A_init (wB my_A_init cd_A_init 1 none) ({ frames := 3, cells := 0, slots := 0, locals := 52 }) (va_Pc [.ref aL] (PcE (dC, dI) eE [(aL, .inr (0, [.int 0, .null, .int 0]))] [] sz)) (va_Qv (fun (_ : Unit) => True) (fun _ => EnW (dC, dI) (va_A [(aL, .inr (0, [.int 0, .null, .int 0]))] sz) [(aL, .inr (0, [.int 0, .ref eE, .int 0]))] []) (va_A [(aL, .inr (0, [.int 0, .null, .int 0]))] sz)) 0 0 (va_A [(aL, .inr (0, [.int 0, .null, .int 0]))] sz) := by
  refine Met.ofW (cc := cd_A_init) (maxL := 1) (ret := none) (by decide) rfl ?_
  intro p e s m args below meth c s₁ B hml hv
  obtain ⟨rfl, ⟨hsz, hP, hK, hD0, hG⟩, hE⟩ := hv
  have hx := B.exec
  have hb := B.bytes
  have hr := B.returns
  have hts := fun (w : Cond) (h : w ∈ bigT) => atoms_spec (ws := (wB my_A_init cd_A_init 1 none)) B.pre w (List.mem_cons_of_mem _ h)
  have hown : s.vm.findClass rn_A = some m.cls := findClass_of_methodNamed B.named
  have hlocks := B.notSynchronized
  have hin : meth.name = "<init>" := (name_of_methodNamed B.named B.method).1
  subst hsz
  have hD := hD0.self (sz := s.heap.size)
  generalize hAe : va_A [(aL, .inr (0, [.int 0, .null, .int 0]))] s.heap.size = A at hD hG hE ⊢
  have gE1 := hE.1
  have gE2 := hE.2
  have hA : ∀ q : Nat, s.heap.size ≤ q → A q := fun q h => by rw [← hAe]; exact Or.inr h
  have hS : va_S A s.heap s.heap [] := va_S.rf
  have hP : va_P (dC, dI) vwCl [(aL, .inr (0, [.int 0, .null, .int 0]))] s.heap := hP
  have hl := lv_entry ([.ref aL]) (n := 1) (Nat.le_of_ble_eq_true rfl)
  rw [lg_entry_eq]
  generalize (lg_sl ([.ref aL]) ++ List.replicate (1 - (lg_sl ([.ref aL])).length) Slot.unset).toArray = ls at hl ⊢
  have hl : lv_has ls 1 [(0, .ref aL)] := hl
  refine lv_aload_n hx hb dc_A_init_0 rfl (lv_at hl 0 rfl) ?_
  refine kc_v (wc := [(aL, .inr (0, [.int 0, .null, .int 0]))]) (wr := []) hP hD hS hA [0] [] rfl rfl (by decide) (by decide) (va_runI (As := []) (rest := []) ⟨hx, hb, hml, hown, hts⟩ (c_AL_init l dC dI _ aL ) (kw_I 0 hts bw1_61 bw1_62 bw1_5 bw1_63 rfl rfl rfl (by decide +kernel) ⟨Nat.le_of_ble_eq_true rfl, Nat.le_of_ble_eq_true rfl⟩) (kp_S (wc := [(aL, .inr (0, [.int 0, .null, .int 0]))]) (tc := []) (av := [.ref aL]) hG hS hA hP hD hK [0] rfl (by decide) rfl [] rfl) rfl rfl hl.1 rfl (lv_room (Nat.le_of_ble_eq_true rfl)) dc_A_init_1 ⟨Nat.zero_le _, Nat.zero_le _⟩) (fun _ H locs hw hP hD hK1 hS => ?_)
  have hP : va_P (dC, dI) vwCl [(aL, .inr (0, [.int 0, .null, .int 0]))] H := hP
  have hD : va_D A [(aL, .inr (0, [.int 0, .null, .int 0]))] := hD
  refine lv_aload_n hx hb dc_A_init_4 rfl (lv_at hl 0 rfl) ?_
  refine va_gets hx hb gE1 hS hown (hts _ bw1_68) (fun _ h9 => h9) dc_A_init_5 ?_
  refine va_put (D := (dC, dI)) (ci := 0) (v := .ref eE) (ty := .array (.object "java/lang/Object")) (C := rn_A) (T := ft_A) (N := 3) hx hb hts fw_A fy_A fo_A fn_A hown hK hP hD hS 0 rfl rfl 1 (by decide) (hts _ bw1_70) (fun _ h9 => h9) rfl (by decide +kernel) rfl rfl (Nat.le_of_ble_eq_true rfl) dc_A_init_8 (fun H locs hP hD hS => ?_)
  have hP : va_P (dC, dI) vwCl [(aL, .inr (0, [.int 0, .ref eE, .int 0]))] H := hP
  have hD : va_D A [(aL, .inr (0, [.int 0, .ref eE, .int 0]))] := hD
  have hP9 := hP.sub (ws' := [(aL, .inr (0, [.int 0, .ref eE, .int 0]))]) [0] rfl
  have hD9 := hD.sub (ws' := [(aL, .inr (0, [.int 0, .ref eE, .int 0]))]) [0] (by decide) rfl
  have hK9 := hK.sub (tys' := []) [] rfl
  exact W.vret hx hb hr (fun t ht hW => ⟨⟨(), rfl, trivial, by rw [ht]; exact hP9, va_K.moved hW.alike hK9, hD9⟩, hS.F ht⟩) hS.2.2 dc_A_init_11

set_option maxHeartbeats 1000000 in
set_option maxRecDepth 100000 in
theorem c_PC_checkIndex (l : Launch) (dC : Nat → ClassId) (dI : Nat → Nat → Nat) (sz : Nat) (j : Nat) (N : Nat) (hj : j < N) (hN : N < 2 ^ 30) : Met l my_PC_checkIndex (wB my_PC_checkIndex cd_PC_checkIndex 3 (some .int)) ({ frames := 0, cells := 0, slots := 0, locals := 0 }) (va_Pc [.int (nI j), .int (nI N), .null] (PcW (dC, dI) [] [] sz)) (va_Qi (fun (r : Int32) => fun (_ : Unit) => r = nI j) (fun _ => EnW (dC, dI) (va_A [] sz) [] []) (va_A [] sz)) 0 0 (va_A [] sz) := by
  refine Met.ofW (cc := cd_PC_checkIndex) (maxL := 3) (ret := (some .int)) (by decide) rfl ?_
  intro p e s m args below meth c s₁ B hml hv
  obtain ⟨rfl, hsz, hP, hK, hD0, hG⟩ := hv
  have hx := B.exec
  have hb := B.bytes
  have hr := B.returns
  have hts := fun (w : Cond) (h : w ∈ bigT) => atoms_spec (ws := (wB my_PC_checkIndex cd_PC_checkIndex 3 (some .int))) B.pre w (List.mem_cons_of_mem _ h)
  have hown : s.vm.findClass rn_PC = some m.cls := findClass_of_methodNamed B.named
  have hlocks := B.notSynchronized
  subst hsz
  have hD := hD0.self (sz := s.heap.size)
  generalize hAe : va_A [] s.heap.size = A at hD hG ⊢
  have hA : ∀ q : Nat, s.heap.size ≤ q → A q := fun q h => by rw [← hAe]; exact Or.inr h
  have hS : va_S A s.heap s.heap [] := va_S.rf
  have hP : va_P (dC, dI) vwCl [] s.heap := hP
  have hl := lv_entry ([.int (nI j), .int (nI N), .null]) (n := 3) (Nat.le_of_ble_eq_true rfl)
  rw [lg_entry_eq]
  generalize (lg_sl ([.int (nI j), .int (nI N), .null]) ++ List.replicate (3 - (lg_sl ([.int (nI j), .int (nI N), .null])).length) Slot.unset).toArray = ls at hl ⊢
  have hl : lv_has ls 3 [(0, .int (nI j)), (1, .int (nI N)), (2, .null)] := hl
  refine lv_iload_n hx hb dc_PC_checkIndex_0 rfl (lv_at hl 0 rfl) ?_
  refine lv_if_lt (tgt := 9) hx hb dc_PC_checkIndex_1 (by decide) (fun c_1 => ?_) (fun c_1 => ?_)
  · exfalso; exact nI_pos (by omega) c_1
  · refine lv_iload_n hx hb dc_PC_checkIndex_4 rfl (lv_at hl 0 rfl) ?_
    refine lv_iload_n hx hb dc_PC_checkIndex_5 rfl (lv_at hl 1 rfl) ?_
    refine lv_icmp_lt (tgt := 16) hx hb dc_PC_checkIndex_6 (by decide) (fun c_2 => ?_) (fun c_2 => ?_)
    · refine lv_iload_n hx hb dc_PC_checkIndex_16 rfl (lv_at hl 0 rfl) ?_
      have hP9 := hP.sub (ws' := []) [] rfl
      have hD9 := hD.sub (ws' := []) [] (by decide) rfl
      have hK9 := hK.sub (tys' := []) [] rfl
      exact W.iret (v := (nI j)) hx hb hr (fun t ht hW => ⟨⟨(nI j), (), rfl, rfl, by rw [ht]; exact hP9, va_K.moved hW.alike hK9, hD9⟩, hS.F ht⟩) hS.2.2 dc_PC_checkIndex_17
    · exact absurd (nI_lt hj (by omega)) c_2

set_option maxHeartbeats 1000000 in
set_option maxRecDepth 100000 in
theorem c_OB_checkIndex (l : Launch) (dC : Nat → ClassId) (dI : Nat → Nat → Nat) (sz : Nat) (j : Nat) (N : Nat) (hj : j < N) (hN : N < 2 ^ 30) : Met l my_OB_checkIndex (wB my_OB_checkIndex cd_OB_checkIndex 2 (some .int)) ({ frames := 1, cells := 0, slots := 0, locals := 22 }) (va_Pc [.int (nI j), .int (nI N)] (PcW (dC, dI) [] [] sz)) (va_Qi (fun (r : Int32) => fun (_ : Unit) => r = nI j) (fun _ => EnW (dC, dI) (va_A [] sz) [] []) (va_A [] sz)) 0 0 (va_A [] sz) := by
  refine Met.ofW (cc := cd_OB_checkIndex) (maxL := 2) (ret := (some .int)) (by decide) rfl ?_
  intro p e s m args below meth c s₁ B hml hv
  obtain ⟨rfl, hsz, hP, hK, hD0, hG⟩ := hv
  have hx := B.exec
  have hb := B.bytes
  have hr := B.returns
  have hts := fun (w : Cond) (h : w ∈ bigT) => atoms_spec (ws := (wB my_OB_checkIndex cd_OB_checkIndex 2 (some .int))) B.pre w (List.mem_cons_of_mem _ h)
  have hown : s.vm.findClass rn_OB = some m.cls := findClass_of_methodNamed B.named
  have hlocks := B.notSynchronized
  subst hsz
  have hD := hD0.self (sz := s.heap.size)
  generalize hAe : va_A [] s.heap.size = A at hD hG ⊢
  have hA : ∀ q : Nat, s.heap.size ≤ q → A q := fun q h => by rw [← hAe]; exact Or.inr h
  have hS : va_S A s.heap s.heap [] := va_S.rf
  have hP : va_P (dC, dI) vwCl [] s.heap := hP
  have hl := lv_entry ([.int (nI j), .int (nI N)]) (n := 2) (Nat.le_of_ble_eq_true rfl)
  rw [lg_entry_eq]
  generalize (lg_sl ([.int (nI j), .int (nI N)]) ++ List.replicate (2 - (lg_sl ([.int (nI j), .int (nI N)])).length) Slot.unset).toArray = ls at hl ⊢
  have hl : lv_has ls 2 [(0, .int (nI j)), (1, .int (nI N))] := hl
  refine lv_iload_n hx hb dc_OB_checkIndex_0 rfl (lv_at hl 0 rfl) ?_
  refine lv_iload_n hx hb dc_OB_checkIndex_1 rfl (lv_at hl 1 rfl) ?_
  refine lv_null hx hb dc_OB_checkIndex_2 ?_
  refine kc_i (wc := []) (wr := []) hP hD hS hA [] [] rfl rfl (by decide) (by decide) (va_runS (As := [.int (nI j), .int (nI N), .null]) (rest := []) ⟨hx, hb, hml, hown, hts⟩ (c_PC_checkIndex l dC dI _ j N (by omega) (by omega)) (kw_S 3 hts bw3_17 bw3_18 bw1_21 bw3_19 rfl rfl (by decide +kernel) ⟨Nat.le_of_ble_eq_true rfl, Nat.le_of_ble_eq_true rfl⟩) (kp_S (wc := []) (tc := []) (av := [.int (nI j), .int (nI N), .null]) hG hS hA hP hD hK [] rfl (by decide) rfl [] rfl) rfl rfl hl.1 rfl (lv_room (Nat.le_of_ble_eq_true rfl)) dc_OB_checkIndex_3 ⟨Nat.zero_le _, Nat.zero_le _⟩) (fun r_1 _ H locs hw hP hD hK1 hS => ?_)
  have hw : nI j = r_1 := hw.symm
  subst hw
  have hP : va_P (dC, dI) vwCl [] H := hP
  have hD : va_D A [] := hD
  have hP9 := hP.sub (ws' := []) [] rfl
  have hD9 := hD.sub (ws' := []) [] (by decide) rfl
  have hK9 := hK.sub (tys' := []) [] rfl
  exact W.iret (v := (nI j)) hx hb hr (fun t ht hW => ⟨⟨(nI j), (), rfl, rfl, by rw [ht]; exact hP9, va_K.moved hW.alike hK9, hD9⟩, hS.F ht⟩) hS.2.2 dc_OB_checkIndex_6

set_option maxHeartbeats 1000000 in
set_option maxRecDepth 100000 in
theorem c_A_elementData (l : Launch) (dC : Nat → ClassId) (dI : Nat → Nat → Nat) (sz : Nat) (aL : Nat) (md : Int32) (ea : Nat) (N : Nat) (cO : ClassId) (ln : Nat) (fa : Nat → Option Nat) (j : Nat) (y : Nat) (hj : j < ln) (hln : ln < 2 ^ 30) (hy : fa j = some y) : Met l my_A_elementData (wB my_A_elementData cd_A_elementData 2 (some (.object "java/lang/Object"))) ({ frames := 0, cells := 0, slots := 0, locals := 0 }) (va_Pc [.ref aL, .int (nI j)] (PcW (dC, dI) [(aL, .inr (0, [.int md, .ref ea, .int (nI N)])), (ea, .inl (cO, ln, .inr (.inr (.inr (.inr fa)))))] [(cO, .object "java/lang/Object")] sz)) (va_Qr (fun (_ : Unit) => True) (fun _ => fun ra t => ra = y ∧ EnW (dC, dI) (va_A [(aL, .inr (0, [.int md, .ref ea, .int (nI N)])), (ea, .inl (cO, ln, .inr (.inr (.inr (.inr fa)))))] sz) [(aL, .inr (0, [.int md, .ref ea, .int (nI N)])), (ea, .inl (cO, ln, .inr (.inr (.inr (.inr fa)))))] [(cO, .object "java/lang/Object")] t) (va_A [(aL, .inr (0, [.int md, .ref ea, .int (nI N)])), (ea, .inl (cO, ln, .inr (.inr (.inr (.inr fa)))))] sz)) 0 0 (va_A [(aL, .inr (0, [.int md, .ref ea, .int (nI N)])), (ea, .inl (cO, ln, .inr (.inr (.inr (.inr fa)))))] sz) := by
  refine Met.ofW (cc := cd_A_elementData) (maxL := 2) (ret := (some (.object "java/lang/Object"))) (by decide) rfl ?_
  intro p e s m args below meth c s₁ B hml hv
  obtain ⟨rfl, hsz, hP, hK, hD0, hG⟩ := hv
  have hx := B.exec
  have hb := B.bytes
  have hr := B.returns
  have hts := fun (w : Cond) (h : w ∈ bigT) => atoms_spec (ws := (wB my_A_elementData cd_A_elementData 2 (some (.object "java/lang/Object")))) B.pre w (List.mem_cons_of_mem _ h)
  have hown : s.vm.findClass rn_A = some m.cls := findClass_of_methodNamed B.named
  have hlocks := B.notSynchronized
  subst hsz
  have hD := hD0.self (sz := s.heap.size)
  generalize hAe : va_A [(aL, .inr (0, [.int md, .ref ea, .int (nI N)])), (ea, .inl (cO, ln, .inr (.inr (.inr (.inr fa)))))] s.heap.size = A at hD hG ⊢
  have hA : ∀ q : Nat, s.heap.size ≤ q → A q := fun q h => by rw [← hAe]; exact Or.inr h
  have hS : va_S A s.heap s.heap [] := va_S.rf
  have hP : va_P (dC, dI) vwCl [(aL, .inr (0, [.int md, .ref ea, .int (nI N)])), (ea, .inl (cO, ln, .inr (.inr (.inr (.inr fa)))))] s.heap := hP
  have hl := lv_entry ([.ref aL, .int (nI j)]) (n := 2) (Nat.le_of_ble_eq_true rfl)
  rw [lg_entry_eq]
  generalize (lg_sl ([.ref aL, .int (nI j)]) ++ List.replicate (2 - (lg_sl ([.ref aL, .int (nI j)])).length) Slot.unset).toArray = ls at hl ⊢
  have hl : lv_has ls 2 [(0, .ref aL), (1, .int (nI j))] := hl
  refine lv_aload_n hx hb dc_A_elementData_0 rfl (lv_at hl 0 rfl) ?_
  refine va_get (D := (dC, dI)) (ci := 0) (v := .ref ea) (C := rn_A) (T := ft_A) (N := 3) hx hb hts fw_A hown hK hP 0 rfl rfl 1 (by decide) (hts _ bw1_70) (fun _ h9 => h9) rfl dc_A_elementData_1 ?_
  refine lv_iload_n hx hb dc_A_elementData_4 rfl (lv_at hl 1 rfl) ?_
  refine va_aldq hx hb hK hP 1 0 rfl rfl (vp_in_nI (by omega) (by omega)) dc_A_elementData_5 ?_
  rw [show (nI j).toNatClampNeg = j from nI_clamp (by omega), hy]
  refine W.eq (g2 := F0 m 6 ls [.ref y]) rfl ?_
  have hP9 := hP.sub (ws' := [(aL, .inr (0, [.int md, .ref ea, .int (nI N)])), (ea, .inl (cO, ln, .inr (.inr (.inr (.inr fa)))))]) [0, 1] rfl
  have hD9 := hD.sub (ws' := [(aL, .inr (0, [.int md, .ref ea, .int (nI N)])), (ea, .inl (cO, ln, .inr (.inr (.inr (.inr fa)))))]) [0, 1] (by decide) rfl
  have hK9 := hK.sub (tys' := [(cO, .object "java/lang/Object")]) [0] rfl
  exact W.aret (v := .ref y) hx hb hr (Or.inl ⟨_, rfl⟩) (Or.inr ⟨_, rfl⟩) (fun t ht hW => ⟨⟨(), y, rfl, trivial, rfl, by rw [ht]; exact hP9, va_K.moved hW.alike hK9, hD9⟩, hS.F ht⟩) hS.2.2 dc_A_elementData_6

set_option maxHeartbeats 1000000 in
set_option maxRecDepth 100000 in
theorem c_A_get (l : Launch) (dC : Nat → ClassId) (dI : Nat → Nat → Nat) (sz : Nat) (aL : Nat) (md : Int32) (ea : Nat) (N : Nat) (cO : ClassId) (ln : Nat) (fa : Nat → Option Nat) (j : Nat) (y : Nat) (hj : j < N) (hNl : N ≤ ln) (hln : ln < 2 ^ 30) (hy : fa j = some y) : Met l my_A_get (wB my_A_get cd_A_get 2 (some (.object "java/lang/Object"))) ({ frames := 2, cells := 0, slots := 0, locals := 43 }) (va_Pc [.ref aL, .int (nI j)] (PcW (dC, dI) [(aL, .inr (0, [.int md, .ref ea, .int (nI N)])), (ea, .inl (cO, ln, .inr (.inr (.inr (.inr fa)))))] [(cO, .object "java/lang/Object")] sz)) (va_Qr (fun (_ : Unit) => True) (fun _ => fun ra t => ra = y ∧ EnW (dC, dI) (va_A [(aL, .inr (0, [.int md, .ref ea, .int (nI N)])), (ea, .inl (cO, ln, .inr (.inr (.inr (.inr fa)))))] sz) [(aL, .inr (0, [.int md, .ref ea, .int (nI N)])), (ea, .inl (cO, ln, .inr (.inr (.inr (.inr fa)))))] [(cO, .object "java/lang/Object")] t) (va_A [(aL, .inr (0, [.int md, .ref ea, .int (nI N)])), (ea, .inl (cO, ln, .inr (.inr (.inr (.inr fa)))))] sz)) 0 0 (va_A [(aL, .inr (0, [.int md, .ref ea, .int (nI N)])), (ea, .inl (cO, ln, .inr (.inr (.inr (.inr fa)))))] sz) := by
  refine Met.ofW (cc := cd_A_get) (maxL := 2) (ret := (some (.object "java/lang/Object"))) (by decide) rfl ?_
  intro p e s m args below meth c s₁ B hml hv
  obtain ⟨rfl, hsz, hP, hK, hD0, hG⟩ := hv
  have hx := B.exec
  have hb := B.bytes
  have hr := B.returns
  have hts := fun (w : Cond) (h : w ∈ bigT) => atoms_spec (ws := (wB my_A_get cd_A_get 2 (some (.object "java/lang/Object")))) B.pre w (List.mem_cons_of_mem _ h)
  have hown : s.vm.findClass rn_A = some m.cls := findClass_of_methodNamed B.named
  have hlocks := B.notSynchronized
  subst hsz
  have hD := hD0.self (sz := s.heap.size)
  generalize hAe : va_A [(aL, .inr (0, [.int md, .ref ea, .int (nI N)])), (ea, .inl (cO, ln, .inr (.inr (.inr (.inr fa)))))] s.heap.size = A at hD hG ⊢
  have hA : ∀ q : Nat, s.heap.size ≤ q → A q := fun q h => by rw [← hAe]; exact Or.inr h
  have hS : va_S A s.heap s.heap [] := va_S.rf
  have hP : va_P (dC, dI) vwCl [(aL, .inr (0, [.int md, .ref ea, .int (nI N)])), (ea, .inl (cO, ln, .inr (.inr (.inr (.inr fa)))))] s.heap := hP
  have hl := lv_entry ([.ref aL, .int (nI j)]) (n := 2) (Nat.le_of_ble_eq_true rfl)
  rw [lg_entry_eq]
  generalize (lg_sl ([.ref aL, .int (nI j)]) ++ List.replicate (2 - (lg_sl ([.ref aL, .int (nI j)])).length) Slot.unset).toArray = ls at hl ⊢
  have hl : lv_has ls 2 [(0, .ref aL), (1, .int (nI j))] := hl
  refine lv_iload_n hx hb dc_A_get_0 rfl (lv_at hl 1 rfl) ?_
  refine lv_aload_n hx hb dc_A_get_1 rfl (lv_at hl 0 rfl) ?_
  refine va_get (D := (dC, dI)) (ci := 0) (v := .int (nI N)) (C := rn_A) (T := ft_A) (N := 3) hx hb hts fw_A hown hK hP 0 rfl rfl 2 (by decide) (hts _ bw1_71) (fun _ h9 => h9) rfl dc_A_get_2 ?_
  refine kc_i (wc := []) (wr := [(aL, .inr (0, [.int md, .ref ea, .int (nI N)])), (ea, .inl (cO, ln, .inr (.inr (.inr (.inr fa)))))]) hP hD hS hA [] [0, 1] rfl rfl (by decide) (by decide) (va_runS (As := [.int (nI j), .int (nI N)]) (rest := []) ⟨hx, hb, hml, hown, hts⟩ (c_OB_checkIndex l dC dI _ j N (by omega) (by omega)) (kw_S 2 hts bw3_14 bw3_15 bw1_20 bw3_16 rfl rfl (by decide +kernel) ⟨Nat.le_of_ble_eq_true rfl, Nat.le_of_ble_eq_true rfl⟩) (kp_S (wc := []) (tc := []) (av := [.int (nI j), .int (nI N)]) hG hS hA hP hD hK [] rfl (by decide) rfl [] rfl) rfl rfl hl.1 rfl (lv_room (Nat.le_of_ble_eq_true rfl)) dc_A_get_5 ⟨Nat.zero_le _, Nat.zero_le _⟩) (fun r_1 _ H locs hw hP hD hK1 hS => ?_)
  have hw : nI j = r_1 := hw.symm
  subst hw
  have hP : va_P (dC, dI) vwCl [(aL, .inr (0, [.int md, .ref ea, .int (nI N)])), (ea, .inl (cO, ln, .inr (.inr (.inr (.inr fa)))))] H := hP
  have hD : va_D A [(aL, .inr (0, [.int md, .ref ea, .int (nI N)])), (ea, .inl (cO, ln, .inr (.inr (.inr (.inr fa)))))] := hD
  refine lv_pop hx hb dc_A_get_8 rfl ?_
  refine lv_aload_n hx hb dc_A_get_9 rfl (lv_at hl 0 rfl) ?_
  refine lv_iload_n hx hb dc_A_get_10 rfl (lv_at hl 1 rfl) ?_
  refine kc_r (wc := [(aL, .inr (0, [.int md, .ref ea, .int (nI N)])), (ea, .inl (cO, ln, .inr (.inr (.inr (.inr fa)))))]) (wr := []) hP hD hS hA [0, 1] [] rfl rfl (by decide) (by decide) (va_runV (As := [.int (nI j)]) (rest := []) ⟨hx, hb, hml, hown, hts⟩ (c_A_elementData l dC dI _ aL md ea N cO ln fa j y (by omega) (by omega) (hy)) (kw_V 1 hts bw3_20 bw3_21 bw3_22 bw1_6 bw3_23 rfl rfl (by decide +kernel) ⟨Nat.le_of_ble_eq_true rfl, Nat.le_of_ble_eq_true rfl⟩) (kp_V (wc := [(aL, .inr (0, [.int md, .ref ea, .int (nI N)])), (ea, .inl (cO, ln, .inr (.inr (.inr (.inr fa)))))]) (tc := [(cO, .object "java/lang/Object")]) (As := [.int (nI j)]) hG hS hA hP hD hK [0, 1] rfl (by decide) rfl [0] rfl (ci := 0) (q0 := 0) rfl rfl) rfl rfl hl.1 rfl (lv_room (Nat.le_of_ble_eq_true rfl)) dc_A_get_11 ⟨Nat.zero_le _, Nat.zero_le _⟩) (fun _ H locs hw hP hD hK1 hS => ?_)
  have hP : va_P (dC, dI) vwCl [(aL, .inr (0, [.int md, .ref ea, .int (nI N)])), (ea, .inl (cO, ln, .inr (.inr (.inr (.inr fa)))))] H := hP
  have hD : va_D A [(aL, .inr (0, [.int md, .ref ea, .int (nI N)])), (ea, .inl (cO, ln, .inr (.inr (.inr (.inr fa)))))] := hD
  refine W.eq (g2 := F0 m 14 ls [.ref y]) rfl ?_
  have hP9 := hP.sub (ws' := [(aL, .inr (0, [.int md, .ref ea, .int (nI N)])), (ea, .inl (cO, ln, .inr (.inr (.inr (.inr fa)))))]) [0, 1] rfl
  have hD9 := hD.sub (ws' := [(aL, .inr (0, [.int md, .ref ea, .int (nI N)])), (ea, .inl (cO, ln, .inr (.inr (.inr (.inr fa)))))]) [0, 1] (by decide) rfl
  have hK9 := hK.sub (tys' := [(cO, .object "java/lang/Object")]) [0] rfl
  exact W.aret (v := .ref y) hx hb hr (Or.inl ⟨_, rfl⟩) (Or.inr ⟨_, rfl⟩) (fun t ht hW => ⟨⟨(), y, rfl, trivial, rfl, by rw [ht]; exact hP9, va_K.moved hW.alike hK9, hD9⟩, hS.F ht⟩) hS.2.2 dc_A_get_14

set_option maxHeartbeats 1000000 in
set_option maxRecDepth 100000 in
theorem c_A_size (l : Launch) (dC : Nat → ClassId) (dI : Nat → Nat → Nat) (sz : Nat) (aL : Nat) (md : Int32) (ea : Nat) (N : Nat) : Met l my_A_size (wB my_A_size cd_A_size 1 (some .int)) ({ frames := 0, cells := 0, slots := 0, locals := 0 }) (va_Pc [.ref aL] (PcW (dC, dI) [(aL, .inr (0, [.int md, .ref ea, .int (nI N)]))] [] sz)) (va_Qi (fun (r : Int32) => fun (_ : Unit) => r = nI N) (fun _ => EnW (dC, dI) (va_A [(aL, .inr (0, [.int md, .ref ea, .int (nI N)]))] sz) [(aL, .inr (0, [.int md, .ref ea, .int (nI N)]))] []) (va_A [(aL, .inr (0, [.int md, .ref ea, .int (nI N)]))] sz)) 0 0 (va_A [(aL, .inr (0, [.int md, .ref ea, .int (nI N)]))] sz) := by
  refine Met.ofW (cc := cd_A_size) (maxL := 1) (ret := (some .int)) (by decide) rfl ?_
  intro p e s m args below meth c s₁ B hml hv
  obtain ⟨rfl, hsz, hP, hK, hD0, hG⟩ := hv
  have hx := B.exec
  have hb := B.bytes
  have hr := B.returns
  have hts := fun (w : Cond) (h : w ∈ bigT) => atoms_spec (ws := (wB my_A_size cd_A_size 1 (some .int))) B.pre w (List.mem_cons_of_mem _ h)
  have hown : s.vm.findClass rn_A = some m.cls := findClass_of_methodNamed B.named
  have hlocks := B.notSynchronized
  subst hsz
  have hD := hD0.self (sz := s.heap.size)
  generalize hAe : va_A [(aL, .inr (0, [.int md, .ref ea, .int (nI N)]))] s.heap.size = A at hD hG ⊢
  have hA : ∀ q : Nat, s.heap.size ≤ q → A q := fun q h => by rw [← hAe]; exact Or.inr h
  have hS : va_S A s.heap s.heap [] := va_S.rf
  have hP : va_P (dC, dI) vwCl [(aL, .inr (0, [.int md, .ref ea, .int (nI N)]))] s.heap := hP
  have hl := lv_entry ([.ref aL]) (n := 1) (Nat.le_of_ble_eq_true rfl)
  rw [lg_entry_eq]
  generalize (lg_sl ([.ref aL]) ++ List.replicate (1 - (lg_sl ([.ref aL])).length) Slot.unset).toArray = ls at hl ⊢
  have hl : lv_has ls 1 [(0, .ref aL)] := hl
  refine lv_aload_n hx hb dc_A_size_0 rfl (lv_at hl 0 rfl) ?_
  refine va_get (D := (dC, dI)) (ci := 0) (v := .int (nI N)) (C := rn_A) (T := ft_A) (N := 3) hx hb hts fw_A hown hK hP 0 rfl rfl 2 (by decide) (hts _ bw1_71) (fun _ h9 => h9) rfl dc_A_size_1 ?_
  have hP9 := hP.sub (ws' := [(aL, .inr (0, [.int md, .ref ea, .int (nI N)]))]) [0] rfl
  have hD9 := hD.sub (ws' := [(aL, .inr (0, [.int md, .ref ea, .int (nI N)]))]) [0] (by decide) rfl
  have hK9 := hK.sub (tys' := []) [] rfl
  exact W.iret (v := (nI N)) hx hb hr (fun t ht hW => ⟨⟨(nI N), (), rfl, rfl, by rw [ht]; exact hP9, va_K.moved hW.alike hK9, hD9⟩, hS.F ht⟩) hS.2.2 dc_A_size_4

set_option maxHeartbeats 1000000 in
set_option maxRecDepth 100000 in
theorem c_A_clear0 (l : Launch) (dC : Nat → ClassId) (dI : Nat → Nat → Nat) (sz : Nat) (aL : Nat) (md : Int32) (ea : Nat) (N : Nat) (hN : N = 0) : Met l my_A_clear (wB my_A_clear cd_A_clear 4 none) ({ frames := 0, cells := 0, slots := 0, locals := 0 }) (va_Pc [.ref aL] (PcW (dC, dI) [(aL, .inr (0, [.int md, .ref ea, .int (nI N)]))] [] sz)) (va_Qv (fun (_ : Unit) => True) (fun _ => EnW (dC, dI) (va_A [(aL, .inr (0, [.int md, .ref ea, .int (nI N)]))] sz) [(aL, .inr (0, [.int (md + 1), .ref ea, .int (nI 0)]))] []) (va_A [(aL, .inr (0, [.int md, .ref ea, .int (nI N)]))] sz)) 0 0 (va_A [(aL, .inr (0, [.int md, .ref ea, .int (nI N)]))] sz) := by
  refine Met.ofW (cc := cd_A_clear) (maxL := 4) (ret := none) (by decide) rfl ?_
  intro p e s m args below meth c s₁ B hml hv
  obtain ⟨rfl, hsz, hP, hK, hD0, hG⟩ := hv
  have hx := B.exec
  have hb := B.bytes
  have hr := B.returns
  have hts := fun (w : Cond) (h : w ∈ bigT) => atoms_spec (ws := (wB my_A_clear cd_A_clear 4 none)) B.pre w (List.mem_cons_of_mem _ h)
  have hown : s.vm.findClass rn_A = some m.cls := findClass_of_methodNamed B.named
  have hlocks := B.notSynchronized
  subst hsz
  have hD := hD0.self (sz := s.heap.size)
  generalize hAe : va_A [(aL, .inr (0, [.int md, .ref ea, .int (nI N)]))] s.heap.size = A at hD hG ⊢
  have hA : ∀ q : Nat, s.heap.size ≤ q → A q := fun q h => by rw [← hAe]; exact Or.inr h
  have hS : va_S A s.heap s.heap [] := va_S.rf
  have hP : va_P (dC, dI) vwCl [(aL, .inr (0, [.int md, .ref ea, .int (nI N)]))] s.heap := hP
  have hl := lv_entry ([.ref aL]) (n := 4) (Nat.le_of_ble_eq_true rfl)
  rw [lg_entry_eq]
  generalize (lg_sl ([.ref aL]) ++ List.replicate (4 - (lg_sl ([.ref aL])).length) Slot.unset).toArray = ls at hl ⊢
  have hl : lv_has ls 4 [(0, .ref aL)] := hl
  refine lv_aload_n hx hb dc_A_clear_0 rfl (lv_at hl 0 rfl) ?_
  refine lv_dup hx hb dc_A_clear_1 rfl ?_
  refine va_get (D := (dC, dI)) (ci := 0) (v := .int md) (C := rn_A) (T := ft_A) (N := 3) hx hb hts fw_A hown hK hP 0 rfl rfl 0 (by decide) (hts _ bw1_73) (u_same (hts _ bw1_74)) rfl dc_A_clear_2 ?_
  refine lv_iconst (v := 1) hx hb dc_A_clear_5 (by decide) ?_
  refine lv_iadd hx hb dc_A_clear_6 ?_
  refine va_put (D := (dC, dI)) (ci := 0) (v := .int (md + 1)) (ty := .int) (C := rn_A) (T := ft_A) (N := 3) hx hb hts fw_A fy_A fo_A fn_A hown hK hP hD hS 0 rfl rfl 0 (by decide) (hts _ bw1_73) (u_same (hts _ bw1_74)) rfl (by decide +kernel) rfl rfl (Nat.le_of_ble_eq_true rfl) dc_A_clear_7 (fun H locs hP hD hS => ?_)
  have hP : va_P (dC, dI) vwCl [(aL, .inr (0, [.int (md + 1), .ref ea, .int (nI N)]))] H := hP
  have hD : va_D A [(aL, .inr (0, [.int (md + 1), .ref ea, .int (nI N)]))] := hD
  refine lv_aload_n hx hb dc_A_clear_10 rfl (lv_at hl 0 rfl) ?_
  refine va_get (D := (dC, dI)) (ci := 0) (v := .ref ea) (C := rn_A) (T := ft_A) (N := 3) hx hb hts fw_A hown hK hP 0 rfl rfl 1 (by decide) (hts _ bw1_70) (fun _ h9 => h9) rfl dc_A_clear_11 ?_
  refine lv_astore_n (lv' := [(1, .ref ea), (0, .ref aL)]) hx hb dc_A_clear_14 rfl hl (by decide) rfl (fun ls hl => ?_)
  refine lv_aload_n hx hb dc_A_clear_15 rfl (lv_at hl 1 rfl) ?_
  refine va_get (D := (dC, dI)) (ci := 0) (v := .int (nI N)) (C := rn_A) (T := ft_A) (N := 3) hx hb hts fw_A hown hK hP 0 rfl rfl 2 (by decide) (hts _ bw1_71) (fun _ h9 => h9) rfl dc_A_clear_16 ?_
  refine lv_istore_n (lv' := [(2, .int (nI N)), (1, .ref ea), (0, .ref aL)]) hx hb dc_A_clear_19 rfl hl (by decide) rfl (fun ls hl => ?_)
  refine lv_aload_n hx hb dc_A_clear_20 rfl (lv_at hl 2 rfl) ?_
  refine lv_iconst (v := 0) hx hb dc_A_clear_21 (by decide) ?_
  refine lv_dup_x1 hx hb dc_A_clear_22 rfl rfl ?_
  refine va_put (D := (dC, dI)) (ci := 0) (v := .int 0) (ty := .int) (C := rn_A) (T := ft_A) (N := 3) hx hb hts fw_A fy_A fo_A fn_A hown hK hP hD hS 0 rfl rfl 2 (by decide) (hts _ bw1_71) (fun _ h9 => h9) rfl (by decide +kernel) rfl rfl (Nat.le_of_ble_eq_true rfl) dc_A_clear_23 (fun H locs hP hD hS => ?_)
  have hP : va_P (dC, dI) vwCl [(aL, .inr (0, [.int (md + 1), .ref ea, .int 0]))] H := hP
  have hD : va_D A [(aL, .inr (0, [.int (md + 1), .ref ea, .int 0]))] := hD
  refine lv_istore_n (lv' := [(3, .int 0), (2, .int (nI N)), (1, .ref ea), (0, .ref aL)]) hx hb dc_A_clear_26 rfl hl (by decide) rfl (fun ls hl => ?_)
  refine w_loop (σ := Nat) (fun i H locs ls => i = 0 ∧ va_P (dC, dI) vwCl [(aL, .inr (0, [.int (md + 1), .ref ea, .int 0]))] H ∧ va_D A [(aL, .inr (0, [.int (md + 1), .ref ea, .int 0]))] ∧ va_S A s.heap H locs ∧ lv_has ls 4 [(3, .int (nI i)), (2, .int (nI N)), (1, .ref ea), (0, .ref aL)]) (fun i ls => F0 m 27 ls []) (fun _ => 0) (fun _ => 0) (fun i => 0) ?_ 0 _ _ _ ⟨by show 0 = 0; omega, hP.sub [0] rfl, hD.sub [0] (by decide) rfl, hS, lv_sub hl [0, 1, 2, 3] rfl⟩
  rintro i H locs ls ⟨hi, hP, hD, hS, hl⟩ ih27
  have hP : va_P (dC, dI) vwCl [(aL, .inr (0, [.int (md + 1), .ref ea, .int 0]))] H := hP
  have hD : va_D A [(aL, .inr (0, [.int (md + 1), .ref ea, .int 0]))] := hD
  have hl : lv_has ls 4 [(3, .int (nI i)), (2, .int (nI N)), (1, .ref ea), (0, .ref aL)] := hl
  show W _ _ _ _ _ _ _ _ _ _ _ _ _ _ _ (F0 m 27 ls [])
  have hi : i = 0 := hi
  refine lv_iload_n hx hb dc_A_clear_27 rfl (lv_at hl 0 rfl) ?_
  refine lv_iload_n hx hb dc_A_clear_28 rfl (lv_at hl 1 rfl) ?_
  refine lv_icmp_ge (tgt := 42) hx hb dc_A_clear_29 (by decide) (fun c_1 => ?_) (fun c_1 => ?_)
  · have hP9 := hP.sub (ws' := [(aL, .inr (0, [.int (md + 1), .ref ea, .int (nI 0)]))]) [0] rfl
    have hD9 := hD.sub (ws' := [(aL, .inr (0, [.int (md + 1), .ref ea, .int (nI 0)]))]) [0] (by decide) rfl
    have hK9 := hK.sub (tys' := []) [] rfl
    exact W.vret hx hb hr (fun t ht hW => ⟨⟨(), rfl, trivial, by rw [ht]; exact hP9, va_K.moved hW.alike hK9, hD9⟩, hS.F ht⟩) hS.2.2 dc_A_clear_42
  · exact absurd (by rw [hN, hi]; decide) c_1

set_option maxHeartbeats 1000000 in
set_option maxRecDepth 100000 in
theorem c_A_clear (l : Launch) (dC : Nat → ClassId) (dI : Nat → Nat → Nat) (sz : Nat) (aL : Nat) (md : Int32) (ea : Nat) (N : Nat) (cO : ClassId) (ln : Nat) (fa : Nat → Option Nat) (hNl : N ≤ ln) (hln : ln < 2 ^ 30) : Met l my_A_clear (wB my_A_clear cd_A_clear 4 none) ({ frames := 0, cells := 0, slots := 0, locals := 0 }) (va_Pc [.ref aL] (PcW (dC, dI) [(aL, .inr (0, [.int md, .ref ea, .int (nI N)])), (ea, .inl (cO, ln, .inr (.inr (.inr (.inr fa)))))] [(cO, .object "java/lang/Object")] sz)) (va_Qv (fun (fa1 : Nat → Option Nat) => True) (fun fa1 => EnW (dC, dI) (va_A [(aL, .inr (0, [.int md, .ref ea, .int (nI N)])), (ea, .inl (cO, ln, .inr (.inr (.inr (.inr fa)))))] sz) [(aL, .inr (0, [.int (md + 1), .ref ea, .int (nI 0)])), (ea, .inl (cO, ln, .inr (.inr (.inr (.inr fa1)))))] [(cO, .object "java/lang/Object")]) (va_A [(aL, .inr (0, [.int md, .ref ea, .int (nI N)])), (ea, .inl (cO, ln, .inr (.inr (.inr (.inr fa)))))] sz)) 0 0 (va_A [(aL, .inr (0, [.int md, .ref ea, .int (nI N)])), (ea, .inl (cO, ln, .inr (.inr (.inr (.inr fa)))))] sz) := by
  refine Met.ofW (cc := cd_A_clear) (maxL := 4) (ret := none) (by decide) rfl ?_
  intro p e s m args below meth c s₁ B hml hv
  obtain ⟨rfl, hsz, hP, hK, hD0, hG⟩ := hv
  have hx := B.exec
  have hb := B.bytes
  have hr := B.returns
  have hts := fun (w : Cond) (h : w ∈ bigT) => atoms_spec (ws := (wB my_A_clear cd_A_clear 4 none)) B.pre w (List.mem_cons_of_mem _ h)
  have hown : s.vm.findClass rn_A = some m.cls := findClass_of_methodNamed B.named
  have hlocks := B.notSynchronized
  subst hsz
  have hD := hD0.self (sz := s.heap.size)
  generalize hAe : va_A [(aL, .inr (0, [.int md, .ref ea, .int (nI N)])), (ea, .inl (cO, ln, .inr (.inr (.inr (.inr fa)))))] s.heap.size = A at hD hG ⊢
  have hA : ∀ q : Nat, s.heap.size ≤ q → A q := fun q h => by rw [← hAe]; exact Or.inr h
  have hS : va_S A s.heap s.heap [] := va_S.rf
  have hP : va_P (dC, dI) vwCl [(aL, .inr (0, [.int md, .ref ea, .int (nI N)])), (ea, .inl (cO, ln, .inr (.inr (.inr (.inr fa)))))] s.heap := hP
  have hl := lv_entry ([.ref aL]) (n := 4) (Nat.le_of_ble_eq_true rfl)
  rw [lg_entry_eq]
  generalize (lg_sl ([.ref aL]) ++ List.replicate (4 - (lg_sl ([.ref aL])).length) Slot.unset).toArray = ls at hl ⊢
  have hl : lv_has ls 4 [(0, .ref aL)] := hl
  refine lv_aload_n hx hb dc_A_clear_0 rfl (lv_at hl 0 rfl) ?_
  refine lv_dup hx hb dc_A_clear_1 rfl ?_
  refine va_get (D := (dC, dI)) (ci := 0) (v := .int md) (C := rn_A) (T := ft_A) (N := 3) hx hb hts fw_A hown hK hP 0 rfl rfl 0 (by decide) (hts _ bw1_73) (u_same (hts _ bw1_74)) rfl dc_A_clear_2 ?_
  refine lv_iconst (v := 1) hx hb dc_A_clear_5 (by decide) ?_
  refine lv_iadd hx hb dc_A_clear_6 ?_
  refine va_put (D := (dC, dI)) (ci := 0) (v := .int (md + 1)) (ty := .int) (C := rn_A) (T := ft_A) (N := 3) hx hb hts fw_A fy_A fo_A fn_A hown hK hP hD hS 0 rfl rfl 0 (by decide) (hts _ bw1_73) (u_same (hts _ bw1_74)) rfl (by decide +kernel) rfl rfl (Nat.le_of_ble_eq_true rfl) dc_A_clear_7 (fun H locs hP hD hS => ?_)
  have hP : va_P (dC, dI) vwCl [(aL, .inr (0, [.int (md + 1), .ref ea, .int (nI N)])), (ea, .inl (cO, ln, .inr (.inr (.inr (.inr fa)))))] H := hP
  have hD : va_D A [(aL, .inr (0, [.int (md + 1), .ref ea, .int (nI N)])), (ea, .inl (cO, ln, .inr (.inr (.inr (.inr fa)))))] := hD
  refine lv_aload_n hx hb dc_A_clear_10 rfl (lv_at hl 0 rfl) ?_
  refine va_get (D := (dC, dI)) (ci := 0) (v := .ref ea) (C := rn_A) (T := ft_A) (N := 3) hx hb hts fw_A hown hK hP 0 rfl rfl 1 (by decide) (hts _ bw1_70) (fun _ h9 => h9) rfl dc_A_clear_11 ?_
  refine lv_astore_n (lv' := [(1, .ref ea), (0, .ref aL)]) hx hb dc_A_clear_14 rfl hl (by decide) rfl (fun ls hl => ?_)
  refine lv_aload_n hx hb dc_A_clear_15 rfl (lv_at hl 1 rfl) ?_
  refine va_get (D := (dC, dI)) (ci := 0) (v := .int (nI N)) (C := rn_A) (T := ft_A) (N := 3) hx hb hts fw_A hown hK hP 0 rfl rfl 2 (by decide) (hts _ bw1_71) (fun _ h9 => h9) rfl dc_A_clear_16 ?_
  refine lv_istore_n (lv' := [(2, .int (nI N)), (1, .ref ea), (0, .ref aL)]) hx hb dc_A_clear_19 rfl hl (by decide) rfl (fun ls hl => ?_)
  refine lv_aload_n hx hb dc_A_clear_20 rfl (lv_at hl 2 rfl) ?_
  refine lv_iconst (v := 0) hx hb dc_A_clear_21 (by decide) ?_
  refine lv_dup_x1 hx hb dc_A_clear_22 rfl rfl ?_
  refine va_put (D := (dC, dI)) (ci := 0) (v := .int 0) (ty := .int) (C := rn_A) (T := ft_A) (N := 3) hx hb hts fw_A fy_A fo_A fn_A hown hK hP hD hS 0 rfl rfl 2 (by decide) (hts _ bw1_71) (fun _ h9 => h9) rfl (by decide +kernel) rfl rfl (Nat.le_of_ble_eq_true rfl) dc_A_clear_23 (fun H locs hP hD hS => ?_)
  have hP : va_P (dC, dI) vwCl [(aL, .inr (0, [.int (md + 1), .ref ea, .int 0])), (ea, .inl (cO, ln, .inr (.inr (.inr (.inr fa)))))] H := hP
  have hD : va_D A [(aL, .inr (0, [.int (md + 1), .ref ea, .int 0])), (ea, .inl (cO, ln, .inr (.inr (.inr (.inr fa)))))] := hD
  refine lv_istore_n (lv' := [(3, .int 0), (2, .int (nI N)), (1, .ref ea), (0, .ref aL)]) hx hb dc_A_clear_26 rfl hl (by decide) rfl (fun ls hl => ?_)
  refine w_loop (σ := Nat × (Nat → Option Nat)) (fun x H locs ls => x.1 ≤ N ∧ va_P (dC, dI) vwCl [(aL, .inr (0, [.int (md + 1), .ref ea, .int (nI 0)])), (ea, .inl (cO, ln, .inr (.inr (.inr (.inr x.2)))))] H ∧ va_D A [(aL, .inr (0, [.int (md + 1), .ref ea, .int (nI 0)])), (ea, .inl (cO, ln, .inr (.inr (.inr (.inr x.2)))))] ∧ va_S A s.heap H locs ∧ lv_has ls 4 [(3, .int (nI x.1)), (2, .int (nI N)), (1, .ref ea), (0, .ref aL)]) (fun x ls => F0 m 27 ls []) (fun _ => 0) (fun _ => 0) (fun x => N - x.1) ?_ (0, fa) _ _ _ ⟨by show 0 ≤ N; omega, hP.sub [0, 1] rfl, hD.sub [0, 1] (by decide) rfl, hS, lv_sub hl [0, 1, 2, 3] rfl⟩
  rintro ⟨i, fq⟩ H locs ls ⟨hi, hP, hD, hS, hl⟩ ih27
  have hP : va_P (dC, dI) vwCl [(aL, .inr (0, [.int (md + 1), .ref ea, .int (nI 0)])), (ea, .inl (cO, ln, .inr (.inr (.inr (.inr fq)))))] H := hP
  have hD : va_D A [(aL, .inr (0, [.int (md + 1), .ref ea, .int (nI 0)])), (ea, .inl (cO, ln, .inr (.inr (.inr (.inr fq)))))] := hD
  have hl : lv_has ls 4 [(3, .int (nI i)), (2, .int (nI N)), (1, .ref ea), (0, .ref aL)] := hl
  show W _ _ _ _ _ _ _ _ _ _ _ _ _ _ _ (F0 m 27 ls [])
  have hi : i ≤ N := hi
  refine lv_iload_n hx hb dc_A_clear_27 rfl (lv_at hl 0 rfl) ?_
  refine lv_iload_n hx hb dc_A_clear_28 rfl (lv_at hl 1 rfl) ?_
  refine lv_icmp_ge (tgt := 42) hx hb dc_A_clear_29 (by decide) (fun c_1 => ?_) (fun c_1 => ?_)
  · have hP9 := hP.sub (ws' := [(aL, .inr (0, [.int (md + 1), .ref ea, .int (nI 0)])), (ea, .inl (cO, ln, .inr (.inr (.inr (.inr fq)))))]) [0, 1] rfl
    have hD9 := hD.sub (ws' := [(aL, .inr (0, [.int (md + 1), .ref ea, .int (nI 0)])), (ea, .inl (cO, ln, .inr (.inr (.inr (.inr fq)))))]) [0, 1] (by decide) rfl
    have hK9 := hK.sub (tys' := [(cO, .object "java/lang/Object")]) [0] rfl
    exact W.vret hx hb hr (fun t ht hW => ⟨⟨fq, rfl, trivial, by rw [ht]; exact hP9, va_K.moved hW.alike hK9, hD9⟩, hS.F ht⟩) hS.2.2 dc_A_clear_42
  · have hlt : i < N := by rcases Nat.lt_or_ge i N with h | h; exact h; exact absurd (nI_le h (by omega)) c_1
    refine lv_aload_n hx hb dc_A_clear_32 rfl (lv_at hl 2 rfl) ?_
    refine lv_iload_n hx hb dc_A_clear_33 rfl (lv_at hl 0 rfl) ?_
    refine lv_null hx hb dc_A_clear_34 ?_
    refine va_astqN hx hb hK hP hD hS 1 0 rfl rfl (vp_in_nI (by omega) (by omega)) dc_A_clear_35 (fun H locs hP hD hS => ?_)
    rw [show (nI i).toNatClampNeg = i from nI_clamp (by omega)] at hP hD
    have hP : va_P (dC, dI) vwCl [(aL, .inr (0, [.int (md + 1), .ref ea, .int (nI 0)])), (ea, .inl (cO, ln, .inr (.inr (.inr (.inr (va_up fq i none))))))] H := hP
    have hD : va_D A [(aL, .inr (0, [.int (md + 1), .ref ea, .int (nI 0)])), (ea, .inl (cO, ln, .inr (.inr (.inr (.inr (va_up fq i none))))))] := hD
    refine lv_iinc (v := ((nI i) + 1)) (lv' := [(3, .int ((nI i) + 1)), (2, .int (nI N)), (1, .ref ea), (0, .ref aL)]) hx hb dc_A_clear_36 hl (k := 0) rfl rfl (by decide) rfl (fun ls hl => ?_)
    refine lv_goto (tgt := 27) hx hb dc_A_clear_39 (by decide) ?_
    have e_2 : ((nI i) + 1) = (nI (i + 1)) := by exact nI_1 _
    have hl := wL_eq (lv' := [(3, .int (nI (i + 1))), (2, .int (nI N)), (1, .ref ea), (0, .ref aL)]) hl (cg1 (fun y0 => ([(3, .int y0), (2, .int (nI N)), (1, .ref ea), (0, .ref aL)] : List (Nat × Value))) e_2)
    exact ih27 (i + 1, va_up fq i none) _ _ _ ⟨by show (i + 1) ≤ N; omega, hP.sub [0, 1] rfl, hD.sub [0, 1] (by decide) rfl, hS, lv_sub hl [0, 1, 2, 3] rfl⟩ (by show N - (i + 1) < N - i; omega)

set_option maxHeartbeats 1000000 in
set_option maxRecDepth 100000 in
theorem c_AS_newLength (l : Launch) (dC : Nat → ClassId) (dI : Nat → Nat → Nat) (sz : Nat) (a : Nat) (b : Nat) (d : Nat) (h0 : 0 < a) (h1 : a < 2 ^ 29) (h2 : b < 2 ^ 29) (h3 : d < 2 ^ 29) : Met l my_AS_newLength (wB my_AS_newLength cd_AS_newLength 4 (some .int)) ({ frames := 1, cells := 0, slots := 0, locals := 14 }) (va_Pc [.int (nI a), .int (nI b), .int (nI d)] (PcW (dC, dI) [] [] sz)) (va_Qi (fun (r : Int32) => fun (_ : Unit) => r = nI (a + max b d)) (fun _ => EnW (dC, dI) (va_A [] sz) [] []) (va_A [] sz)) 0 0 (va_A [] sz) := by
  refine Met.ofW (cc := cd_AS_newLength) (maxL := 4) (ret := (some .int)) (by decide) rfl ?_
  intro p e s m args below meth c s₁ B hml hv
  obtain ⟨rfl, hsz, hP, hK, hD0, hG⟩ := hv
  have hx := B.exec
  have hb := B.bytes
  have hr := B.returns
  have hts := fun (w : Cond) (h : w ∈ bigT) => atoms_spec (ws := (wB my_AS_newLength cd_AS_newLength 4 (some .int))) B.pre w (List.mem_cons_of_mem _ h)
  have hown : s.vm.findClass rn_AS = some m.cls := findClass_of_methodNamed B.named
  have hlocks := B.notSynchronized
  subst hsz
  have hD := hD0.self (sz := s.heap.size)
  generalize hAe : va_A [] s.heap.size = A at hD hG ⊢
  have hA : ∀ q : Nat, s.heap.size ≤ q → A q := fun q h => by rw [← hAe]; exact Or.inr h
  have hS : va_S A s.heap s.heap [] := va_S.rf
  have hP : va_P (dC, dI) vwCl [] s.heap := hP
  have hl := lv_entry ([.int (nI a), .int (nI b), .int (nI d)]) (n := 4) (Nat.le_of_ble_eq_true rfl)
  rw [lg_entry_eq]
  generalize (lg_sl ([.int (nI a), .int (nI b), .int (nI d)]) ++ List.replicate (4 - (lg_sl ([.int (nI a), .int (nI b), .int (nI d)])).length) Slot.unset).toArray = ls at hl ⊢
  have hl : lv_has ls 4 [(0, .int (nI a)), (1, .int (nI b)), (2, .int (nI d))] := hl
  refine lv_iload_n hx hb dc_AS_newLength_0 rfl (lv_at hl 0 rfl) ?_
  refine lv_iload_n hx hb dc_AS_newLength_1 rfl (lv_at hl 1 rfl) ?_
  refine lv_iload_n hx hb dc_AS_newLength_2 rfl (lv_at hl 2 rfl) ?_
  refine va_mmax hx hb (hml.trans hl.1.symm) hown (hts _ bw2_197) (hts _ bw2_47) (hts _ bw1_14) (hts _ bw2_48) (Nat.le_of_ble_eq_true rfl) (Nat.le_of_ble_eq_true rfl) (Nat.zero_le _) (Nat.zero_le _) dc_AS_newLength_3 ?_
  refine W.eq (g2 := F0 m 6 ls [.int (nI (max b d)), .int (nI a)]) (by rw [show (if (nI b) < (nI d) then (nI d) else (nI b)) = (nI (max b d)) by exact nl_max (by omega) (by omega)]) ?_
  refine lv_iadd hx hb dc_AS_newLength_6 ?_
  refine W.eq (g2 := F0 m 7 ls [.int (nI (a + max b d))]) (by rw [show ((nI a) + (nI (max b d))) = (nI (a + max b d)) by exact nI_add _ _]) ?_
  refine lv_istore_n (lv' := [(3, .int (nI (a + max b d))), (0, .int (nI a)), (1, .int (nI b)), (2, .int (nI d))]) hx hb dc_AS_newLength_7 rfl hl (by decide) rfl (fun ls hl => ?_)
  refine lv_iconst (v := 0) hx hb dc_AS_newLength_8 (by decide) ?_
  refine lv_iload_n hx hb dc_AS_newLength_9 rfl (lv_at hl 0 rfl) ?_
  refine lv_icmp_ge (tgt := 21) hx hb dc_AS_newLength_10 (by decide) (fun c_1 => ?_) (fun c_1 => ?_)
  · exfalso; exact nI_nle (by omega) (by omega) c_1
  · refine lv_iload_n hx hb dc_AS_newLength_13 rfl (lv_at hl 0 rfl) ?_
    refine lv_ldc (v := 2147483639) hx hb hown (hts _ bw2_198) dc_AS_newLength_14 ?_
    refine lv_icmp_gt (tgt := 21) hx hb dc_AS_newLength_16 (by decide) (fun c_2 => ?_) (fun c_2 => ?_)
    · exfalso; exact nI_nlt (a := 2147483639) (b := a + max b d) (by omega) (by decide) c_2
    · refine lv_iload_n hx hb dc_AS_newLength_19 rfl (lv_at hl 0 rfl) ?_
      have hP9 := hP.sub (ws' := []) [] rfl
      have hD9 := hD.sub (ws' := []) [] (by decide) rfl
      have hK9 := hK.sub (tys' := []) [] rfl
      exact W.iret (v := (nI (a + max b d))) hx hb hr (fun t ht hW => ⟨⟨(nI (a + max b d)), (), rfl, rfl, by rw [ht]; exact hP9, va_K.moved hW.alike hK9, hD9⟩, hS.F ht⟩) hS.2.2 dc_AS_newLength_20
