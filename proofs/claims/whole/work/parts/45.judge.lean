set_option maxHeartbeats 1000000 in
set_option maxRecDepth 100000 in
theorem c_B_keepFault (l : Launch) (dC : Nat → ClassId) (dI : Nat → Nat → Nat) (sz : Nat) (aB : Nat) (aT : Nat) (aF : Nat) (aQ : Nat) (fk : Int32) (fp : Int32) (xk : Int32) (xp : Int32) : Met l my_B_keepFault (wB my_B_keepFault cd_B_keepFault 3 none) ({ frames := 0, cells := 0, slots := 0, locals := 0 }) (va_Pc [.ref aB, .int xk, .int xp] (PcW (dC, dI) [(aB, .inr (6, [.ref aT, .ref aF, .ref aQ, .int fk, .int fp]))] [] sz)) (va_Qv (fun (_ : Unit) => True) (fun _ => EnW (dC, dI) (va_A [(aB, .inr (6, [.ref aT, .ref aF, .ref aQ, .int fk, .int fp]))] sz) [(aB, .inr (6, [.ref aT, .ref aF, .ref aQ, .int xk, .int xp]))] []) (va_A [(aB, .inr (6, [.ref aT, .ref aF, .ref aQ, .int fk, .int fp]))] sz)) 0 0 (va_A [(aB, .inr (6, [.ref aT, .ref aF, .ref aQ, .int fk, .int fp]))] sz) := by
  refine Met.ofW (cc := cd_B_keepFault) (maxL := 3) (ret := none) (by decide) rfl ?_
  intro p e s m args below meth c s₁ B hml hv
  obtain ⟨rfl, hsz, hP, hK, hD0, hG⟩ := hv
  have hx := B.exec
  have hb := B.bytes
  have hr := B.returns
  have hts := fun (w : Cond) (h : w ∈ bigT) => atoms_spec (ws := (wB my_B_keepFault cd_B_keepFault 3 none)) B.pre w (List.mem_cons_of_mem _ h)
  have hown : s.vm.findClass rn_B = some m.cls := findClass_of_methodNamed B.named
  have hlocks := B.notSynchronized
  subst hsz
  have hD := hD0.self (sz := s.heap.size)
  generalize hAe : va_A [(aB, .inr (6, [.ref aT, .ref aF, .ref aQ, .int fk, .int fp]))] s.heap.size = A at hD hG ⊢
  have hA : ∀ q : Nat, s.heap.size ≤ q → A q := fun q h => by rw [← hAe]; exact Or.inr h
  have hS : va_S A s.heap s.heap [] := va_S.rf
  have hP : va_P (dC, dI) vwCl [(aB, .inr (6, [.ref aT, .ref aF, .ref aQ, .int fk, .int fp]))] s.heap := hP
  have hl := lv_entry ([.ref aB, .int xk, .int xp]) (n := 3) (Nat.le_of_ble_eq_true rfl)
  rw [lg_entry_eq]
  generalize (lg_sl ([.ref aB, .int xk, .int xp]) ++ List.replicate (3 - (lg_sl ([.ref aB, .int xk, .int xp])).length) Slot.unset).toArray = ls at hl ⊢
  have hl : lv_has ls 3 [(0, .ref aB), (1, .int xk), (2, .int xp)] := hl
  refine lv_aload_n hx hb dc_B_keepFault_0 rfl (lv_at hl 0 rfl) ?_
  refine lv_iload_n hx hb dc_B_keepFault_1 rfl (lv_at hl 1 rfl) ?_
  refine va_put (D := (dC, dI)) (ci := 6) (v := .int xk) (ty := .int) (C := rn_B) (T := ft_B) (N := 5) hx hb hts fw_B fy_B fo_B fn_B hown hK hP hD hS 0 rfl rfl 3 (by decide) (hts _ bw1_154) (fun _ h9 => h9) rfl (by decide +kernel) rfl rfl (Nat.le_of_ble_eq_true rfl) dc_B_keepFault_2 (fun H locs hP hD hS => ?_)
  have hP : va_P (dC, dI) vwCl [(aB, .inr (6, [.ref aT, .ref aF, .ref aQ, .int xk, .int fp]))] H := hP
  have hD : va_D A [(aB, .inr (6, [.ref aT, .ref aF, .ref aQ, .int xk, .int fp]))] := hD
  refine lv_aload_n hx hb dc_B_keepFault_5 rfl (lv_at hl 0 rfl) ?_
  refine lv_iload_n hx hb dc_B_keepFault_6 rfl (lv_at hl 2 rfl) ?_
  refine va_put (D := (dC, dI)) (ci := 6) (v := .int xp) (ty := .int) (C := rn_B) (T := ft_B) (N := 5) hx hb hts fw_B fy_B fo_B fn_B hown hK hP hD hS 0 rfl rfl 4 (by decide) (hts _ bw1_155) (fun _ h9 => h9) rfl (by decide +kernel) rfl rfl (Nat.le_of_ble_eq_true rfl) dc_B_keepFault_7 (fun H locs hP hD hS => ?_)
  have hP : va_P (dC, dI) vwCl [(aB, .inr (6, [.ref aT, .ref aF, .ref aQ, .int xk, .int xp]))] H := hP
  have hD : va_D A [(aB, .inr (6, [.ref aT, .ref aF, .ref aQ, .int xk, .int xp]))] := hD
  have hP9 := hP.sub (ws' := [(aB, .inr (6, [.ref aT, .ref aF, .ref aQ, .int xk, .int xp]))]) [0] rfl
  have hD9 := hD.sub (ws' := [(aB, .inr (6, [.ref aT, .ref aF, .ref aQ, .int xk, .int xp]))]) [0] (by decide) rfl
  have hK9 := hK.sub (tys' := []) [] rfl
  exact W.vret hx hb hr (fun t ht hW => ⟨⟨(), rfl, trivial, by rw [ht]; exact hP9, va_K.moved hW.alike hK9, hD9⟩, hS.F ht⟩) hS.2.2 dc_B_keepFault_10

set_option maxHeartbeats 1000000 in
set_option maxRecDepth 100000 in
theorem c_B_isTime (l : Launch) (dC : Nat → ClassId) (dI : Nat → Nat → Nat) (sz : Nat) (v : Int64) : Met l my_B_isTime (wB my_B_isTime cd_B_isTime 2 (some .boolean)) ({ frames := 0, cells := 0, slots := 0, locals := 0 }) (va_Pc [.long v] (PcW (dC, dI) [] [] sz)) (va_Qi (fun (r : Int32) => fun (_ : Unit) => r = isT v) (fun _ => EnW (dC, dI) (va_A [] sz) [] []) (va_A [] sz)) 0 0 (va_A [] sz) := by
  refine Met.ofW (cc := cd_B_isTime) (maxL := 2) (ret := (some .boolean)) (by decide) rfl ?_
  intro p e s m args below meth c s₁ B hml hv
  obtain ⟨rfl, hsz, hP, hK, hD0, hG⟩ := hv
  have hx := B.exec
  have hb := B.bytes
  have hr := B.returns
  have hts := fun (w : Cond) (h : w ∈ bigT) => atoms_spec (ws := (wB my_B_isTime cd_B_isTime 2 (some .boolean))) B.pre w (List.mem_cons_of_mem _ h)
  have hown : s.vm.findClass rn_B = some m.cls := findClass_of_methodNamed B.named
  have hlocks := B.notSynchronized
  subst hsz
  have hD := hD0.self (sz := s.heap.size)
  generalize hAe : va_A [] s.heap.size = A at hD hG ⊢
  have hA : ∀ q : Nat, s.heap.size ≤ q → A q := fun q h => by rw [← hAe]; exact Or.inr h
  have hS : va_S A s.heap s.heap [] := va_S.rf
  have hP : va_P (dC, dI) vwCl [] s.heap := hP
  have hl := lv_entry ([.long v]) (n := 2) (Nat.le_of_ble_eq_true rfl)
  rw [lg_entry_eq]
  generalize (lg_sl ([.long v]) ++ List.replicate (2 - (lg_sl ([.long v])).length) Slot.unset).toArray = ls at hl ⊢
  have hl : lv_has ls 2 [(0, .long v)] := hl
  refine lv_lload_n hx hb dc_B_isTime_0 rfl (lv_at hl 0 rfl) ?_
  refine lv_lconst (v := 0) hx hb dc_B_isTime_1 rfl ?_
  refine W.lcmp hx hb dc_B_isTime_2 ?_
  refine w_join (σ := Int32) (fun v19_0 H locs ls => v19_0 = (if v < 0 then 0 else if 1125899906842624 < v then 0 else 1) ∧ va_P (dC, dI) vwCl [] H ∧ va_D A [] ∧ va_S A s.heap H locs ∧ lv_has ls 2 [(0, .long v)]) (fun v19_0 ls => F0 m 19 ls [.int v19_0]) ?_ (fun hJ19 => ?_)
  · rintro v19_0 H locs ls ⟨ev19_0, hP, hD, hS, hl⟩
    have hP : va_P (dC, dI) vwCl [] H := hP
    have hD : va_D A [] := hD
    have hl : lv_has ls 2 [(0, .long v)] := hl
    show W _ _ _ _ _ _ _ _ _ _ _ _ _ _ _ (F0 m 19 ls [.int v19_0])
    have h01v19_0 : v19_0 = 0 ∨ v19_0 = 1 := by rw [ev19_0]; exact i01 (Or.inl rfl) (i01 (Or.inl rfl) (Or.inr rfl))
    have hP9 := hP.sub (ws' := []) [] rfl
    have hD9 := hD.sub (ws' := []) [] (by decide) rfl
    have hK9 := hK.sub (tys' := []) [] rfl
    exact W.zret (v := v19_0) hx hb hr (by rcases h01v19_0 with h | h <;> rw [h] <;> rfl) (fun t ht hW => ⟨⟨v19_0, (), rfl, ev19_0.trans rfl, by rw [ht]; exact hP9, va_K.moved hW.alike hK9, hD9⟩, hS.F ht⟩) hS.2.2 dc_B_isTime_19
  · refine lv_if_lt (tgt := 18) hx hb dc_B_isTime_3 (by decide) (fun c_1 => ?_) (fun c_1 => ?_)
    · have c_1 : v < 0 := (lg_cmp_lt _ _).mp c_1
      refine lv_iconst (v := 0) hx hb dc_B_isTime_18 (by decide) ?_
      exact hJ19 0 _ _ _ ⟨by rw [if_pos c_1], hP.sub [] rfl, hD.sub [] (by decide) rfl, hS, lv_sub hl [0] rfl⟩
    · have c_1 : ¬ (v < 0) := fun h => c_1 ((lg_cmp_lt _ _).mpr h)
      refine lv_lload_n hx hb dc_B_isTime_6 rfl (lv_at hl 0 rfl) ?_
      refine lv_ldc2 (v := 1125899906842624) hx hb hown (hts _ bw3_76) dc_B_isTime_7 ?_
      refine W.lcmp hx hb dc_B_isTime_10 ?_
      refine lv_if_gt (tgt := 18) hx hb dc_B_isTime_11 (by decide) (fun c_2 => ?_) (fun c_2 => ?_)
      · have c_2 : 1125899906842624 < v := (lg_cmp_gt _ _).mp c_2
        refine lv_iconst (v := 0) hx hb dc_B_isTime_18 (by decide) ?_
        exact hJ19 0 _ _ _ ⟨by rw [if_neg c_1, if_pos c_2], hP.sub [] rfl, hD.sub [] (by decide) rfl, hS, lv_sub hl [0] rfl⟩
      · have c_2 : ¬ (1125899906842624 < v) := fun h => c_2 ((lg_cmp_gt _ _).mpr h)
        refine lv_iconst (v := 1) hx hb dc_B_isTime_14 (by decide) ?_
        refine lv_goto (tgt := 19) hx hb dc_B_isTime_15 (by decide) ?_
        exact hJ19 1 _ _ _ ⟨by rw [if_neg c_1, if_neg c_2], hP.sub [] rfl, hD.sub [] (by decide) rfl, hS, lv_sub hl [0] rfl⟩

set_option maxHeartbeats 1000000 in
set_option maxRecDepth 100000 in
theorem c_B_fitsProducer (l : Launch) (dC : Nat → ClassId) (dI : Nat → Nat → Nat) (sz : Nat) (v : Int64) (pr : Int64) : Met l my_B_fitsProducer (wB my_B_fitsProducer cd_B_fitsProducer 4 (some .boolean)) ({ frames := 0, cells := 0, slots := 0, locals := 0 }) (va_Pc [.long v, .long pr] (PcW (dC, dI) [] [] sz)) (va_Qi (fun (r : Int32) => fun (_ : Unit) => r = fitP v pr) (fun _ => EnW (dC, dI) (va_A [] sz) [] []) (va_A [] sz)) 0 0 (va_A [] sz) := by
  refine Met.ofW (cc := cd_B_fitsProducer) (maxL := 4) (ret := (some .boolean)) (by decide) rfl ?_
  intro p e s m args below meth c s₁ B hml hv
  obtain ⟨rfl, hsz, hP, hK, hD0, hG⟩ := hv
  have hx := B.exec
  have hb := B.bytes
  have hr := B.returns
  have hts := fun (w : Cond) (h : w ∈ bigT) => atoms_spec (ws := (wB my_B_fitsProducer cd_B_fitsProducer 4 (some .boolean))) B.pre w (List.mem_cons_of_mem _ h)
  have hown : s.vm.findClass rn_B = some m.cls := findClass_of_methodNamed B.named
  have hlocks := B.notSynchronized
  subst hsz
  have hD := hD0.self (sz := s.heap.size)
  generalize hAe : va_A [] s.heap.size = A at hD hG ⊢
  have hA : ∀ q : Nat, s.heap.size ≤ q → A q := fun q h => by rw [← hAe]; exact Or.inr h
  have hS : va_S A s.heap s.heap [] := va_S.rf
  have hP : va_P (dC, dI) vwCl [] s.heap := hP
  have hl := lv_entry ([.long v, .long pr]) (n := 4) (Nat.le_of_ble_eq_true rfl)
  rw [lg_entry_eq]
  generalize (lg_sl ([.long v, .long pr]) ++ List.replicate (4 - (lg_sl ([.long v, .long pr])).length) Slot.unset).toArray = ls at hl ⊢
  have hl : lv_has ls 4 [(0, .long v), (2, .long pr)] := hl
  refine lv_lload_n hx hb dc_B_fitsProducer_0 rfl (lv_at hl 1 rfl) ?_
  refine lv_ldc2 (v := (-1)) hx hb hown (hts _ bw3_81) dc_B_fitsProducer_1 ?_
  refine W.lcmp hx hb dc_B_fitsProducer_4 ?_
  refine w_join (σ := Int32) (fun v35_0 H locs ls => v35_0 = (if pr = (-1) then if v = (-1) then 1 else 0 else if v < 0 then 0 else 1) ∧ va_P (dC, dI) vwCl [] H ∧ va_D A [] ∧ va_S A s.heap H locs ∧ lv_has ls 4 [(0, .long v), (2, .long pr)]) (fun v35_0 ls => F0 m 35 ls [.int v35_0]) ?_ (fun hJ35 => ?_)
  · rintro v35_0 H locs ls ⟨ev35_0, hP, hD, hS, hl⟩
    have hP : va_P (dC, dI) vwCl [] H := hP
    have hD : va_D A [] := hD
    have hl : lv_has ls 4 [(0, .long v), (2, .long pr)] := hl
    show W _ _ _ _ _ _ _ _ _ _ _ _ _ _ _ (F0 m 35 ls [.int v35_0])
    have h01v35_0 : v35_0 = 0 ∨ v35_0 = 1 := by rw [ev35_0]; exact i01 (i01 (Or.inr rfl) (Or.inl rfl)) (i01 (Or.inl rfl) (Or.inr rfl))
    have hP9 := hP.sub (ws' := []) [] rfl
    have hD9 := hD.sub (ws' := []) [] (by decide) rfl
    have hK9 := hK.sub (tys' := []) [] rfl
    exact W.zret (v := v35_0) hx hb hr (by rcases h01v35_0 with h | h <;> rw [h] <;> rfl) (fun t ht hW => ⟨⟨v35_0, (), rfl, ev35_0.trans rfl, by rw [ht]; exact hP9, va_K.moved hW.alike hK9, hD9⟩, hS.F ht⟩) hS.2.2 dc_B_fitsProducer_35
  · refine lv_if_ne (tgt := 24) hx hb dc_B_fitsProducer_5 (by decide) (fun c_1 => ?_) (fun c_1 => ?_)
    · have c_1 : ¬ (pr = (-1)) := fun h => c_1 ((lg_cmp_eq _ _).mpr h)
      refine lv_lload_n hx hb dc_B_fitsProducer_24 rfl (lv_at hl 0 rfl) ?_
      refine lv_lconst (v := 0) hx hb dc_B_fitsProducer_25 rfl ?_
      refine W.lcmp hx hb dc_B_fitsProducer_26 ?_
      refine lv_if_lt (tgt := 34) hx hb dc_B_fitsProducer_27 (by decide) (fun c_2 => ?_) (fun c_2 => ?_)
      · have c_2 : v < 0 := (lg_cmp_lt _ _).mp c_2
        refine lv_iconst (v := 0) hx hb dc_B_fitsProducer_34 (by decide) ?_
        exact hJ35 0 _ _ _ ⟨by rw [if_neg c_1, if_pos c_2], hP.sub [] rfl, hD.sub [] (by decide) rfl, hS, lv_sub hl [0, 1] rfl⟩
      · have c_2 : ¬ (v < 0) := fun h => c_2 ((lg_cmp_lt _ _).mpr h)
        refine lv_iconst (v := 1) hx hb dc_B_fitsProducer_30 (by decide) ?_
        refine lv_goto (tgt := 35) hx hb dc_B_fitsProducer_31 (by decide) ?_
        exact hJ35 1 _ _ _ ⟨by rw [if_neg c_1, if_neg c_2], hP.sub [] rfl, hD.sub [] (by decide) rfl, hS, lv_sub hl [0, 1] rfl⟩
    · have c_1 : pr = (-1) := (lg_cmp_eq _ _).mp c_1
      refine lv_lload_n hx hb dc_B_fitsProducer_8 rfl (lv_at hl 0 rfl) ?_
      refine lv_ldc2 (v := (-1)) hx hb hown (hts _ bw3_81) dc_B_fitsProducer_9 ?_
      refine W.lcmp hx hb dc_B_fitsProducer_12 ?_
      refine lv_if_ne (tgt := 20) hx hb dc_B_fitsProducer_13 (by decide) (fun c_3 => ?_) (fun c_3 => ?_)
      · have c_3 : ¬ (v = (-1)) := fun h => c_3 ((lg_cmp_eq _ _).mpr h)
        refine lv_iconst (v := 0) hx hb dc_B_fitsProducer_20 (by decide) ?_
        refine lv_goto (tgt := 35) hx hb dc_B_fitsProducer_21 (by decide) ?_
        exact hJ35 0 _ _ _ ⟨by rw [if_pos c_1, if_neg c_3], hP.sub [] rfl, hD.sub [] (by decide) rfl, hS, lv_sub hl [0, 1] rfl⟩
      · have c_3 : v = (-1) := (lg_cmp_eq _ _).mp c_3
        refine lv_iconst (v := 1) hx hb dc_B_fitsProducer_16 (by decide) ?_
        refine lv_goto (tgt := 35) hx hb dc_B_fitsProducer_17 (by decide) ?_
        exact hJ35 1 _ _ _ ⟨by rw [if_pos c_1, if_pos c_3], hP.sub [] rfl, hD.sub [] (by decide) rfl, hS, lv_sub hl [0, 1] rfl⟩

set_option maxHeartbeats 1000000 in
set_option maxRecDepth 100000 in
theorem c_B_wrongFieldFromProducer (l : Launch) (dC : Nat → ClassId) (dI : Nat → Nat → Nat) (sz : Nat) (aB : Nat) (aF : Nat) (aQ : Nat) (fk : Int32) (fp : Int32) (aT : Nat) (aR : Nat) (cA : ClassId) (n : Nat) (f : Nat → Int32) (k : Nat) (ch : Int32) (hk : k ≤ n) (hn : n ≤ 16384) : Met l my_B_wrongFieldFromProducer (wB my_B_wrongFieldFromProducer cd_B_wrongFieldFromProducer 5 (some .int)) ({ frames := 3, cells := 0, slots := 0, locals := 69 }) (va_Pc [.ref aB] (PcW (dC, dI) [(aB, .inr (6, [.ref aT, .ref aF, .ref aQ, .int fk, .int fp])), (aT, .inr (5, [.ref aR, .int (nI k), .int ch])), (aR, .inl (cA, n, .inl f))] [(cA, .byte)] sz)) (va_Qi (fun (r : Int32) => fun (_ : Unit) => r = wpC (tb f k)) (fun _ => EnW (dC, dI) (va_A [(aB, .inr (6, [.ref aT, .ref aF, .ref aQ, .int fk, .int fp])), (aT, .inr (5, [.ref aR, .int (nI k), .int ch])), (aR, .inl (cA, n, .inl f))] sz) [(aB, .inr (6, [.ref aT, .ref aF, .ref aQ, .int fk, .int fp])), (aT, .inr (5, [.ref aR, .int (nI k), .int ch])), (aR, .inl (cA, n, .inl f))] [(cA, .byte)]) (va_A [(aB, .inr (6, [.ref aT, .ref aF, .ref aQ, .int fk, .int fp])), (aT, .inr (5, [.ref aR, .int (nI k), .int ch])), (aR, .inl (cA, n, .inl f))] sz)) 0 0 (va_A [(aB, .inr (6, [.ref aT, .ref aF, .ref aQ, .int fk, .int fp])), (aT, .inr (5, [.ref aR, .int (nI k), .int ch])), (aR, .inl (cA, n, .inl f))] sz) := by
  refine Met.ofW (cc := cd_B_wrongFieldFromProducer) (maxL := 5) (ret := (some .int)) (by decide) rfl ?_
  intro p e s m args below meth c s₁ B hml hv
  obtain ⟨rfl, hsz, hP, hK, hD0, hG⟩ := hv
  have hx := B.exec
  have hb := B.bytes
  have hr := B.returns
  have hts := fun (w : Cond) (h : w ∈ bigT) => atoms_spec (ws := (wB my_B_wrongFieldFromProducer cd_B_wrongFieldFromProducer 5 (some .int))) B.pre w (List.mem_cons_of_mem _ h)
  have hown : s.vm.findClass rn_B = some m.cls := findClass_of_methodNamed B.named
  have hlocks := B.notSynchronized
  subst hsz
  have hD := hD0.self (sz := s.heap.size)
  generalize hAe : va_A [(aB, .inr (6, [.ref aT, .ref aF, .ref aQ, .int fk, .int fp])), (aT, .inr (5, [.ref aR, .int (nI k), .int ch])), (aR, .inl (cA, n, .inl f))] s.heap.size = A at hD hG ⊢
  have hA : ∀ q : Nat, s.heap.size ≤ q → A q := fun q h => by rw [← hAe]; exact Or.inr h
  have hS : va_S A s.heap s.heap [] := va_S.rf
  have hP : va_P (dC, dI) vwCl [(aB, .inr (6, [.ref aT, .ref aF, .ref aQ, .int fk, .int fp])), (aT, .inr (5, [.ref aR, .int (nI k), .int ch])), (aR, .inl (cA, n, .inl f))] s.heap := hP
  have hl := lv_entry ([.ref aB]) (n := 5) (Nat.le_of_ble_eq_true rfl)
  rw [lg_entry_eq]
  generalize (lg_sl ([.ref aB]) ++ List.replicate (5 - (lg_sl ([.ref aB])).length) Slot.unset).toArray = ls at hl ⊢
  have hl : lv_has ls 5 [(0, .ref aB)] := hl
  refine lv_aload_n hx hb dc_B_wrongFieldFromProducer_0 rfl (lv_at hl 0 rfl) ?_
  refine va_get (D := (dC, dI)) (ci := 6) (v := .ref aT) (C := rn_B) (T := ft_B) (N := 5) hx hb hts fw_B hown hK hP 0 rfl rfl 0 (by decide) (hts _ bw1_151) (fun _ h9 => h9) rfl dc_B_wrongFieldFromProducer_1 ?_
  refine lv_bipush (v := 43) hx hb dc_B_wrongFieldFromProducer_4 (by decide) ?_
  refine lv_bipush (v := 8) hx hb dc_B_wrongFieldFromProducer_6 (by decide) ?_
  refine kc_l (wc := [(aT, .inr (5, [.ref aR, .int (nI k), .int ch])), (aR, .inl (cA, n, .inl f))]) (wr := [(aB, .inr (6, [.ref aT, .ref aF, .ref aQ, .int fk, .int fp]))]) hP hD hS hA [1, 2] [0] rfl rfl (by decide) (by decide) (va_runV (As := [.int 43, .int 8]) (rest := []) ⟨hx, hb, hml, hown, hts⟩ (c_T_signed l dC dI _ aT aR cA n f k ch 43 8 (by omega) (by omega) (by omega)) (kw_V 2 hts bw3_56 bw3_57 bw3_58 bw1_2 bw3_59 rfl rfl (by decide +kernel) ⟨Nat.le_of_ble_eq_true rfl, Nat.le_of_ble_eq_true rfl⟩) (kp_V (wc := [(aT, .inr (5, [.ref aR, .int (nI k), .int ch])), (aR, .inl (cA, n, .inl f))]) (tc := [(cA, .byte)]) (As := [.int 43, .int 8]) hG hS hA hP hD hK [1, 2] rfl (by decide) rfl [0] rfl (ci := 5) (q0 := 1) rfl rfl) rfl rfl hl.1 rfl (lv_room (Nat.le_of_ble_eq_true rfl)) dc_B_wrongFieldFromProducer_8 ⟨Nat.zero_le _, Nat.zero_le _⟩) (fun r_1 _ H locs hw hP hD hK1 hS => ?_)
  subst hw
  have hP : va_P (dC, dI) vwCl [(aB, .inr (6, [.ref aT, .ref aF, .ref aQ, .int fk, .int fp])), (aT, .inr (5, [.ref aR, .int (nI k), .int ch])), (aR, .inl (cA, n, .inl f))] H := hP
  have hD : va_D A [(aB, .inr (6, [.ref aT, .ref aF, .ref aQ, .int fk, .int fp])), (aT, .inr (5, [.ref aR, .int (nI k), .int ch])), (aR, .inl (cA, n, .inl f))] := hD
  refine lv_lstore_n (lv' := [(1, .long (sgn (tb f k) 43 8)), (0, .ref aB)]) hx hb dc_B_wrongFieldFromProducer_11 rfl hl (by decide) rfl (fun ls hl => ?_)
  refine lv_lload_n hx hb dc_B_wrongFieldFromProducer_12 rfl (lv_at hl 0 rfl) ?_
  refine lv_ldc2 (v := (-1)) hx hb hown (hts _ bw3_81) dc_B_wrongFieldFromProducer_13 ?_
  refine W.lcmp hx hb dc_B_wrongFieldFromProducer_16 ?_
  refine lv_if_lt (tgt := 28) hx hb dc_B_wrongFieldFromProducer_17 (by decide) (fun c_2 => ?_) (fun c_2 => ?_)
  · have c_2 : (sgn (tb f k) 43 8) < (-1) := (lg_cmp_lt _ _).mp c_2
    refine lv_bipush (v := 43) hx hb dc_B_wrongFieldFromProducer_28 (by decide) ?_
    have hP9 := hP.sub (ws' := [(aB, .inr (6, [.ref aT, .ref aF, .ref aQ, .int fk, .int fp])), (aT, .inr (5, [.ref aR, .int (nI k), .int ch])), (aR, .inl (cA, n, .inl f))]) [0, 1, 2] rfl
    have hD9 := hD.sub (ws' := [(aB, .inr (6, [.ref aT, .ref aF, .ref aQ, .int fk, .int fp])), (aT, .inr (5, [.ref aR, .int (nI k), .int ch])), (aR, .inl (cA, n, .inl f))]) [0, 1, 2] (by decide) rfl
    have hK9 := hK.sub (tys' := [(cA, .byte)]) [0] rfl
    exact W.iret (v := 43) hx hb hr (fun t ht hW => ⟨⟨43, (), rfl, by unfold wpC; rw [if_pos c_2], by rw [ht]; exact hP9, va_K.moved hW.alike hK9, hD9⟩, hS.F ht⟩) hS.2.2 dc_B_wrongFieldFromProducer_30
  · have c_2 : ¬ ((sgn (tb f k) 43 8) < (-1)) := fun h => c_2 ((lg_cmp_lt _ _).mpr h)
    refine lv_lload_n hx hb dc_B_wrongFieldFromProducer_20 rfl (lv_at hl 0 rfl) ?_
    refine lv_ldc2 (v := 1125899906842624) hx hb hown (hts _ bw3_76) dc_B_wrongFieldFromProducer_21 ?_
    refine W.lcmp hx hb dc_B_wrongFieldFromProducer_24 ?_
    refine lv_if_le (tgt := 31) hx hb dc_B_wrongFieldFromProducer_25 (by decide) (fun c_3 => ?_) (fun c_3 => ?_)
    · have c_3 : (sgn (tb f k) 43 8) ≤ 1125899906842624 := (lg_cmp_le _ _).mp c_3
      refine lv_aload_n hx hb dc_B_wrongFieldFromProducer_31 rfl (lv_at hl 1 rfl) ?_
      refine va_get (D := (dC, dI)) (ci := 6) (v := .ref aT) (C := rn_B) (T := ft_B) (N := 5) hx hb hts fw_B hown hK hP 0 rfl rfl 0 (by decide) (hts _ bw1_151) (fun _ h9 => h9) rfl dc_B_wrongFieldFromProducer_32 ?_
      refine lv_bipush (v := 51) hx hb dc_B_wrongFieldFromProducer_35 (by decide) ?_
      refine lv_iconst (v := 2) hx hb dc_B_wrongFieldFromProducer_37 (by decide) ?_
      refine kc_l (wc := [(aT, .inr (5, [.ref aR, .int (nI k), .int ch])), (aR, .inl (cA, n, .inl f))]) (wr := [(aB, .inr (6, [.ref aT, .ref aF, .ref aQ, .int fk, .int fp]))]) hP hD hS hA [1, 2] [0] rfl rfl (by decide) (by decide) (va_runV (As := [.int 51, .int 2]) (rest := []) ⟨hx, hb, hml, hown, hts⟩ (c_T_signed l dC dI _ aT aR cA n f k ch 51 2 (by omega) (by omega) (by omega)) (kw_V 2 hts bw3_56 bw3_57 bw3_58 bw1_2 bw3_59 rfl rfl (by decide +kernel) ⟨Nat.le_of_ble_eq_true rfl, Nat.le_of_ble_eq_true rfl⟩) (kp_V (wc := [(aT, .inr (5, [.ref aR, .int (nI k), .int ch])), (aR, .inl (cA, n, .inl f))]) (tc := [(cA, .byte)]) (As := [.int 51, .int 2]) hG hS hA hP hD hK [1, 2] rfl (by decide) rfl [0] rfl (ci := 5) (q0 := 1) rfl rfl) rfl rfl hl.1 rfl (lv_room (Nat.le_of_ble_eq_true rfl)) dc_B_wrongFieldFromProducer_38 ⟨Nat.zero_le _, Nat.zero_le _⟩) (fun r_4 _ H locs hw hP hD hK1 hS => ?_)
      subst hw
      have hP : va_P (dC, dI) vwCl [(aB, .inr (6, [.ref aT, .ref aF, .ref aQ, .int fk, .int fp])), (aT, .inr (5, [.ref aR, .int (nI k), .int ch])), (aR, .inl (cA, n, .inl f))] H := hP
      have hD : va_D A [(aB, .inr (6, [.ref aT, .ref aF, .ref aQ, .int fk, .int fp])), (aT, .inr (5, [.ref aR, .int (nI k), .int ch])), (aR, .inl (cA, n, .inl f))] := hD
      refine lv_lload_n hx hb dc_B_wrongFieldFromProducer_41 rfl (lv_at hl 0 rfl) ?_
      refine kc_i (wc := []) (wr := [(aB, .inr (6, [.ref aT, .ref aF, .ref aQ, .int fk, .int fp])), (aT, .inr (5, [.ref aR, .int (nI k), .int ch])), (aR, .inl (cA, n, .inl f))]) hP hD hS hA [] [0, 1, 2] rfl rfl (by decide) (by decide) (va_runS (As := [.long (sgn (tb f k) 51 2), .long (sgn (tb f k) 43 8)]) (rest := []) ⟨hx, hb, hml, hown, hts⟩ (c_B_fitsProducer l dC dI _ (sgn (tb f k) 51 2) (sgn (tb f k) 43 8) ) (kw_S 2 hts bw3_82 bw3_83 bw1_1 bw3_84 rfl rfl (by decide +kernel) ⟨Nat.le_of_ble_eq_true rfl, Nat.le_of_ble_eq_true rfl⟩) (kp_S (wc := []) (tc := []) (av := [.long (sgn (tb f k) 51 2), .long (sgn (tb f k) 43 8)]) hG hS hA hP hD hK [] rfl (by decide) rfl [] rfl) rfl rfl hl.1 rfl (lv_room (Nat.le_of_ble_eq_true rfl)) dc_B_wrongFieldFromProducer_42 ⟨Nat.zero_le _, Nat.zero_le _⟩) (fun r_5 _ H locs hw hP hD hK1 hS => ?_)
      subst hw
      have hP : va_P (dC, dI) vwCl [(aB, .inr (6, [.ref aT, .ref aF, .ref aQ, .int fk, .int fp])), (aT, .inr (5, [.ref aR, .int (nI k), .int ch])), (aR, .inl (cA, n, .inl f))] H := hP
      have hD : va_D A [(aB, .inr (6, [.ref aT, .ref aF, .ref aQ, .int fk, .int fp])), (aT, .inr (5, [.ref aR, .int (nI k), .int ch])), (aR, .inl (cA, n, .inl f))] := hD
      refine lv_if_ne (tgt := 51) hx hb dc_B_wrongFieldFromProducer_45 (by decide) (fun c_6 => ?_) (fun c_6 => ?_)
      · refine lv_aload_n hx hb dc_B_wrongFieldFromProducer_51 rfl (lv_at hl 1 rfl) ?_
        refine va_get (D := (dC, dI)) (ci := 6) (v := .ref aT) (C := rn_B) (T := ft_B) (N := 5) hx hb hts fw_B hown hK hP 0 rfl rfl 0 (by decide) (hts _ bw1_151) (fun _ h9 => h9) rfl dc_B_wrongFieldFromProducer_52 ?_
        refine lv_bipush (v := 53) hx hb dc_B_wrongFieldFromProducer_55 (by decide) ?_
        refine lv_iconst (v := 4) hx hb dc_B_wrongFieldFromProducer_57 (by decide) ?_
        refine kc_l (wc := [(aT, .inr (5, [.ref aR, .int (nI k), .int ch])), (aR, .inl (cA, n, .inl f))]) (wr := [(aB, .inr (6, [.ref aT, .ref aF, .ref aQ, .int fk, .int fp]))]) hP hD hS hA [1, 2] [0] rfl rfl (by decide) (by decide) (va_runV (As := [.int 53, .int 4]) (rest := []) ⟨hx, hb, hml, hown, hts⟩ (c_T_signed l dC dI _ aT aR cA n f k ch 53 4 (by omega) (by omega) (by omega)) (kw_V 2 hts bw3_56 bw3_57 bw3_58 bw1_2 bw3_59 rfl rfl (by decide +kernel) ⟨Nat.le_of_ble_eq_true rfl, Nat.le_of_ble_eq_true rfl⟩) (kp_V (wc := [(aT, .inr (5, [.ref aR, .int (nI k), .int ch])), (aR, .inl (cA, n, .inl f))]) (tc := [(cA, .byte)]) (As := [.int 53, .int 4]) hG hS hA hP hD hK [1, 2] rfl (by decide) rfl [0] rfl (ci := 5) (q0 := 1) rfl rfl) rfl rfl hl.1 rfl (lv_room (Nat.le_of_ble_eq_true rfl)) dc_B_wrongFieldFromProducer_58 ⟨Nat.zero_le _, Nat.zero_le _⟩) (fun r_7 _ H locs hw hP hD hK1 hS => ?_)
        subst hw
        have hP : va_P (dC, dI) vwCl [(aB, .inr (6, [.ref aT, .ref aF, .ref aQ, .int fk, .int fp])), (aT, .inr (5, [.ref aR, .int (nI k), .int ch])), (aR, .inl (cA, n, .inl f))] H := hP
        have hD : va_D A [(aB, .inr (6, [.ref aT, .ref aF, .ref aQ, .int fk, .int fp])), (aT, .inr (5, [.ref aR, .int (nI k), .int ch])), (aR, .inl (cA, n, .inl f))] := hD
        refine lv_lload_n hx hb dc_B_wrongFieldFromProducer_61 rfl (lv_at hl 0 rfl) ?_
        refine kc_i (wc := []) (wr := [(aB, .inr (6, [.ref aT, .ref aF, .ref aQ, .int fk, .int fp])), (aT, .inr (5, [.ref aR, .int (nI k), .int ch])), (aR, .inl (cA, n, .inl f))]) hP hD hS hA [] [0, 1, 2] rfl rfl (by decide) (by decide) (va_runS (As := [.long (sgn (tb f k) 53 4), .long (sgn (tb f k) 43 8)]) (rest := []) ⟨hx, hb, hml, hown, hts⟩ (c_B_fitsProducer l dC dI _ (sgn (tb f k) 53 4) (sgn (tb f k) 43 8) ) (kw_S 2 hts bw3_82 bw3_83 bw1_1 bw3_84 rfl rfl (by decide +kernel) ⟨Nat.le_of_ble_eq_true rfl, Nat.le_of_ble_eq_true rfl⟩) (kp_S (wc := []) (tc := []) (av := [.long (sgn (tb f k) 53 4), .long (sgn (tb f k) 43 8)]) hG hS hA hP hD hK [] rfl (by decide) rfl [] rfl) rfl rfl hl.1 rfl (lv_room (Nat.le_of_ble_eq_true rfl)) dc_B_wrongFieldFromProducer_62 ⟨Nat.zero_le _, Nat.zero_le _⟩) (fun r_8 _ H locs hw hP hD hK1 hS => ?_)
        subst hw
        have hP : va_P (dC, dI) vwCl [(aB, .inr (6, [.ref aT, .ref aF, .ref aQ, .int fk, .int fp])), (aT, .inr (5, [.ref aR, .int (nI k), .int ch])), (aR, .inl (cA, n, .inl f))] H := hP
        have hD : va_D A [(aB, .inr (6, [.ref aT, .ref aF, .ref aQ, .int fk, .int fp])), (aT, .inr (5, [.ref aR, .int (nI k), .int ch])), (aR, .inl (cA, n, .inl f))] := hD
        refine lv_if_ne (tgt := 71) hx hb dc_B_wrongFieldFromProducer_65 (by decide) (fun c_9 => ?_) (fun c_9 => ?_)
        · refine lv_aload_n hx hb dc_B_wrongFieldFromProducer_71 rfl (lv_at hl 1 rfl) ?_
          refine va_get (D := (dC, dI)) (ci := 6) (v := .ref aT) (C := rn_B) (T := ft_B) (N := 5) hx hb hts fw_B hown hK hP 0 rfl rfl 0 (by decide) (hts _ bw1_151) (fun _ h9 => h9) rfl dc_B_wrongFieldFromProducer_72 ?_
          refine lv_bipush (v := 57) hx hb dc_B_wrongFieldFromProducer_75 (by decide) ?_
          refine lv_iconst (v := 4) hx hb dc_B_wrongFieldFromProducer_77 (by decide) ?_
          refine kc_l (wc := [(aT, .inr (5, [.ref aR, .int (nI k), .int ch])), (aR, .inl (cA, n, .inl f))]) (wr := [(aB, .inr (6, [.ref aT, .ref aF, .ref aQ, .int fk, .int fp]))]) hP hD hS hA [1, 2] [0] rfl rfl (by decide) (by decide) (va_runV (As := [.int 57, .int 4]) (rest := []) ⟨hx, hb, hml, hown, hts⟩ (c_T_signed l dC dI _ aT aR cA n f k ch 57 4 (by omega) (by omega) (by omega)) (kw_V 2 hts bw3_56 bw3_57 bw3_58 bw1_2 bw3_59 rfl rfl (by decide +kernel) ⟨Nat.le_of_ble_eq_true rfl, Nat.le_of_ble_eq_true rfl⟩) (kp_V (wc := [(aT, .inr (5, [.ref aR, .int (nI k), .int ch])), (aR, .inl (cA, n, .inl f))]) (tc := [(cA, .byte)]) (As := [.int 57, .int 4]) hG hS hA hP hD hK [1, 2] rfl (by decide) rfl [0] rfl (ci := 5) (q0 := 1) rfl rfl) rfl rfl hl.1 rfl (lv_room (Nat.le_of_ble_eq_true rfl)) dc_B_wrongFieldFromProducer_78 ⟨Nat.zero_le _, Nat.zero_le _⟩) (fun r_10 _ H locs hw hP hD hK1 hS => ?_)
          subst hw
          have hP : va_P (dC, dI) vwCl [(aB, .inr (6, [.ref aT, .ref aF, .ref aQ, .int fk, .int fp])), (aT, .inr (5, [.ref aR, .int (nI k), .int ch])), (aR, .inl (cA, n, .inl f))] H := hP
          have hD : va_D A [(aB, .inr (6, [.ref aT, .ref aF, .ref aQ, .int fk, .int fp])), (aT, .inr (5, [.ref aR, .int (nI k), .int ch])), (aR, .inl (cA, n, .inl f))] := hD
          refine lv_lstore_n (lv' := [(3, .long (sgn (tb f k) 57 4)), (1, .long (sgn (tb f k) 43 8)), (0, .ref aB)]) hx hb dc_B_wrongFieldFromProducer_81 rfl hl (by decide) rfl (fun ls hl => ?_)
          refine lv_lload_n hx hb dc_B_wrongFieldFromProducer_82 rfl (lv_at hl 0 rfl) ?_
          refine lv_lconst (v := 1) hx hb dc_B_wrongFieldFromProducer_83 rfl ?_
          refine W.lcmp hx hb dc_B_wrongFieldFromProducer_84 ?_
          refine lv_if_lt (tgt := 96) hx hb dc_B_wrongFieldFromProducer_85 (by decide) (fun c_11 => ?_) (fun c_11 => ?_)
          · have c_11 : (sgn (tb f k) 57 4) < 1 := (lg_cmp_lt _ _).mp c_11
            refine lv_bipush (v := 57) hx hb dc_B_wrongFieldFromProducer_96 (by decide) ?_
            refine lv_goto (tgt := 102) hx hb dc_B_wrongFieldFromProducer_98 (by decide) ?_
            have hP9 := hP.sub (ws' := [(aB, .inr (6, [.ref aT, .ref aF, .ref aQ, .int fk, .int fp])), (aT, .inr (5, [.ref aR, .int (nI k), .int ch])), (aR, .inl (cA, n, .inl f))]) [0, 1, 2] rfl
            have hD9 := hD.sub (ws' := [(aB, .inr (6, [.ref aT, .ref aF, .ref aQ, .int fk, .int fp])), (aT, .inr (5, [.ref aR, .int (nI k), .int ch])), (aR, .inl (cA, n, .inl f))]) [0, 1, 2] (by decide) rfl
            have hK9 := hK.sub (tys' := [(cA, .byte)]) [0] rfl
            exact W.iret (v := 57) hx hb hr (fun t ht hW => ⟨⟨57, (), rfl, by unfold wpC; rw [if_neg c_2, if_pos c_3, if_neg c_6, if_neg c_9, if_pos c_11], by rw [ht]; exact hP9, va_K.moved hW.alike hK9, hD9⟩, hS.F ht⟩) hS.2.2 dc_B_wrongFieldFromProducer_102
          · have c_11 : ¬ ((sgn (tb f k) 57 4) < 1) := fun h => c_11 ((lg_cmp_lt _ _).mpr h)
            refine lv_lload_n hx hb dc_B_wrongFieldFromProducer_88 rfl (lv_at hl 0 rfl) ?_
            refine lv_ldc2 (v := 1000) hx hb hown (hts _ bw3_85) dc_B_wrongFieldFromProducer_89 ?_
            refine W.lcmp hx hb dc_B_wrongFieldFromProducer_92 ?_
            refine lv_if_le (tgt := 101) hx hb dc_B_wrongFieldFromProducer_93 (by decide) (fun c_12 => ?_) (fun c_12 => ?_)
            · have c_12 : (sgn (tb f k) 57 4) ≤ 1000 := (lg_cmp_le _ _).mp c_12
              refine lv_iconst (v := (-1)) hx hb dc_B_wrongFieldFromProducer_101 (by decide) ?_
              have hP9 := hP.sub (ws' := [(aB, .inr (6, [.ref aT, .ref aF, .ref aQ, .int fk, .int fp])), (aT, .inr (5, [.ref aR, .int (nI k), .int ch])), (aR, .inl (cA, n, .inl f))]) [0, 1, 2] rfl
              have hD9 := hD.sub (ws' := [(aB, .inr (6, [.ref aT, .ref aF, .ref aQ, .int fk, .int fp])), (aT, .inr (5, [.ref aR, .int (nI k), .int ch])), (aR, .inl (cA, n, .inl f))]) [0, 1, 2] (by decide) rfl
              have hK9 := hK.sub (tys' := [(cA, .byte)]) [0] rfl
              exact W.iret (v := (-1)) hx hb hr (fun t ht hW => ⟨⟨(-1), (), rfl, by unfold wpC; rw [if_neg c_2, if_pos c_3, if_neg c_6, if_neg c_9, if_neg c_11, if_pos c_12], by rw [ht]; exact hP9, va_K.moved hW.alike hK9, hD9⟩, hS.F ht⟩) hS.2.2 dc_B_wrongFieldFromProducer_102
            · have c_12 : ¬ ((sgn (tb f k) 57 4) ≤ 1000) := fun h => c_12 ((lg_cmp_le _ _).mpr h)
              refine lv_bipush (v := 57) hx hb dc_B_wrongFieldFromProducer_96 (by decide) ?_
              refine lv_goto (tgt := 102) hx hb dc_B_wrongFieldFromProducer_98 (by decide) ?_
              have hP9 := hP.sub (ws' := [(aB, .inr (6, [.ref aT, .ref aF, .ref aQ, .int fk, .int fp])), (aT, .inr (5, [.ref aR, .int (nI k), .int ch])), (aR, .inl (cA, n, .inl f))]) [0, 1, 2] rfl
              have hD9 := hD.sub (ws' := [(aB, .inr (6, [.ref aT, .ref aF, .ref aQ, .int fk, .int fp])), (aT, .inr (5, [.ref aR, .int (nI k), .int ch])), (aR, .inl (cA, n, .inl f))]) [0, 1, 2] (by decide) rfl
              have hK9 := hK.sub (tys' := [(cA, .byte)]) [0] rfl
              exact W.iret (v := 57) hx hb hr (fun t ht hW => ⟨⟨57, (), rfl, by unfold wpC; rw [if_neg c_2, if_pos c_3, if_neg c_6, if_neg c_9, if_neg c_11, if_neg c_12], by rw [ht]; exact hP9, va_K.moved hW.alike hK9, hD9⟩, hS.F ht⟩) hS.2.2 dc_B_wrongFieldFromProducer_102
        · refine lv_bipush (v := 53) hx hb dc_B_wrongFieldFromProducer_68 (by decide) ?_
          have hP9 := hP.sub (ws' := [(aB, .inr (6, [.ref aT, .ref aF, .ref aQ, .int fk, .int fp])), (aT, .inr (5, [.ref aR, .int (nI k), .int ch])), (aR, .inl (cA, n, .inl f))]) [0, 1, 2] rfl
          have hD9 := hD.sub (ws' := [(aB, .inr (6, [.ref aT, .ref aF, .ref aQ, .int fk, .int fp])), (aT, .inr (5, [.ref aR, .int (nI k), .int ch])), (aR, .inl (cA, n, .inl f))]) [0, 1, 2] (by decide) rfl
          have hK9 := hK.sub (tys' := [(cA, .byte)]) [0] rfl
          exact W.iret (v := 53) hx hb hr (fun t ht hW => ⟨⟨53, (), rfl, by unfold wpC; rw [if_neg c_2, if_pos c_3, if_neg c_6, if_pos c_9], by rw [ht]; exact hP9, va_K.moved hW.alike hK9, hD9⟩, hS.F ht⟩) hS.2.2 dc_B_wrongFieldFromProducer_70
      · refine lv_bipush (v := 51) hx hb dc_B_wrongFieldFromProducer_48 (by decide) ?_
        have hP9 := hP.sub (ws' := [(aB, .inr (6, [.ref aT, .ref aF, .ref aQ, .int fk, .int fp])), (aT, .inr (5, [.ref aR, .int (nI k), .int ch])), (aR, .inl (cA, n, .inl f))]) [0, 1, 2] rfl
        have hD9 := hD.sub (ws' := [(aB, .inr (6, [.ref aT, .ref aF, .ref aQ, .int fk, .int fp])), (aT, .inr (5, [.ref aR, .int (nI k), .int ch])), (aR, .inl (cA, n, .inl f))]) [0, 1, 2] (by decide) rfl
        have hK9 := hK.sub (tys' := [(cA, .byte)]) [0] rfl
        exact W.iret (v := 51) hx hb hr (fun t ht hW => ⟨⟨51, (), rfl, by unfold wpC; rw [if_neg c_2, if_pos c_3, if_pos c_6], by rw [ht]; exact hP9, va_K.moved hW.alike hK9, hD9⟩, hS.F ht⟩) hS.2.2 dc_B_wrongFieldFromProducer_50
    · have c_3 : ¬ ((sgn (tb f k) 43 8) ≤ 1125899906842624) := fun h => c_3 ((lg_cmp_le _ _).mpr h)
      refine lv_bipush (v := 43) hx hb dc_B_wrongFieldFromProducer_28 (by decide) ?_
      have hP9 := hP.sub (ws' := [(aB, .inr (6, [.ref aT, .ref aF, .ref aQ, .int fk, .int fp])), (aT, .inr (5, [.ref aR, .int (nI k), .int ch])), (aR, .inl (cA, n, .inl f))]) [0, 1, 2] rfl
      have hD9 := hD.sub (ws' := [(aB, .inr (6, [.ref aT, .ref aF, .ref aQ, .int fk, .int fp])), (aT, .inr (5, [.ref aR, .int (nI k), .int ch])), (aR, .inl (cA, n, .inl f))]) [0, 1, 2] (by decide) rfl
      have hK9 := hK.sub (tys' := [(cA, .byte)]) [0] rfl
      exact W.iret (v := 43) hx hb hr (fun t ht hW => ⟨⟨43, (), rfl, by unfold wpC; rw [if_neg c_2, if_neg c_3], by rw [ht]; exact hP9, va_K.moved hW.alike hK9, hD9⟩, hS.F ht⟩) hS.2.2 dc_B_wrongFieldFromProducer_30

set_option maxHeartbeats 1000000 in
set_option maxRecDepth 100000 in
theorem c_B_wrongField (l : Launch) (dC : Nat → ClassId) (dI : Nat → Nat → Nat) (sz : Nat) (aB : Nat) (aF : Nat) (aQ : Nat) (fk : Int32) (fp : Int32) (aT : Nat) (aR : Nat) (cA : ClassId) (n : Nat) (f : Nat → Int32) (k : Nat) (ch : Int32) (hk : k ≤ n) (hn : n ≤ 16384) : Met l my_B_wrongField (wB my_B_wrongField cd_B_wrongField 1 (some .int)) ({ frames := 4, cells := 0, slots := 0, locals := 93 }) (va_Pc [.ref aB] (PcW (dC, dI) [(aB, .inr (6, [.ref aT, .ref aF, .ref aQ, .int fk, .int fp])), (aT, .inr (5, [.ref aR, .int (nI k), .int ch])), (aR, .inl (cA, n, .inl f))] [(cA, .byte)] sz)) (va_Qi (fun (r : Int32) => fun (_ : Unit) => r = wfC (tb f k)) (fun _ => EnW (dC, dI) (va_A [(aB, .inr (6, [.ref aT, .ref aF, .ref aQ, .int fk, .int fp])), (aT, .inr (5, [.ref aR, .int (nI k), .int ch])), (aR, .inl (cA, n, .inl f))] sz) [(aB, .inr (6, [.ref aT, .ref aF, .ref aQ, .int fk, .int fp])), (aT, .inr (5, [.ref aR, .int (nI k), .int ch])), (aR, .inl (cA, n, .inl f))] [(cA, .byte)]) (va_A [(aB, .inr (6, [.ref aT, .ref aF, .ref aQ, .int fk, .int fp])), (aT, .inr (5, [.ref aR, .int (nI k), .int ch])), (aR, .inl (cA, n, .inl f))] sz)) 0 0 (va_A [(aB, .inr (6, [.ref aT, .ref aF, .ref aQ, .int fk, .int fp])), (aT, .inr (5, [.ref aR, .int (nI k), .int ch])), (aR, .inl (cA, n, .inl f))] sz) := by
  refine Met.ofW (cc := cd_B_wrongField) (maxL := 1) (ret := (some .int)) (by decide) rfl ?_
  intro p e s m args below meth c s₁ B hml hv
  obtain ⟨rfl, hsz, hP, hK, hD0, hG⟩ := hv
  have hx := B.exec
  have hb := B.bytes
  have hr := B.returns
  have hts := fun (w : Cond) (h : w ∈ bigT) => atoms_spec (ws := (wB my_B_wrongField cd_B_wrongField 1 (some .int))) B.pre w (List.mem_cons_of_mem _ h)
  have hown : s.vm.findClass rn_B = some m.cls := findClass_of_methodNamed B.named
  have hlocks := B.notSynchronized
  subst hsz
  have hD := hD0.self (sz := s.heap.size)
  generalize hAe : va_A [(aB, .inr (6, [.ref aT, .ref aF, .ref aQ, .int fk, .int fp])), (aT, .inr (5, [.ref aR, .int (nI k), .int ch])), (aR, .inl (cA, n, .inl f))] s.heap.size = A at hD hG ⊢
  have hA : ∀ q : Nat, s.heap.size ≤ q → A q := fun q h => by rw [← hAe]; exact Or.inr h
  have hS : va_S A s.heap s.heap [] := va_S.rf
  have hP : va_P (dC, dI) vwCl [(aB, .inr (6, [.ref aT, .ref aF, .ref aQ, .int fk, .int fp])), (aT, .inr (5, [.ref aR, .int (nI k), .int ch])), (aR, .inl (cA, n, .inl f))] s.heap := hP
  have hl := lv_entry ([.ref aB]) (n := 1) (Nat.le_of_ble_eq_true rfl)
  rw [lg_entry_eq]
  generalize (lg_sl ([.ref aB]) ++ List.replicate (1 - (lg_sl ([.ref aB])).length) Slot.unset).toArray = ls at hl ⊢
  have hl : lv_has ls 1 [(0, .ref aB)] := hl
  refine lv_aload_n hx hb dc_B_wrongField_0 rfl (lv_at hl 0 rfl) ?_
  refine va_get (D := (dC, dI)) (ci := 6) (v := .ref aT) (C := rn_B) (T := ft_B) (N := 5) hx hb hts fw_B hown hK hP 0 rfl rfl 0 (by decide) (hts _ bw1_151) (fun _ h9 => h9) rfl dc_B_wrongField_1 ?_
  refine lv_iconst (v := 0) hx hb dc_B_wrongField_4 (by decide) ?_
  refine lv_bipush (v := 8) hx hb dc_B_wrongField_5 (by decide) ?_
  refine kc_l (wc := [(aT, .inr (5, [.ref aR, .int (nI k), .int ch])), (aR, .inl (cA, n, .inl f))]) (wr := [(aB, .inr (6, [.ref aT, .ref aF, .ref aQ, .int fk, .int fp]))]) hP hD hS hA [1, 2] [0] rfl rfl (by decide) (by decide) (va_runV (As := [.int 0, .int 8]) (rest := []) ⟨hx, hb, hml, hown, hts⟩ (c_T_signed l dC dI _ aT aR cA n f k ch 0 8 (by omega) (by omega) (by omega)) (kw_V 2 hts bw3_56 bw3_57 bw3_58 bw1_2 bw3_59 rfl rfl (by decide +kernel) ⟨Nat.le_of_ble_eq_true rfl, Nat.le_of_ble_eq_true rfl⟩) (kp_V (wc := [(aT, .inr (5, [.ref aR, .int (nI k), .int ch])), (aR, .inl (cA, n, .inl f))]) (tc := [(cA, .byte)]) (As := [.int 0, .int 8]) hG hS hA hP hD hK [1, 2] rfl (by decide) rfl [0] rfl (ci := 5) (q0 := 1) rfl rfl) rfl rfl hl.1 rfl (lv_room (Nat.le_of_ble_eq_true rfl)) dc_B_wrongField_7 ⟨Nat.zero_le _, Nat.zero_le _⟩) (fun r_1 _ H locs hw hP hD hK1 hS => ?_)
  subst hw
  have hP : va_P (dC, dI) vwCl [(aB, .inr (6, [.ref aT, .ref aF, .ref aQ, .int fk, .int fp])), (aT, .inr (5, [.ref aR, .int (nI k), .int ch])), (aR, .inl (cA, n, .inl f))] H := hP
  have hD : va_D A [(aB, .inr (6, [.ref aT, .ref aF, .ref aQ, .int fk, .int fp])), (aT, .inr (5, [.ref aR, .int (nI k), .int ch])), (aR, .inl (cA, n, .inl f))] := hD
  refine lv_lconst (v := 0) hx hb dc_B_wrongField_10 rfl ?_
  refine W.lcmp hx hb dc_B_wrongField_11 ?_
  refine lv_if_eq (tgt := 17) hx hb dc_B_wrongField_12 (by decide) (fun c_2 => ?_) (fun c_2 => ?_)
  · have c_2 : (sgn (tb f k) 0 8) = 0 := (lg_cmp_eq _ _).mp c_2
    refine lv_aload_n hx hb dc_B_wrongField_17 rfl (lv_at hl 0 rfl) ?_
    refine va_get (D := (dC, dI)) (ci := 6) (v := .ref aT) (C := rn_B) (T := ft_B) (N := 5) hx hb hts fw_B hown hK hP 0 rfl rfl 0 (by decide) (hts _ bw1_151) (fun _ h9 => h9) rfl dc_B_wrongField_18 ?_
    refine lv_bipush (v := 12) hx hb dc_B_wrongField_21 (by decide) ?_
    refine lv_iconst (v := 4) hx hb dc_B_wrongField_23 (by decide) ?_
    refine kc_l (wc := [(aT, .inr (5, [.ref aR, .int (nI k), .int ch])), (aR, .inl (cA, n, .inl f))]) (wr := [(aB, .inr (6, [.ref aT, .ref aF, .ref aQ, .int fk, .int fp]))]) hP hD hS hA [1, 2] [0] rfl rfl (by decide) (by decide) (va_runV (As := [.int 12, .int 4]) (rest := []) ⟨hx, hb, hml, hown, hts⟩ (c_T_signed l dC dI _ aT aR cA n f k ch 12 4 (by omega) (by omega) (by omega)) (kw_V 2 hts bw3_56 bw3_57 bw3_58 bw1_2 bw3_59 rfl rfl (by decide +kernel) ⟨Nat.le_of_ble_eq_true rfl, Nat.le_of_ble_eq_true rfl⟩) (kp_V (wc := [(aT, .inr (5, [.ref aR, .int (nI k), .int ch])), (aR, .inl (cA, n, .inl f))]) (tc := [(cA, .byte)]) (As := [.int 12, .int 4]) hG hS hA hP hD hK [1, 2] rfl (by decide) rfl [0] rfl (ci := 5) (q0 := 1) rfl rfl) rfl rfl hl.1 rfl (lv_room (Nat.le_of_ble_eq_true rfl)) dc_B_wrongField_24 ⟨Nat.zero_le _, Nat.zero_le _⟩) (fun r_3 _ H locs hw hP hD hK1 hS => ?_)
    subst hw
    have hP : va_P (dC, dI) vwCl [(aB, .inr (6, [.ref aT, .ref aF, .ref aQ, .int fk, .int fp])), (aT, .inr (5, [.ref aR, .int (nI k), .int ch])), (aR, .inl (cA, n, .inl f))] H := hP
    have hD : va_D A [(aB, .inr (6, [.ref aT, .ref aF, .ref aQ, .int fk, .int fp])), (aT, .inr (5, [.ref aR, .int (nI k), .int ch])), (aR, .inl (cA, n, .inl f))] := hD
    refine lv_lconst (v := 0) hx hb dc_B_wrongField_27 rfl ?_
    refine W.lcmp hx hb dc_B_wrongField_28 ?_
    refine lv_if_eq (tgt := 35) hx hb dc_B_wrongField_29 (by decide) (fun c_4 => ?_) (fun c_4 => ?_)
    · have c_4 : (sgn (tb f k) 12 4) = 0 := (lg_cmp_eq _ _).mp c_4
      refine lv_aload_n hx hb dc_B_wrongField_35 rfl (lv_at hl 0 rfl) ?_
      refine va_get (D := (dC, dI)) (ci := 6) (v := .ref aT) (C := rn_B) (T := ft_B) (N := 5) hx hb hts fw_B hown hK hP 0 rfl rfl 0 (by decide) (hts _ bw1_151) (fun _ h9 => h9) rfl dc_B_wrongField_36 ?_
      refine lv_bipush (v := 16) hx hb dc_B_wrongField_39 (by decide) ?_
      refine lv_iconst (v := 1) hx hb dc_B_wrongField_41 (by decide) ?_
      refine kc_l (wc := [(aT, .inr (5, [.ref aR, .int (nI k), .int ch])), (aR, .inl (cA, n, .inl f))]) (wr := [(aB, .inr (6, [.ref aT, .ref aF, .ref aQ, .int fk, .int fp]))]) hP hD hS hA [1, 2] [0] rfl rfl (by decide) (by decide) (va_runV (As := [.int 16, .int 1]) (rest := []) ⟨hx, hb, hml, hown, hts⟩ (c_T_signed l dC dI _ aT aR cA n f k ch 16 1 (by omega) (by omega) (by omega)) (kw_V 2 hts bw3_56 bw3_57 bw3_58 bw1_2 bw3_59 rfl rfl (by decide +kernel) ⟨Nat.le_of_ble_eq_true rfl, Nat.le_of_ble_eq_true rfl⟩) (kp_V (wc := [(aT, .inr (5, [.ref aR, .int (nI k), .int ch])), (aR, .inl (cA, n, .inl f))]) (tc := [(cA, .byte)]) (As := [.int 16, .int 1]) hG hS hA hP hD hK [1, 2] rfl (by decide) rfl [0] rfl (ci := 5) (q0 := 1) rfl rfl) rfl rfl hl.1 rfl (lv_room (Nat.le_of_ble_eq_true rfl)) dc_B_wrongField_42 ⟨Nat.zero_le _, Nat.zero_le _⟩) (fun r_5 _ H locs hw hP hD hK1 hS => ?_)
      subst hw
      have hP : va_P (dC, dI) vwCl [(aB, .inr (6, [.ref aT, .ref aF, .ref aQ, .int fk, .int fp])), (aT, .inr (5, [.ref aR, .int (nI k), .int ch])), (aR, .inl (cA, n, .inl f))] H := hP
      have hD : va_D A [(aB, .inr (6, [.ref aT, .ref aF, .ref aQ, .int fk, .int fp])), (aT, .inr (5, [.ref aR, .int (nI k), .int ch])), (aR, .inl (cA, n, .inl f))] := hD
      refine lv_ldc2 (v := 2) hx hb hown (hts _ bw3_1) dc_B_wrongField_45 ?_
      refine W.lcmp hx hb dc_B_wrongField_48 ?_
      refine lv_if_eq (tgt := 55) hx hb dc_B_wrongField_49 (by decide) (fun c_6 => ?_) (fun c_6 => ?_)
      · have c_6 : (sgn (tb f k) 16 1) = 2 := (lg_cmp_eq _ _).mp c_6
        refine lv_aload_n hx hb dc_B_wrongField_55 rfl (lv_at hl 0 rfl) ?_
        refine va_get (D := (dC, dI)) (ci := 6) (v := .ref aT) (C := rn_B) (T := ft_B) (N := 5) hx hb hts fw_B hown hK hP 0 rfl rfl 0 (by decide) (hts _ bw1_151) (fun _ h9 => h9) rfl dc_B_wrongField_56 ?_
        refine lv_bipush (v := 21) hx hb dc_B_wrongField_59 (by decide) ?_
        refine lv_iconst (v := 2) hx hb dc_B_wrongField_61 (by decide) ?_
        refine kc_l (wc := [(aT, .inr (5, [.ref aR, .int (nI k), .int ch])), (aR, .inl (cA, n, .inl f))]) (wr := [(aB, .inr (6, [.ref aT, .ref aF, .ref aQ, .int fk, .int fp]))]) hP hD hS hA [1, 2] [0] rfl rfl (by decide) (by decide) (va_runV (As := [.int 21, .int 2]) (rest := []) ⟨hx, hb, hml, hown, hts⟩ (c_T_signed l dC dI _ aT aR cA n f k ch 21 2 (by omega) (by omega) (by omega)) (kw_V 2 hts bw3_56 bw3_57 bw3_58 bw1_2 bw3_59 rfl rfl (by decide +kernel) ⟨Nat.le_of_ble_eq_true rfl, Nat.le_of_ble_eq_true rfl⟩) (kp_V (wc := [(aT, .inr (5, [.ref aR, .int (nI k), .int ch])), (aR, .inl (cA, n, .inl f))]) (tc := [(cA, .byte)]) (As := [.int 21, .int 2]) hG hS hA hP hD hK [1, 2] rfl (by decide) rfl [0] rfl (ci := 5) (q0 := 1) rfl rfl) rfl rfl hl.1 rfl (lv_room (Nat.le_of_ble_eq_true rfl)) dc_B_wrongField_62 ⟨Nat.zero_le _, Nat.zero_le _⟩) (fun r_7 _ H locs hw hP hD hK1 hS => ?_)
        subst hw
        have hP : va_P (dC, dI) vwCl [(aB, .inr (6, [.ref aT, .ref aF, .ref aQ, .int fk, .int fp])), (aT, .inr (5, [.ref aR, .int (nI k), .int ch])), (aR, .inl (cA, n, .inl f))] H := hP
        have hD : va_D A [(aB, .inr (6, [.ref aT, .ref aF, .ref aQ, .int fk, .int fp])), (aT, .inr (5, [.ref aR, .int (nI k), .int ch])), (aR, .inl (cA, n, .inl f))] := hD
        refine lv_lconst (v := 0) hx hb dc_B_wrongField_65 rfl ?_
        refine W.lcmp hx hb dc_B_wrongField_66 ?_
        refine lv_if_eq (tgt := 73) hx hb dc_B_wrongField_67 (by decide) (fun c_8 => ?_) (fun c_8 => ?_)
        · have c_8 : (sgn (tb f k) 21 2) = 0 := (lg_cmp_eq _ _).mp c_8
          refine lv_aload_n hx hb dc_B_wrongField_73 rfl (lv_at hl 0 rfl) ?_
          refine va_get (D := (dC, dI)) (ci := 6) (v := .ref aT) (C := rn_B) (T := ft_B) (N := 5) hx hb hts fw_B hown hK hP 0 rfl rfl 0 (by decide) (hts _ bw1_151) (fun _ h9 => h9) rfl dc_B_wrongField_74 ?_
          refine lv_bipush (v := 23) hx hb dc_B_wrongField_77 (by decide) ?_
          refine lv_iconst (v := 4) hx hb dc_B_wrongField_79 (by decide) ?_
          refine kc_l (wc := [(aT, .inr (5, [.ref aR, .int (nI k), .int ch])), (aR, .inl (cA, n, .inl f))]) (wr := [(aB, .inr (6, [.ref aT, .ref aF, .ref aQ, .int fk, .int fp]))]) hP hD hS hA [1, 2] [0] rfl rfl (by decide) (by decide) (va_runV (As := [.int 23, .int 4]) (rest := []) ⟨hx, hb, hml, hown, hts⟩ (c_T_signed l dC dI _ aT aR cA n f k ch 23 4 (by omega) (by omega) (by omega)) (kw_V 2 hts bw3_56 bw3_57 bw3_58 bw1_2 bw3_59 rfl rfl (by decide +kernel) ⟨Nat.le_of_ble_eq_true rfl, Nat.le_of_ble_eq_true rfl⟩) (kp_V (wc := [(aT, .inr (5, [.ref aR, .int (nI k), .int ch])), (aR, .inl (cA, n, .inl f))]) (tc := [(cA, .byte)]) (As := [.int 23, .int 4]) hG hS hA hP hD hK [1, 2] rfl (by decide) rfl [0] rfl (ci := 5) (q0 := 1) rfl rfl) rfl rfl hl.1 rfl (lv_room (Nat.le_of_ble_eq_true rfl)) dc_B_wrongField_80 ⟨Nat.zero_le _, Nat.zero_le _⟩) (fun r_9 _ H locs hw hP hD hK1 hS => ?_)
          subst hw
          have hP : va_P (dC, dI) vwCl [(aB, .inr (6, [.ref aT, .ref aF, .ref aQ, .int fk, .int fp])), (aT, .inr (5, [.ref aR, .int (nI k), .int ch])), (aR, .inl (cA, n, .inl f))] H := hP
          have hD : va_D A [(aB, .inr (6, [.ref aT, .ref aF, .ref aQ, .int fk, .int fp])), (aT, .inr (5, [.ref aR, .int (nI k), .int ch])), (aR, .inl (cA, n, .inl f))] := hD
          refine lv_aload_n hx hb dc_B_wrongField_83 rfl (lv_at hl 0 rfl) ?_
          refine va_get (D := (dC, dI)) (ci := 6) (v := .ref aT) (C := rn_B) (T := ft_B) (N := 5) hx hb hts fw_B hown hK hP 0 rfl rfl 0 (by decide) (hts _ bw1_151) (fun _ h9 => h9) rfl dc_B_wrongField_84 ?_
          refine lv_bipush (v := 57) hx hb dc_B_wrongField_87 (by decide) ?_
          refine lv_iconst (v := 4) hx hb dc_B_wrongField_89 (by decide) ?_
          refine kc_l (wc := [(aT, .inr (5, [.ref aR, .int (nI k), .int ch])), (aR, .inl (cA, n, .inl f))]) (wr := [(aB, .inr (6, [.ref aT, .ref aF, .ref aQ, .int fk, .int fp]))]) hP hD hS hA [1, 2] [0] rfl rfl (by decide) (by decide) (va_runV (As := [.int 57, .int 4]) (rest := [.long (sgn (tb f k) 23 4)]) ⟨hx, hb, hml, hown, hts⟩ (c_T_signed l dC dI _ aT aR cA n f k ch 57 4 (by omega) (by omega) (by omega)) (kw_V 2 hts bw3_56 bw3_57 bw3_58 bw1_2 bw3_59 rfl rfl (by decide +kernel) ⟨Nat.le_of_ble_eq_true rfl, Nat.le_of_ble_eq_true rfl⟩) (kp_V (wc := [(aT, .inr (5, [.ref aR, .int (nI k), .int ch])), (aR, .inl (cA, n, .inl f))]) (tc := [(cA, .byte)]) (As := [.int 57, .int 4]) hG hS hA hP hD hK [1, 2] rfl (by decide) rfl [0] rfl (ci := 5) (q0 := 1) rfl rfl) rfl rfl hl.1 rfl (lv_room (Nat.le_of_ble_eq_true rfl)) dc_B_wrongField_90 ⟨Nat.zero_le _, Nat.zero_le _⟩) (fun r_10 _ H locs hw hP hD hK1 hS => ?_)
          subst hw
          have hP : va_P (dC, dI) vwCl [(aB, .inr (6, [.ref aT, .ref aF, .ref aQ, .int fk, .int fp])), (aT, .inr (5, [.ref aR, .int (nI k), .int ch])), (aR, .inl (cA, n, .inl f))] H := hP
          have hD : va_D A [(aB, .inr (6, [.ref aT, .ref aF, .ref aQ, .int fk, .int fp])), (aT, .inr (5, [.ref aR, .int (nI k), .int ch])), (aR, .inl (cA, n, .inl f))] := hD
          refine lv_lconst (v := 1) hx hb dc_B_wrongField_93 rfl ?_
          refine lv_lsub hx hb dc_B_wrongField_94 ?_
          refine W.lcmp hx hb dc_B_wrongField_95 ?_
          refine lv_if_eq (tgt := 102) hx hb dc_B_wrongField_96 (by decide) (fun c_11 => ?_) (fun c_11 => ?_)
          · have c_11 : (sgn (tb f k) 23 4) = ((sgn (tb f k) 57 4) - 1) := (lg_cmp_eq _ _).mp c_11
            refine lv_aload_n hx hb dc_B_wrongField_102 rfl (lv_at hl 0 rfl) ?_
            refine va_get (D := (dC, dI)) (ci := 6) (v := .ref aT) (C := rn_B) (T := ft_B) (N := 5) hx hb hts fw_B hown hK hP 0 rfl rfl 0 (by decide) (hts _ bw1_151) (fun _ h9 => h9) rfl dc_B_wrongField_103 ?_
            refine lv_bipush (v := 27) hx hb dc_B_wrongField_106 (by decide) ?_
            refine lv_bipush (v := 8) hx hb dc_B_wrongField_108 (by decide) ?_
            refine kc_l (wc := [(aT, .inr (5, [.ref aR, .int (nI k), .int ch])), (aR, .inl (cA, n, .inl f))]) (wr := [(aB, .inr (6, [.ref aT, .ref aF, .ref aQ, .int fk, .int fp]))]) hP hD hS hA [1, 2] [0] rfl rfl (by decide) (by decide) (va_runV (As := [.int 27, .int 8]) (rest := []) ⟨hx, hb, hml, hown, hts⟩ (c_T_signed l dC dI _ aT aR cA n f k ch 27 8 (by omega) (by omega) (by omega)) (kw_V 2 hts bw3_56 bw3_57 bw3_58 bw1_2 bw3_59 rfl rfl (by decide +kernel) ⟨Nat.le_of_ble_eq_true rfl, Nat.le_of_ble_eq_true rfl⟩) (kp_V (wc := [(aT, .inr (5, [.ref aR, .int (nI k), .int ch])), (aR, .inl (cA, n, .inl f))]) (tc := [(cA, .byte)]) (As := [.int 27, .int 8]) hG hS hA hP hD hK [1, 2] rfl (by decide) rfl [0] rfl (ci := 5) (q0 := 1) rfl rfl) rfl rfl hl.1 rfl (lv_room (Nat.le_of_ble_eq_true rfl)) dc_B_wrongField_110 ⟨Nat.zero_le _, Nat.zero_le _⟩) (fun r_12 _ H locs hw hP hD hK1 hS => ?_)
            subst hw
            have hP : va_P (dC, dI) vwCl [(aB, .inr (6, [.ref aT, .ref aF, .ref aQ, .int fk, .int fp])), (aT, .inr (5, [.ref aR, .int (nI k), .int ch])), (aR, .inl (cA, n, .inl f))] H := hP
            have hD : va_D A [(aB, .inr (6, [.ref aT, .ref aF, .ref aQ, .int fk, .int fp])), (aT, .inr (5, [.ref aR, .int (nI k), .int ch])), (aR, .inl (cA, n, .inl f))] := hD
            refine kc_i (wc := []) (wr := [(aB, .inr (6, [.ref aT, .ref aF, .ref aQ, .int fk, .int fp])), (aT, .inr (5, [.ref aR, .int (nI k), .int ch])), (aR, .inl (cA, n, .inl f))]) hP hD hS hA [] [0, 1, 2] rfl rfl (by decide) (by decide) (va_runS (As := [.long (sgn (tb f k) 27 8)]) (rest := []) ⟨hx, hb, hml, hown, hts⟩ (c_B_isTime l dC dI _ (sgn (tb f k) 27 8) ) (kw_S 1 hts bw3_73 bw3_74 bw1_1 bw3_75 rfl rfl (by decide +kernel) ⟨Nat.le_of_ble_eq_true rfl, Nat.le_of_ble_eq_true rfl⟩) (kp_S (wc := []) (tc := []) (av := [.long (sgn (tb f k) 27 8)]) hG hS hA hP hD hK [] rfl (by decide) rfl [] rfl) rfl rfl hl.1 rfl (lv_room (Nat.le_of_ble_eq_true rfl)) dc_B_wrongField_113 ⟨Nat.zero_le _, Nat.zero_le _⟩) (fun r_13 _ H locs hw hP hD hK1 hS => ?_)
            subst hw
            have hP : va_P (dC, dI) vwCl [(aB, .inr (6, [.ref aT, .ref aF, .ref aQ, .int fk, .int fp])), (aT, .inr (5, [.ref aR, .int (nI k), .int ch])), (aR, .inl (cA, n, .inl f))] H := hP
            have hD : va_D A [(aB, .inr (6, [.ref aT, .ref aF, .ref aQ, .int fk, .int fp])), (aT, .inr (5, [.ref aR, .int (nI k), .int ch])), (aR, .inl (cA, n, .inl f))] := hD
            refine lv_if_ne (tgt := 122) hx hb dc_B_wrongField_116 (by decide) (fun c_14 => ?_) (fun c_14 => ?_)
            · refine lv_aload_n hx hb dc_B_wrongField_122 rfl (lv_at hl 0 rfl) ?_
              refine va_get (D := (dC, dI)) (ci := 6) (v := .ref aT) (C := rn_B) (T := ft_B) (N := 5) hx hb hts fw_B hown hK hP 0 rfl rfl 0 (by decide) (hts _ bw1_151) (fun _ h9 => h9) rfl dc_B_wrongField_123 ?_
              refine lv_bipush (v := 35) hx hb dc_B_wrongField_126 (by decide) ?_
              refine lv_bipush (v := 8) hx hb dc_B_wrongField_128 (by decide) ?_
              refine kc_l (wc := [(aT, .inr (5, [.ref aR, .int (nI k), .int ch])), (aR, .inl (cA, n, .inl f))]) (wr := [(aB, .inr (6, [.ref aT, .ref aF, .ref aQ, .int fk, .int fp]))]) hP hD hS hA [1, 2] [0] rfl rfl (by decide) (by decide) (va_runV (As := [.int 35, .int 8]) (rest := []) ⟨hx, hb, hml, hown, hts⟩ (c_T_signed l dC dI _ aT aR cA n f k ch 35 8 (by omega) (by omega) (by omega)) (kw_V 2 hts bw3_56 bw3_57 bw3_58 bw1_2 bw3_59 rfl rfl (by decide +kernel) ⟨Nat.le_of_ble_eq_true rfl, Nat.le_of_ble_eq_true rfl⟩) (kp_V (wc := [(aT, .inr (5, [.ref aR, .int (nI k), .int ch])), (aR, .inl (cA, n, .inl f))]) (tc := [(cA, .byte)]) (As := [.int 35, .int 8]) hG hS hA hP hD hK [1, 2] rfl (by decide) rfl [0] rfl (ci := 5) (q0 := 1) rfl rfl) rfl rfl hl.1 rfl (lv_room (Nat.le_of_ble_eq_true rfl)) dc_B_wrongField_130 ⟨Nat.zero_le _, Nat.zero_le _⟩) (fun r_15 _ H locs hw hP hD hK1 hS => ?_)
              subst hw
              have hP : va_P (dC, dI) vwCl [(aB, .inr (6, [.ref aT, .ref aF, .ref aQ, .int fk, .int fp])), (aT, .inr (5, [.ref aR, .int (nI k), .int ch])), (aR, .inl (cA, n, .inl f))] H := hP
              have hD : va_D A [(aB, .inr (6, [.ref aT, .ref aF, .ref aQ, .int fk, .int fp])), (aT, .inr (5, [.ref aR, .int (nI k), .int ch])), (aR, .inl (cA, n, .inl f))] := hD
              refine kc_i (wc := []) (wr := [(aB, .inr (6, [.ref aT, .ref aF, .ref aQ, .int fk, .int fp])), (aT, .inr (5, [.ref aR, .int (nI k), .int ch])), (aR, .inl (cA, n, .inl f))]) hP hD hS hA [] [0, 1, 2] rfl rfl (by decide) (by decide) (va_runS (As := [.long (sgn (tb f k) 35 8)]) (rest := []) ⟨hx, hb, hml, hown, hts⟩ (c_B_isTime l dC dI _ (sgn (tb f k) 35 8) ) (kw_S 1 hts bw3_73 bw3_74 bw1_1 bw3_75 rfl rfl (by decide +kernel) ⟨Nat.le_of_ble_eq_true rfl, Nat.le_of_ble_eq_true rfl⟩) (kp_S (wc := []) (tc := []) (av := [.long (sgn (tb f k) 35 8)]) hG hS hA hP hD hK [] rfl (by decide) rfl [] rfl) rfl rfl hl.1 rfl (lv_room (Nat.le_of_ble_eq_true rfl)) dc_B_wrongField_133 ⟨Nat.zero_le _, Nat.zero_le _⟩) (fun r_16 _ H locs hw hP hD hK1 hS => ?_)
              subst hw
              have hP : va_P (dC, dI) vwCl [(aB, .inr (6, [.ref aT, .ref aF, .ref aQ, .int fk, .int fp])), (aT, .inr (5, [.ref aR, .int (nI k), .int ch])), (aR, .inl (cA, n, .inl f))] H := hP
              have hD : va_D A [(aB, .inr (6, [.ref aT, .ref aF, .ref aQ, .int fk, .int fp])), (aT, .inr (5, [.ref aR, .int (nI k), .int ch])), (aR, .inl (cA, n, .inl f))] := hD
              refine lv_if_ne (tgt := 142) hx hb dc_B_wrongField_136 (by decide) (fun c_17 => ?_) (fun c_17 => ?_)
              · refine lv_aload_n hx hb dc_B_wrongField_142 rfl (lv_at hl 0 rfl) ?_
                refine kc_i (wc := [(aB, .inr (6, [.ref aT, .ref aF, .ref aQ, .int fk, .int fp])), (aT, .inr (5, [.ref aR, .int (nI k), .int ch])), (aR, .inl (cA, n, .inl f))]) (wr := []) hP hD hS hA [0, 1, 2] [] rfl rfl (by decide) (by decide) (va_runV (As := []) (rest := []) ⟨hx, hb, hml, hown, hts⟩ (c_B_wrongFieldFromProducer l dC dI _ aB aF aQ fk fp aT aR cA n f k ch (by omega) (by omega)) (kw_V 0 hts bw3_77 bw3_79 bws_8 bw1_1 bw3_80 rfl rfl (by decide +kernel) ⟨Nat.le_of_ble_eq_true rfl, Nat.le_of_ble_eq_true rfl⟩) (kp_V (wc := [(aB, .inr (6, [.ref aT, .ref aF, .ref aQ, .int fk, .int fp])), (aT, .inr (5, [.ref aR, .int (nI k), .int ch])), (aR, .inl (cA, n, .inl f))]) (tc := [(cA, .byte)]) (As := []) hG hS hA hP hD hK [0, 1, 2] rfl (by decide) rfl [0] rfl (ci := 6) (q0 := 0) rfl rfl) rfl rfl hl.1 rfl (lv_room (Nat.le_of_ble_eq_true rfl)) dc_B_wrongField_143 ⟨Nat.zero_le _, Nat.zero_le _⟩) (fun r_18 _ H locs hw hP hD hK1 hS => ?_)
                subst hw
                have hP : va_P (dC, dI) vwCl [(aB, .inr (6, [.ref aT, .ref aF, .ref aQ, .int fk, .int fp])), (aT, .inr (5, [.ref aR, .int (nI k), .int ch])), (aR, .inl (cA, n, .inl f))] H := hP
                have hD : va_D A [(aB, .inr (6, [.ref aT, .ref aF, .ref aQ, .int fk, .int fp])), (aT, .inr (5, [.ref aR, .int (nI k), .int ch])), (aR, .inl (cA, n, .inl f))] := hD
                have hP9 := hP.sub (ws' := [(aB, .inr (6, [.ref aT, .ref aF, .ref aQ, .int fk, .int fp])), (aT, .inr (5, [.ref aR, .int (nI k), .int ch])), (aR, .inl (cA, n, .inl f))]) [0, 1, 2] rfl
                have hD9 := hD.sub (ws' := [(aB, .inr (6, [.ref aT, .ref aF, .ref aQ, .int fk, .int fp])), (aT, .inr (5, [.ref aR, .int (nI k), .int ch])), (aR, .inl (cA, n, .inl f))]) [0, 1, 2] (by decide) rfl
                have hK9 := hK.sub (tys' := [(cA, .byte)]) [0] rfl
                exact W.iret (v := (wpC (tb f k))) hx hb hr (fun t ht hW => ⟨⟨(wpC (tb f k)), (), rfl, by unfold wfC; rw [if_pos c_2, if_pos c_4, if_pos c_6, if_pos c_8, if_pos c_11, if_neg c_14, if_neg c_17], by rw [ht]; exact hP9, va_K.moved hW.alike hK9, hD9⟩, hS.F ht⟩) hS.2.2 dc_B_wrongField_146
              · refine lv_bipush (v := 35) hx hb dc_B_wrongField_139 (by decide) ?_
                have hP9 := hP.sub (ws' := [(aB, .inr (6, [.ref aT, .ref aF, .ref aQ, .int fk, .int fp])), (aT, .inr (5, [.ref aR, .int (nI k), .int ch])), (aR, .inl (cA, n, .inl f))]) [0, 1, 2] rfl
                have hD9 := hD.sub (ws' := [(aB, .inr (6, [.ref aT, .ref aF, .ref aQ, .int fk, .int fp])), (aT, .inr (5, [.ref aR, .int (nI k), .int ch])), (aR, .inl (cA, n, .inl f))]) [0, 1, 2] (by decide) rfl
                have hK9 := hK.sub (tys' := [(cA, .byte)]) [0] rfl
                exact W.iret (v := 35) hx hb hr (fun t ht hW => ⟨⟨35, (), rfl, by unfold wfC; rw [if_pos c_2, if_pos c_4, if_pos c_6, if_pos c_8, if_pos c_11, if_neg c_14, if_pos c_17], by rw [ht]; exact hP9, va_K.moved hW.alike hK9, hD9⟩, hS.F ht⟩) hS.2.2 dc_B_wrongField_141
            · refine lv_bipush (v := 27) hx hb dc_B_wrongField_119 (by decide) ?_
              have hP9 := hP.sub (ws' := [(aB, .inr (6, [.ref aT, .ref aF, .ref aQ, .int fk, .int fp])), (aT, .inr (5, [.ref aR, .int (nI k), .int ch])), (aR, .inl (cA, n, .inl f))]) [0, 1, 2] rfl
              have hD9 := hD.sub (ws' := [(aB, .inr (6, [.ref aT, .ref aF, .ref aQ, .int fk, .int fp])), (aT, .inr (5, [.ref aR, .int (nI k), .int ch])), (aR, .inl (cA, n, .inl f))]) [0, 1, 2] (by decide) rfl
              have hK9 := hK.sub (tys' := [(cA, .byte)]) [0] rfl
              exact W.iret (v := 27) hx hb hr (fun t ht hW => ⟨⟨27, (), rfl, by unfold wfC; rw [if_pos c_2, if_pos c_4, if_pos c_6, if_pos c_8, if_pos c_11, if_pos c_14], by rw [ht]; exact hP9, va_K.moved hW.alike hK9, hD9⟩, hS.F ht⟩) hS.2.2 dc_B_wrongField_121
          · have c_11 : ¬ ((sgn (tb f k) 23 4) = ((sgn (tb f k) 57 4) - 1)) := fun h => c_11 ((lg_cmp_eq _ _).mpr h)
            refine lv_bipush (v := 23) hx hb dc_B_wrongField_99 (by decide) ?_
            have hP9 := hP.sub (ws' := [(aB, .inr (6, [.ref aT, .ref aF, .ref aQ, .int fk, .int fp])), (aT, .inr (5, [.ref aR, .int (nI k), .int ch])), (aR, .inl (cA, n, .inl f))]) [0, 1, 2] rfl
            have hD9 := hD.sub (ws' := [(aB, .inr (6, [.ref aT, .ref aF, .ref aQ, .int fk, .int fp])), (aT, .inr (5, [.ref aR, .int (nI k), .int ch])), (aR, .inl (cA, n, .inl f))]) [0, 1, 2] (by decide) rfl
            have hK9 := hK.sub (tys' := [(cA, .byte)]) [0] rfl
            exact W.iret (v := 23) hx hb hr (fun t ht hW => ⟨⟨23, (), rfl, by unfold wfC; rw [if_pos c_2, if_pos c_4, if_pos c_6, if_pos c_8, if_neg c_11], by rw [ht]; exact hP9, va_K.moved hW.alike hK9, hD9⟩, hS.F ht⟩) hS.2.2 dc_B_wrongField_101
        · have c_8 : ¬ ((sgn (tb f k) 21 2) = 0) := fun h => c_8 ((lg_cmp_eq _ _).mpr h)
          refine lv_bipush (v := 21) hx hb dc_B_wrongField_70 (by decide) ?_
          have hP9 := hP.sub (ws' := [(aB, .inr (6, [.ref aT, .ref aF, .ref aQ, .int fk, .int fp])), (aT, .inr (5, [.ref aR, .int (nI k), .int ch])), (aR, .inl (cA, n, .inl f))]) [0, 1, 2] rfl
          have hD9 := hD.sub (ws' := [(aB, .inr (6, [.ref aT, .ref aF, .ref aQ, .int fk, .int fp])), (aT, .inr (5, [.ref aR, .int (nI k), .int ch])), (aR, .inl (cA, n, .inl f))]) [0, 1, 2] (by decide) rfl
          have hK9 := hK.sub (tys' := [(cA, .byte)]) [0] rfl
          exact W.iret (v := 21) hx hb hr (fun t ht hW => ⟨⟨21, (), rfl, by unfold wfC; rw [if_pos c_2, if_pos c_4, if_pos c_6, if_neg c_8], by rw [ht]; exact hP9, va_K.moved hW.alike hK9, hD9⟩, hS.F ht⟩) hS.2.2 dc_B_wrongField_72
      · have c_6 : ¬ ((sgn (tb f k) 16 1) = 2) := fun h => c_6 ((lg_cmp_eq _ _).mpr h)
        refine lv_bipush (v := 16) hx hb dc_B_wrongField_52 (by decide) ?_
        have hP9 := hP.sub (ws' := [(aB, .inr (6, [.ref aT, .ref aF, .ref aQ, .int fk, .int fp])), (aT, .inr (5, [.ref aR, .int (nI k), .int ch])), (aR, .inl (cA, n, .inl f))]) [0, 1, 2] rfl
        have hD9 := hD.sub (ws' := [(aB, .inr (6, [.ref aT, .ref aF, .ref aQ, .int fk, .int fp])), (aT, .inr (5, [.ref aR, .int (nI k), .int ch])), (aR, .inl (cA, n, .inl f))]) [0, 1, 2] (by decide) rfl
        have hK9 := hK.sub (tys' := [(cA, .byte)]) [0] rfl
        exact W.iret (v := 16) hx hb hr (fun t ht hW => ⟨⟨16, (), rfl, by unfold wfC; rw [if_pos c_2, if_pos c_4, if_neg c_6], by rw [ht]; exact hP9, va_K.moved hW.alike hK9, hD9⟩, hS.F ht⟩) hS.2.2 dc_B_wrongField_54
    · have c_4 : ¬ ((sgn (tb f k) 12 4) = 0) := fun h => c_4 ((lg_cmp_eq _ _).mpr h)
      refine lv_bipush (v := 12) hx hb dc_B_wrongField_32 (by decide) ?_
      have hP9 := hP.sub (ws' := [(aB, .inr (6, [.ref aT, .ref aF, .ref aQ, .int fk, .int fp])), (aT, .inr (5, [.ref aR, .int (nI k), .int ch])), (aR, .inl (cA, n, .inl f))]) [0, 1, 2] rfl
      have hD9 := hD.sub (ws' := [(aB, .inr (6, [.ref aT, .ref aF, .ref aQ, .int fk, .int fp])), (aT, .inr (5, [.ref aR, .int (nI k), .int ch])), (aR, .inl (cA, n, .inl f))]) [0, 1, 2] (by decide) rfl
      have hK9 := hK.sub (tys' := [(cA, .byte)]) [0] rfl
      exact W.iret (v := 12) hx hb hr (fun t ht hW => ⟨⟨12, (), rfl, by unfold wfC; rw [if_pos c_2, if_neg c_4], by rw [ht]; exact hP9, va_K.moved hW.alike hK9, hD9⟩, hS.F ht⟩) hS.2.2 dc_B_wrongField_34
  · have c_2 : ¬ ((sgn (tb f k) 0 8) = 0) := fun h => c_2 ((lg_cmp_eq _ _).mpr h)
    refine lv_iconst (v := 0) hx hb dc_B_wrongField_15 (by decide) ?_
    have hP9 := hP.sub (ws' := [(aB, .inr (6, [.ref aT, .ref aF, .ref aQ, .int fk, .int fp])), (aT, .inr (5, [.ref aR, .int (nI k), .int ch])), (aR, .inl (cA, n, .inl f))]) [0, 1, 2] rfl
    have hD9 := hD.sub (ws' := [(aB, .inr (6, [.ref aT, .ref aF, .ref aQ, .int fk, .int fp])), (aT, .inr (5, [.ref aR, .int (nI k), .int ch])), (aR, .inl (cA, n, .inl f))]) [0, 1, 2] (by decide) rfl
    have hK9 := hK.sub (tys' := [(cA, .byte)]) [0] rfl
    exact W.iret (v := 0) hx hb hr (fun t ht hW => ⟨⟨0, (), rfl, by unfold wfC; rw [if_neg c_2], by rw [ht]; exact hP9, va_K.moved hW.alike hK9, hD9⟩, hS.F ht⟩) hS.2.2 dc_B_wrongField_16
