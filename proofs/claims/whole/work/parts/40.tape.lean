set_option maxHeartbeats 1000000 in
set_option maxRecDepth 100000 in
theorem c_T_has (l : Launch) (dC : Nat → ClassId) (dI : Nat → Nat → Nat) (sz : Nat) (aT : Nat) (aR : Nat) (cA : ClassId) (n : Nat) (f : Nat → Int32) (k : Nat) (ch : Int32) (i : Int32) (hk : k ≤ n) (hn : n ≤ 16384) : Met l my_T_has (wB my_T_has cd_T_has 2 (some .boolean)) ({ frames := 0, cells := 0, slots := 0, locals := 0 }) (va_Pc [.ref aT, .int i] (PcW (dC, dI) [(aT, .inr (5, [.ref aR, .int (nI k), .int ch])), (aR, .inl (cA, n, .inl f))] [(cA, .byte)] sz)) (va_Qi (fun (r : Int32) => fun (_ : Unit) => r = hasC k i) (fun _ => EnW (dC, dI) (va_A [(aT, .inr (5, [.ref aR, .int (nI k), .int ch])), (aR, .inl (cA, n, .inl f))] sz) [(aT, .inr (5, [.ref aR, .int (nI k), .int ch])), (aR, .inl (cA, n, .inl f))] [(cA, .byte)]) (va_A [(aT, .inr (5, [.ref aR, .int (nI k), .int ch])), (aR, .inl (cA, n, .inl f))] sz)) 0 0 (va_A [(aT, .inr (5, [.ref aR, .int (nI k), .int ch])), (aR, .inl (cA, n, .inl f))] sz) := by
  refine Met.ofW (cc := cd_T_has) (maxL := 2) (ret := (some .boolean)) (by decide) rfl ?_
  intro p e s m args below meth c s₁ B hml hv
  obtain ⟨rfl, hsz, hP, hK, hD0, hG⟩ := hv
  have hx := B.exec
  have hb := B.bytes
  have hr := B.returns
  have hts := fun (w : Cond) (h : w ∈ bigT) => atoms_spec (ws := (wB my_T_has cd_T_has 2 (some .boolean))) B.pre w (List.mem_cons_of_mem _ h)
  have hown : s.vm.findClass rn_T = some m.cls := findClass_of_methodNamed B.named
  have hlocks := B.notSynchronized
  subst hsz
  have hD := hD0.self (sz := s.heap.size)
  generalize hAe : va_A [(aT, .inr (5, [.ref aR, .int (nI k), .int ch])), (aR, .inl (cA, n, .inl f))] s.heap.size = A at hD hG ⊢
  have hA : ∀ q : Nat, s.heap.size ≤ q → A q := fun q h => by rw [← hAe]; exact Or.inr h
  have hS : va_S A s.heap s.heap [] := va_S.rf
  have hP : va_P (dC, dI) vwCl [(aT, .inr (5, [.ref aR, .int (nI k), .int ch])), (aR, .inl (cA, n, .inl f))] s.heap := hP
  have hl := lv_entry ([.ref aT, .int i]) (n := 2) (Nat.le_of_ble_eq_true rfl)
  rw [lg_entry_eq]
  generalize (lg_sl ([.ref aT, .int i]) ++ List.replicate (2 - (lg_sl ([.ref aT, .int i])).length) Slot.unset).toArray = ls at hl ⊢
  have hl : lv_has ls 2 [(0, .ref aT), (1, .int i)] := hl
  refine lv_iload_n hx hb dc_T_has_0 rfl (lv_at hl 1 rfl) ?_
  refine w_join (σ := Int32) (fun v17_0 H locs ls => v17_0 = (if i < 0 then 0 else if (nI k) ≤ i then 0 else 1) ∧ va_P (dC, dI) vwCl [(aT, .inr (5, [.ref aR, .int (nI k), .int ch])), (aR, .inl (cA, n, .inl f))] H ∧ va_D A [(aT, .inr (5, [.ref aR, .int (nI k), .int ch])), (aR, .inl (cA, n, .inl f))] ∧ va_S A s.heap H locs ∧ lv_has ls 2 [(0, .ref aT), (1, .int i)]) (fun v17_0 ls => F0 m 17 ls [.int v17_0]) ?_ (fun hJ17 => ?_)
  · rintro v17_0 H locs ls ⟨ev17_0, hP, hD, hS, hl⟩
    have hP : va_P (dC, dI) vwCl [(aT, .inr (5, [.ref aR, .int (nI k), .int ch])), (aR, .inl (cA, n, .inl f))] H := hP
    have hD : va_D A [(aT, .inr (5, [.ref aR, .int (nI k), .int ch])), (aR, .inl (cA, n, .inl f))] := hD
    have hl : lv_has ls 2 [(0, .ref aT), (1, .int i)] := hl
    show W _ _ _ _ _ _ _ _ _ _ _ _ _ _ _ (F0 m 17 ls [.int v17_0])
    have h01v17_0 : v17_0 = 0 ∨ v17_0 = 1 := by rw [ev17_0]; exact i01 (Or.inl rfl) (i01 (Or.inl rfl) (Or.inr rfl))
    have hP9 := hP.sub (ws' := [(aT, .inr (5, [.ref aR, .int (nI k), .int ch])), (aR, .inl (cA, n, .inl f))]) [0, 1] rfl
    have hD9 := hD.sub (ws' := [(aT, .inr (5, [.ref aR, .int (nI k), .int ch])), (aR, .inl (cA, n, .inl f))]) [0, 1] (by decide) rfl
    have hK9 := hK.sub (tys' := [(cA, .byte)]) [0] rfl
    exact W.zret (v := v17_0) hx hb hr (by rcases h01v17_0 with h | h <;> rw [h] <;> rfl) (fun t ht hW => ⟨⟨v17_0, (), rfl, ev17_0.trans rfl, by rw [ht]; exact hP9, va_K.moved hW.alike hK9, hD9⟩, hS.F ht⟩) hS.2.2 dc_T_has_17
  · refine lv_if_lt (tgt := 16) hx hb dc_T_has_1 (by decide) (fun c_1 => ?_) (fun c_1 => ?_)
    · refine lv_iconst (v := 0) hx hb dc_T_has_16 (by decide) ?_
      exact hJ17 0 _ _ _ ⟨by rw [if_pos c_1], hP.sub [0, 1] rfl, hD.sub [0, 1] (by decide) rfl, hS, lv_sub hl [0, 1] rfl⟩
    · refine lv_iload_n hx hb dc_T_has_4 rfl (lv_at hl 1 rfl) ?_
      refine lv_aload_n hx hb dc_T_has_5 rfl (lv_at hl 0 rfl) ?_
      refine va_get (D := (dC, dI)) (ci := 5) (v := .int (nI k)) (C := rn_T) (T := ft_T) (N := 3) hx hb hts fw_T hown hK hP 0 rfl rfl 1 (by decide) (hts _ bw1_37) (fun _ h9 => h9) rfl dc_T_has_6 ?_
      refine lv_icmp_ge (tgt := 16) hx hb dc_T_has_9 (by decide) (fun c_2 => ?_) (fun c_2 => ?_)
      · refine lv_iconst (v := 0) hx hb dc_T_has_16 (by decide) ?_
        exact hJ17 0 _ _ _ ⟨by rw [if_neg c_1, if_pos c_2], hP.sub [0, 1] rfl, hD.sub [0, 1] (by decide) rfl, hS, lv_sub hl [0, 1] rfl⟩
      · refine lv_iconst (v := 1) hx hb dc_T_has_12 (by decide) ?_
        refine lv_goto (tgt := 17) hx hb dc_T_has_13 (by decide) ?_
        exact hJ17 1 _ _ _ ⟨by rw [if_neg c_1, if_neg c_2], hP.sub [0, 1] rfl, hD.sub [0, 1] (by decide) rfl, hS, lv_sub hl [0, 1] rfl⟩

set_option maxHeartbeats 1000000 in
set_option maxRecDepth 100000 in
theorem c_T_get (l : Launch) (dC : Nat → ClassId) (dI : Nat → Nat → Nat) (sz : Nat) (aT : Nat) (aR : Nat) (cA : ClassId) (n : Nat) (f : Nat → Int32) (k : Nat) (ch : Int32) (i : Int32) (hk : k ≤ n) (hn : n ≤ 16384) : Met l my_T_get (wB my_T_get cd_T_get 2 (some .int)) ({ frames := 0, cells := 0, slots := 0, locals := 0 }) (va_Pc [.ref aT, .int i] (PcW (dC, dI) [(aT, .inr (5, [.ref aR, .int (nI k), .int ch])), (aR, .inl (cA, n, .inl f))] [(cA, .byte)] sz)) (va_Qi (fun (r : Int32) => fun (_ : Unit) => r = tb f k i) (fun _ => EnW (dC, dI) (va_A [(aT, .inr (5, [.ref aR, .int (nI k), .int ch])), (aR, .inl (cA, n, .inl f))] sz) [(aT, .inr (5, [.ref aR, .int (nI k), .int ch])), (aR, .inl (cA, n, .inl f))] [(cA, .byte)]) (va_A [(aT, .inr (5, [.ref aR, .int (nI k), .int ch])), (aR, .inl (cA, n, .inl f))] sz)) 0 0 (va_A [(aT, .inr (5, [.ref aR, .int (nI k), .int ch])), (aR, .inl (cA, n, .inl f))] sz) := by
  refine Met.ofW (cc := cd_T_get) (maxL := 2) (ret := (some .int)) (by decide) rfl ?_
  intro p e s m args below meth c s₁ B hml hv
  obtain ⟨rfl, hsz, hP, hK, hD0, hG⟩ := hv
  have hx := B.exec
  have hb := B.bytes
  have hr := B.returns
  have hts := fun (w : Cond) (h : w ∈ bigT) => atoms_spec (ws := (wB my_T_get cd_T_get 2 (some .int))) B.pre w (List.mem_cons_of_mem _ h)
  have hown : s.vm.findClass rn_T = some m.cls := findClass_of_methodNamed B.named
  have hlocks := B.notSynchronized
  subst hsz
  have hD := hD0.self (sz := s.heap.size)
  generalize hAe : va_A [(aT, .inr (5, [.ref aR, .int (nI k), .int ch])), (aR, .inl (cA, n, .inl f))] s.heap.size = A at hD hG ⊢
  have hA : ∀ q : Nat, s.heap.size ≤ q → A q := fun q h => by rw [← hAe]; exact Or.inr h
  have hS : va_S A s.heap s.heap [] := va_S.rf
  have hP : va_P (dC, dI) vwCl [(aT, .inr (5, [.ref aR, .int (nI k), .int ch])), (aR, .inl (cA, n, .inl f))] s.heap := hP
  have hl := lv_entry ([.ref aT, .int i]) (n := 2) (Nat.le_of_ble_eq_true rfl)
  rw [lg_entry_eq]
  generalize (lg_sl ([.ref aT, .int i]) ++ List.replicate (2 - (lg_sl ([.ref aT, .int i])).length) Slot.unset).toArray = ls at hl ⊢
  have hl : lv_has ls 2 [(0, .ref aT), (1, .int i)] := hl
  refine lv_iload_n hx hb dc_T_get_0 rfl (lv_at hl 1 rfl) ?_
  refine w_join (σ := Int32) (fun v26_0 H locs ls => v26_0 = (if i < 0 then 0 else if (nI k) ≤ i then 0 else (f i.toNatClampNeg) &&& 255) ∧ va_P (dC, dI) vwCl [(aT, .inr (5, [.ref aR, .int (nI k), .int ch])), (aR, .inl (cA, n, .inl f))] H ∧ va_D A [(aT, .inr (5, [.ref aR, .int (nI k), .int ch])), (aR, .inl (cA, n, .inl f))] ∧ va_S A s.heap H locs ∧ lv_has ls 2 [(0, .ref aT), (1, .int i)]) (fun v26_0 ls => F0 m 26 ls [.int v26_0]) ?_ (fun hJ26 => ?_)
  · rintro v26_0 H locs ls ⟨ev26_0, hP, hD, hS, hl⟩
    have hP : va_P (dC, dI) vwCl [(aT, .inr (5, [.ref aR, .int (nI k), .int ch])), (aR, .inl (cA, n, .inl f))] H := hP
    have hD : va_D A [(aT, .inr (5, [.ref aR, .int (nI k), .int ch])), (aR, .inl (cA, n, .inl f))] := hD
    have hl : lv_has ls 2 [(0, .ref aT), (1, .int i)] := hl
    show W _ _ _ _ _ _ _ _ _ _ _ _ _ _ _ (F0 m 26 ls [.int v26_0])
    have hP9 := hP.sub (ws' := [(aT, .inr (5, [.ref aR, .int (nI k), .int ch])), (aR, .inl (cA, n, .inl f))]) [0, 1] rfl
    have hD9 := hD.sub (ws' := [(aT, .inr (5, [.ref aR, .int (nI k), .int ch])), (aR, .inl (cA, n, .inl f))]) [0, 1] (by decide) rfl
    have hK9 := hK.sub (tys' := [(cA, .byte)]) [0] rfl
    exact W.iret (v := v26_0) hx hb hr (fun t ht hW => ⟨⟨v26_0, (), rfl, ev26_0.trans rfl, by rw [ht]; exact hP9, va_K.moved hW.alike hK9, hD9⟩, hS.F ht⟩) hS.2.2 dc_T_get_26
  · refine lv_if_lt (tgt := 25) hx hb dc_T_get_1 (by decide) (fun c_1 => ?_) (fun c_1 => ?_)
    · refine lv_iconst (v := 0) hx hb dc_T_get_25 (by decide) ?_
      exact hJ26 0 _ _ _ ⟨by rw [if_pos c_1], hP.sub [0, 1] rfl, hD.sub [0, 1] (by decide) rfl, hS, lv_sub hl [0, 1] rfl⟩
    · have hi1 := c_1
      refine lv_iload_n hx hb dc_T_get_4 rfl (lv_at hl 1 rfl) ?_
      refine lv_aload_n hx hb dc_T_get_5 rfl (lv_at hl 0 rfl) ?_
      refine va_get (D := (dC, dI)) (ci := 5) (v := .int (nI k)) (C := rn_T) (T := ft_T) (N := 3) hx hb hts fw_T hown hK hP 0 rfl rfl 1 (by decide) (hts _ bw1_37) (fun _ h9 => h9) rfl dc_T_get_6 ?_
      refine lv_icmp_ge (tgt := 25) hx hb dc_T_get_9 (by decide) (fun c_2 => ?_) (fun c_2 => ?_)
      · refine lv_iconst (v := 0) hx hb dc_T_get_25 (by decide) ?_
        exact hJ26 0 _ _ _ ⟨by rw [if_neg c_1, if_pos c_2], hP.sub [0, 1] rfl, hD.sub [0, 1] (by decide) rfl, hS, lv_sub hl [0, 1] rfl⟩
      · have h17 : vp_in i n := in_of hi1 c_2 hk (by omega)
        refine lv_aload_n hx hb dc_T_get_12 rfl (lv_at hl 0 rfl) ?_
        refine va_get (D := (dC, dI)) (ci := 5) (v := .ref aR) (C := rn_T) (T := ft_T) (N := 3) hx hb hts fw_T hown hK hP 0 rfl rfl 0 (by decide) (hts _ bw1_36) (fun _ h9 => h9) rfl dc_T_get_13 ?_
        refine lv_iload_n hx hb dc_T_get_16 rfl (lv_at hl 1 rfl) ?_
        refine va_bald hx hb hK hP 1 0 rfl rfl h17 dc_T_get_17 ?_
        refine lv_sipush (v := 255) hx hb dc_T_get_18 (by decide) ?_
        refine lv_iand hx hb dc_T_get_21 ?_
        refine lv_goto (tgt := 26) hx hb dc_T_get_22 (by decide) ?_
        exact hJ26 ((f i.toNatClampNeg) &&& 255) _ _ _ ⟨by rw [if_neg c_1, if_neg c_2], hP.sub [0, 1] rfl, hD.sub [0, 1] (by decide) rfl, hS, lv_sub hl [0, 1] rfl⟩

set_option maxHeartbeats 1000000 in
set_option maxRecDepth 100000 in
theorem c_T_makeRoom0 (l : Launch) (dC : Nat → ClassId) (dI : Nat → Nat → Nat) (sz : Nat) (aT : Nat) (aR : Nat) (cA : ClassId) (n : Nat) (f : Nat → Int32) (k : Nat) (ch : Int32) (j : Nat) (hk : k ≤ n) (hn : n ≤ 16384) (hm : k + j ≤ n) : Met l my_T_makeRoom (wB my_T_makeRoom cd_T_makeRoom 3 none) ({ frames := 0, cells := 0, slots := 0, locals := 0 }) (va_Pc [.ref aT, .int (nI j)] (PcW (dC, dI) [(aT, .inr (5, [.ref aR, .int (nI k), .int ch])), (aR, .inl (cA, n, .inl f))] [(cA, .byte)] sz)) (va_Qv (fun (_ : Unit) => True) (fun _ => EnW (dC, dI) (va_A [(aT, .inr (5, [.ref aR, .int (nI k), .int ch])), (aR, .inl (cA, n, .inl f))] sz) [(aT, .inr (5, [.ref aR, .int (nI k), .int ch])), (aR, .inl (cA, n, .inl f))] [(cA, .byte)]) (va_A [(aT, .inr (5, [.ref aR, .int (nI k), .int ch])), (aR, .inl (cA, n, .inl f))] sz)) 0 0 (va_A [(aT, .inr (5, [.ref aR, .int (nI k), .int ch])), (aR, .inl (cA, n, .inl f))] sz) := by
  refine Met.ofW (cc := cd_T_makeRoom) (maxL := 3) (ret := none) (by decide) rfl ?_
  intro p e s m args below meth c s₁ B hml hv
  obtain ⟨rfl, hsz, hP, hK, hD0, hG⟩ := hv
  have hx := B.exec
  have hb := B.bytes
  have hr := B.returns
  have hts := fun (w : Cond) (h : w ∈ bigT) => atoms_spec (ws := (wB my_T_makeRoom cd_T_makeRoom 3 none)) B.pre w (List.mem_cons_of_mem _ h)
  have hown : s.vm.findClass rn_T = some m.cls := findClass_of_methodNamed B.named
  have hlocks := B.notSynchronized
  subst hsz
  have hD := hD0.self (sz := s.heap.size)
  generalize hAe : va_A [(aT, .inr (5, [.ref aR, .int (nI k), .int ch])), (aR, .inl (cA, n, .inl f))] s.heap.size = A at hD hG ⊢
  have hA : ∀ q : Nat, s.heap.size ≤ q → A q := fun q h => by rw [← hAe]; exact Or.inr h
  have hS : va_S A s.heap s.heap [] := va_S.rf
  have hP : va_P (dC, dI) vwCl [(aT, .inr (5, [.ref aR, .int (nI k), .int ch])), (aR, .inl (cA, n, .inl f))] s.heap := hP
  have hl := lv_entry ([.ref aT, .int (nI j)]) (n := 3) (Nat.le_of_ble_eq_true rfl)
  rw [lg_entry_eq]
  generalize (lg_sl ([.ref aT, .int (nI j)]) ++ List.replicate (3 - (lg_sl ([.ref aT, .int (nI j)])).length) Slot.unset).toArray = ls at hl ⊢
  have hl : lv_has ls 3 [(0, .ref aT), (1, .int (nI j))] := hl
  refine lv_aload_n hx hb dc_T_makeRoom_0 rfl (lv_at hl 0 rfl) ?_
  refine va_get (D := (dC, dI)) (ci := 5) (v := .int (nI k)) (C := rn_T) (T := ft_T) (N := 3) hx hb hts fw_T hown hK hP 0 rfl rfl 1 (by decide) (hts _ bw1_37) (fun _ h9 => h9) rfl dc_T_makeRoom_1 ?_
  refine lv_iload_n hx hb dc_T_makeRoom_4 rfl (lv_at hl 1 rfl) ?_
  refine lv_iadd hx hb dc_T_makeRoom_5 ?_
  refine lv_aload_n hx hb dc_T_makeRoom_6 rfl (lv_at hl 0 rfl) ?_
  refine va_get (D := (dC, dI)) (ci := 5) (v := .ref aR) (C := rn_T) (T := ft_T) (N := 3) hx hb hts fw_T hown hK hP 0 rfl rfl 0 (by decide) (hts _ bw1_36) (fun _ h9 => h9) rfl dc_T_makeRoom_7 ?_
  refine va_alen (v := nI n) hx hb hK hP 1 0 rfl rfl rfl dc_T_makeRoom_10 ?_
  refine w_join (σ := Unit) (fun v49_ H locs ls => va_P (dC, dI) vwCl [(aT, .inr (5, [.ref aR, .int (nI k), .int ch])), (aR, .inl (cA, n, .inl f))] H ∧ va_D A [(aT, .inr (5, [.ref aR, .int (nI k), .int ch])), (aR, .inl (cA, n, .inl f))] ∧ va_S A s.heap H locs ∧ lv_has ls 3 [(0, .ref aT), (1, .int (nI j))]) (fun v49_ ls => F0 m 49 ls []) ?_ (fun hJ49 => ?_)
  · rintro v49_ H locs ls ⟨hP, hD, hS, hl⟩
    have hP : va_P (dC, dI) vwCl [(aT, .inr (5, [.ref aR, .int (nI k), .int ch])), (aR, .inl (cA, n, .inl f))] H := hP
    have hD : va_D A [(aT, .inr (5, [.ref aR, .int (nI k), .int ch])), (aR, .inl (cA, n, .inl f))] := hD
    have hl : lv_has ls 3 [(0, .ref aT), (1, .int (nI j))] := hl
    show W _ _ _ _ _ _ _ _ _ _ _ _ _ _ _ (F0 m 49 ls [])
    have hP9 := hP.sub (ws' := [(aT, .inr (5, [.ref aR, .int (nI k), .int ch])), (aR, .inl (cA, n, .inl f))]) [0, 1] rfl
    have hD9 := hD.sub (ws' := [(aT, .inr (5, [.ref aR, .int (nI k), .int ch])), (aR, .inl (cA, n, .inl f))]) [0, 1] (by decide) rfl
    have hK9 := hK.sub (tys' := [(cA, .byte)]) [0] rfl
    exact W.vret hx hb hr (fun t ht hW => ⟨⟨(), rfl, trivial, by rw [ht]; exact hP9, va_K.moved hW.alike hK9, hD9⟩, hS.F ht⟩) hS.2.2 dc_T_makeRoom_49
  · refine lv_icmp_le (tgt := 49) hx hb dc_T_makeRoom_11 (by decide) (fun c_1 => ?_) (fun c_1 => ?_)
    · exact hJ49 () _ _ _ ⟨hP.sub [0, 1] rfl, hD.sub [0, 1] (by decide) rfl, hS, lv_sub hl [0, 1] rfl⟩
    · exact absurd (by rw [nI_add]; exact nI_le hm (by omega)) c_1

set_option maxHeartbeats 1000000 in
set_option maxRecDepth 100000 in
theorem c_T_add (l : Launch) (dC : Nat → ClassId) (dI : Nat → Nat → Nat) (sz : Nat) (aT : Nat) (aR : Nat) (cA : ClassId) (n : Nat) (f : Nat → Int32) (k : Nat) (ch : Int32) (x : Int32) (hk : k < n) (hn : n ≤ 16384) : Met l my_T_add (wB my_T_add cd_T_add 2 none) ({ frames := 1, cells := 0, slots := 0, locals := 22 }) (va_Pc [.ref aT, .int x] (PcW (dC, dI) [(aT, .inr (5, [.ref aR, .int (nI k), .int ch])), (aR, .inl (cA, n, .inl f))] [(cA, .byte)] sz)) (va_Qv (fun (_ : Unit) => True) (fun _ => EnW (dC, dI) (va_A [(aT, .inr (5, [.ref aR, .int (nI k), .int ch])), (aR, .inl (cA, n, .inl f))] sz) [(aT, .inr (5, [.ref aR, .int (nI (k + 1)), .int 1])), (aR, .inl (cA, n, .inl (upd f k x.toInt8.toInt32)))] [(cA, .byte)]) (va_A [(aT, .inr (5, [.ref aR, .int (nI k), .int ch])), (aR, .inl (cA, n, .inl f))] sz)) 0 0 (va_A [(aT, .inr (5, [.ref aR, .int (nI k), .int ch])), (aR, .inl (cA, n, .inl f))] sz) := by
  refine Met.ofW (cc := cd_T_add) (maxL := 2) (ret := none) (by decide) rfl ?_
  intro p e s m args below meth c s₁ B hml hv
  obtain ⟨rfl, hsz, hP, hK, hD0, hG⟩ := hv
  have hx := B.exec
  have hb := B.bytes
  have hr := B.returns
  have hts := fun (w : Cond) (h : w ∈ bigT) => atoms_spec (ws := (wB my_T_add cd_T_add 2 none)) B.pre w (List.mem_cons_of_mem _ h)
  have hown : s.vm.findClass rn_T = some m.cls := findClass_of_methodNamed B.named
  have hlocks := B.notSynchronized
  subst hsz
  have hD := hD0.self (sz := s.heap.size)
  generalize hAe : va_A [(aT, .inr (5, [.ref aR, .int (nI k), .int ch])), (aR, .inl (cA, n, .inl f))] s.heap.size = A at hD hG ⊢
  have hA : ∀ q : Nat, s.heap.size ≤ q → A q := fun q h => by rw [← hAe]; exact Or.inr h
  have hS : va_S A s.heap s.heap [] := va_S.rf
  have hP : va_P (dC, dI) vwCl [(aT, .inr (5, [.ref aR, .int (nI k), .int ch])), (aR, .inl (cA, n, .inl f))] s.heap := hP
  have hl := lv_entry ([.ref aT, .int x]) (n := 2) (Nat.le_of_ble_eq_true rfl)
  rw [lg_entry_eq]
  generalize (lg_sl ([.ref aT, .int x]) ++ List.replicate (2 - (lg_sl ([.ref aT, .int x])).length) Slot.unset).toArray = ls at hl ⊢
  have hl : lv_has ls 2 [(0, .ref aT), (1, .int x)] := hl
  refine lv_aload_n hx hb dc_T_add_0 rfl (lv_at hl 0 rfl) ?_
  refine lv_iconst (v := 1) hx hb dc_T_add_1 (by decide) ?_
  refine kc_v (wc := [(aT, .inr (5, [.ref aR, .int (nI k), .int ch])), (aR, .inl (cA, n, .inl f))]) (wr := []) hP hD hS hA [0, 1] [] rfl rfl (by decide) (by decide) (va_runV (As := [.int 1]) (rest := []) ⟨hx, hb, hml, hown, hts⟩ (c_T_makeRoom0 l dC dI _ aT aR cA n f k ch 1 (by omega) (by omega) (by omega)) (kw_V 1 hts bw2_71 bw2_40 bw2_41 bw1_2 bw2_42 rfl rfl (by decide +kernel) ⟨Nat.le_of_ble_eq_true rfl, Nat.le_of_ble_eq_true rfl⟩) (kp_V (wc := [(aT, .inr (5, [.ref aR, .int (nI k), .int ch])), (aR, .inl (cA, n, .inl f))]) (tc := [(cA, .byte)]) (As := [.int 1]) hG hS hA hP hD hK [0, 1] rfl (by decide) rfl [0] rfl (ci := 5) (q0 := 0) rfl rfl) rfl rfl hl.1 rfl (lv_room (Nat.le_of_ble_eq_true rfl)) dc_T_add_2 ⟨Nat.zero_le _, Nat.zero_le _⟩) (fun _ H locs hw hP hD hK1 hS => ?_)
  have hP : va_P (dC, dI) vwCl [(aT, .inr (5, [.ref aR, .int (nI k), .int ch])), (aR, .inl (cA, n, .inl f))] H := hP
  have hD : va_D A [(aT, .inr (5, [.ref aR, .int (nI k), .int ch])), (aR, .inl (cA, n, .inl f))] := hD
  refine lv_aload_n hx hb dc_T_add_5 rfl (lv_at hl 0 rfl) ?_
  refine va_get (D := (dC, dI)) (ci := 5) (v := .ref aR) (C := rn_T) (T := ft_T) (N := 3) hx hb hts fw_T hown hK hP 0 rfl rfl 0 (by decide) (hts _ bw1_36) (fun _ h9 => h9) rfl dc_T_add_6 ?_
  refine lv_aload_n hx hb dc_T_add_9 rfl (lv_at hl 0 rfl) ?_
  refine va_get (D := (dC, dI)) (ci := 5) (v := .int (nI k)) (C := rn_T) (T := ft_T) (N := 3) hx hb hts fw_T hown hK hP 0 rfl rfl 1 (by decide) (hts _ bw1_37) (fun _ h9 => h9) rfl dc_T_add_10 ?_
  refine lv_iload_n hx hb dc_T_add_13 rfl (lv_at hl 1 rfl) ?_
  refine lv_i2b (v := x.toInt8.toInt32) hx hb dc_T_add_14 rfl ?_
  refine va_bast hx hb hK hP hD hS 1 0 rfl rfl (vp_in_nI (by omega) (by omega)) dc_T_add_15 (fun H locs hP hD hS => ?_)
  rw [show (nI k).toNatClampNeg = k from nI_clamp (by omega)] at hP hD
  rw [pk_vb] at hP hD
  have hP : va_P (dC, dI) vwCl [(aT, .inr (5, [.ref aR, .int (nI k), .int ch])), (aR, .inl (cA, n, .inl (upd f k x.toInt8.toInt32)))] H := hP
  have hD : va_D A [(aT, .inr (5, [.ref aR, .int (nI k), .int ch])), (aR, .inl (cA, n, .inl (upd f k x.toInt8.toInt32)))] := hD
  refine lv_aload_n hx hb dc_T_add_16 rfl (lv_at hl 0 rfl) ?_
  refine lv_dup hx hb dc_T_add_17 rfl ?_
  refine va_get (D := (dC, dI)) (ci := 5) (v := .int (nI k)) (C := rn_T) (T := ft_T) (N := 3) hx hb hts fw_T hown hK hP 0 rfl rfl 1 (by decide) (hts _ bw1_37) (fun _ h9 => h9) rfl dc_T_add_18 ?_
  refine lv_iconst (v := 1) hx hb dc_T_add_21 (by decide) ?_
  refine lv_iadd hx hb dc_T_add_22 ?_
  refine va_put (D := (dC, dI)) (ci := 5) (v := .int ((nI k) + 1)) (ty := .int) (C := rn_T) (T := ft_T) (N := 3) hx hb hts fw_T fy_T fo_T fn_T hown hK hP hD hS 0 rfl rfl 1 (by decide) (hts _ bw1_37) (fun _ h9 => h9) rfl (by decide +kernel) rfl rfl (Nat.le_of_ble_eq_true rfl) dc_T_add_23 (fun H locs hP hD hS => ?_)
  have hP : va_P (dC, dI) vwCl [(aT, .inr (5, [.ref aR, .int ((nI k) + 1), .int ch])), (aR, .inl (cA, n, .inl (upd f k x.toInt8.toInt32)))] H := hP
  have hD : va_D A [(aT, .inr (5, [.ref aR, .int ((nI k) + 1), .int ch])), (aR, .inl (cA, n, .inl (upd f k x.toInt8.toInt32)))] := hD
  refine lv_aload_n hx hb dc_T_add_26 rfl (lv_at hl 0 rfl) ?_
  refine lv_iconst (v := 1) hx hb dc_T_add_27 (by decide) ?_
  refine va_put (D := (dC, dI)) (ci := 5) (v := .int 1) (ty := .boolean) (C := rn_T) (T := ft_T) (N := 3) hx hb hts fw_T fy_T fo_T fn_T hown hK hP hD hS 0 rfl rfl 2 (by decide) (hts _ bw1_40) (fun _ h9 => h9) rfl (by decide +kernel) rfl rfl (Nat.le_of_ble_eq_true rfl) dc_T_add_28 (fun H locs hP hD hS => ?_)
  have hP : va_P (dC, dI) vwCl [(aT, .inr (5, [.ref aR, .int ((nI k) + 1), .int 1])), (aR, .inl (cA, n, .inl (upd f k x.toInt8.toInt32)))] H := hP
  have hD : va_D A [(aT, .inr (5, [.ref aR, .int ((nI k) + 1), .int 1])), (aR, .inl (cA, n, .inl (upd f k x.toInt8.toInt32)))] := hD
  have e_2 : ((nI k) + 1) = (nI (k + 1)) := by first | rfl | exact nI_1 _ | exact nI_add _ _ | exact (pk_sub (by omega)) | exact congrArg nI (by omega)
  have hP := wP_eq (ws' := [(aT, .inr (5, [.ref aR, .int (nI (k + 1)), .int 1])), (aR, .inl (cA, n, .inl (upd f k x.toInt8.toInt32)))]) hP (cg1 (fun y0 => ([(aT, .inr (5, [.ref aR, .int y0, .int 1])), (aR, .inl (cA, n, .inl (upd f k x.toInt8.toInt32)))] : va_W)) e_2)
  have hD := wD_eq (ws' := [(aT, .inr (5, [.ref aR, .int (nI (k + 1)), .int 1])), (aR, .inl (cA, n, .inl (upd f k x.toInt8.toInt32)))]) hD (cg1 (fun y0 => ([(aT, .inr (5, [.ref aR, .int y0, .int 1])), (aR, .inl (cA, n, .inl (upd f k x.toInt8.toInt32)))] : va_W)) e_2)
  have hP9 := hP.sub (ws' := [(aT, .inr (5, [.ref aR, .int (nI (k + 1)), .int 1])), (aR, .inl (cA, n, .inl (upd f k x.toInt8.toInt32)))]) [0, 1] rfl
  have hD9 := hD.sub (ws' := [(aT, .inr (5, [.ref aR, .int (nI (k + 1)), .int 1])), (aR, .inl (cA, n, .inl (upd f k x.toInt8.toInt32)))]) [0, 1] (by decide) rfl
  have hK9 := hK.sub (tys' := [(cA, .byte)]) [0] rfl
  exact W.vret hx hb hr (fun t ht hW => ⟨⟨(), rfl, trivial, by rw [ht]; exact hP9, va_K.moved hW.alike hK9, hD9⟩, hS.F ht⟩) hS.2.2 dc_T_add_31

set_option maxHeartbeats 1000000 in
set_option maxRecDepth 100000 in
theorem c_T_cut (l : Launch) (dC : Nat → ClassId) (dI : Nat → Nat → Nat) (sz : Nat) (aT : Nat) (aR : Nat) (cA : ClassId) (n : Nat) (f : Nat → Int32) (k : Nat) (ch : Int32) (j : Nat) (hj : j ≤ k) : Met l my_T_cut (wB my_T_cut cd_T_cut 2 none) ({ frames := 0, cells := 0, slots := 0, locals := 0 }) (va_Pc [.ref aT, .int (nI j)] (PcW (dC, dI) [(aT, .inr (5, [.ref aR, .int (nI k), .int ch])), (aR, .inl (cA, n, .inl f))] [(cA, .byte)] sz)) (va_Qv (fun (_ : Unit) => True) (fun _ => EnW (dC, dI) (va_A [(aT, .inr (5, [.ref aR, .int (nI k), .int ch])), (aR, .inl (cA, n, .inl f))] sz) [(aT, .inr (5, [.ref aR, .int (nI (k - j)), .int 1])), (aR, .inl (cA, n, .inl f))] [(cA, .byte)]) (va_A [(aT, .inr (5, [.ref aR, .int (nI k), .int ch])), (aR, .inl (cA, n, .inl f))] sz)) 0 0 (va_A [(aT, .inr (5, [.ref aR, .int (nI k), .int ch])), (aR, .inl (cA, n, .inl f))] sz) := by
  refine Met.ofW (cc := cd_T_cut) (maxL := 2) (ret := none) (by decide) rfl ?_
  intro p e s m args below meth c s₁ B hml hv
  obtain ⟨rfl, hsz, hP, hK, hD0, hG⟩ := hv
  have hx := B.exec
  have hb := B.bytes
  have hr := B.returns
  have hts := fun (w : Cond) (h : w ∈ bigT) => atoms_spec (ws := (wB my_T_cut cd_T_cut 2 none)) B.pre w (List.mem_cons_of_mem _ h)
  have hown : s.vm.findClass rn_T = some m.cls := findClass_of_methodNamed B.named
  have hlocks := B.notSynchronized
  subst hsz
  have hD := hD0.self (sz := s.heap.size)
  generalize hAe : va_A [(aT, .inr (5, [.ref aR, .int (nI k), .int ch])), (aR, .inl (cA, n, .inl f))] s.heap.size = A at hD hG ⊢
  have hA : ∀ q : Nat, s.heap.size ≤ q → A q := fun q h => by rw [← hAe]; exact Or.inr h
  have hS : va_S A s.heap s.heap [] := va_S.rf
  have hP : va_P (dC, dI) vwCl [(aT, .inr (5, [.ref aR, .int (nI k), .int ch])), (aR, .inl (cA, n, .inl f))] s.heap := hP
  have hl := lv_entry ([.ref aT, .int (nI j)]) (n := 2) (Nat.le_of_ble_eq_true rfl)
  rw [lg_entry_eq]
  generalize (lg_sl ([.ref aT, .int (nI j)]) ++ List.replicate (2 - (lg_sl ([.ref aT, .int (nI j)])).length) Slot.unset).toArray = ls at hl ⊢
  have hl : lv_has ls 2 [(0, .ref aT), (1, .int (nI j))] := hl
  refine lv_aload_n hx hb dc_T_cut_0 rfl (lv_at hl 0 rfl) ?_
  refine lv_dup hx hb dc_T_cut_1 rfl ?_
  refine va_get (D := (dC, dI)) (ci := 5) (v := .int (nI k)) (C := rn_T) (T := ft_T) (N := 3) hx hb hts fw_T hown hK hP 0 rfl rfl 1 (by decide) (hts _ bw1_37) (fun _ h9 => h9) rfl dc_T_cut_2 ?_
  refine lv_iload_n hx hb dc_T_cut_5 rfl (lv_at hl 1 rfl) ?_
  refine lv_isub hx hb dc_T_cut_6 ?_
  refine va_put (D := (dC, dI)) (ci := 5) (v := .int ((nI k) - (nI j))) (ty := .int) (C := rn_T) (T := ft_T) (N := 3) hx hb hts fw_T fy_T fo_T fn_T hown hK hP hD hS 0 rfl rfl 1 (by decide) (hts _ bw1_37) (fun _ h9 => h9) rfl (by decide +kernel) rfl rfl (Nat.le_of_ble_eq_true rfl) dc_T_cut_7 (fun H locs hP hD hS => ?_)
  have hP : va_P (dC, dI) vwCl [(aT, .inr (5, [.ref aR, .int ((nI k) - (nI j)), .int ch])), (aR, .inl (cA, n, .inl f))] H := hP
  have hD : va_D A [(aT, .inr (5, [.ref aR, .int ((nI k) - (nI j)), .int ch])), (aR, .inl (cA, n, .inl f))] := hD
  refine lv_aload_n hx hb dc_T_cut_10 rfl (lv_at hl 0 rfl) ?_
  refine lv_iconst (v := 1) hx hb dc_T_cut_11 (by decide) ?_
  refine va_put (D := (dC, dI)) (ci := 5) (v := .int 1) (ty := .boolean) (C := rn_T) (T := ft_T) (N := 3) hx hb hts fw_T fy_T fo_T fn_T hown hK hP hD hS 0 rfl rfl 2 (by decide) (hts _ bw1_40) (fun _ h9 => h9) rfl (by decide +kernel) rfl rfl (Nat.le_of_ble_eq_true rfl) dc_T_cut_12 (fun H locs hP hD hS => ?_)
  have hP : va_P (dC, dI) vwCl [(aT, .inr (5, [.ref aR, .int ((nI k) - (nI j)), .int 1])), (aR, .inl (cA, n, .inl f))] H := hP
  have hD : va_D A [(aT, .inr (5, [.ref aR, .int ((nI k) - (nI j)), .int 1])), (aR, .inl (cA, n, .inl f))] := hD
  have e_1 : ((nI k) - (nI j)) = (nI (k - j)) := by first | rfl | exact nI_1 _ | exact nI_add _ _ | exact (pk_sub (by omega)) | exact congrArg nI (by omega)
  have hP := wP_eq (ws' := [(aT, .inr (5, [.ref aR, .int (nI (k - j)), .int 1])), (aR, .inl (cA, n, .inl f))]) hP (cg1 (fun y0 => ([(aT, .inr (5, [.ref aR, .int y0, .int 1])), (aR, .inl (cA, n, .inl f))] : va_W)) e_1)
  have hD := wD_eq (ws' := [(aT, .inr (5, [.ref aR, .int (nI (k - j)), .int 1])), (aR, .inl (cA, n, .inl f))]) hD (cg1 (fun y0 => ([(aT, .inr (5, [.ref aR, .int y0, .int 1])), (aR, .inl (cA, n, .inl f))] : va_W)) e_1)
  have hP9 := hP.sub (ws' := [(aT, .inr (5, [.ref aR, .int (nI (k - j)), .int 1])), (aR, .inl (cA, n, .inl f))]) [0, 1] rfl
  have hD9 := hD.sub (ws' := [(aT, .inr (5, [.ref aR, .int (nI (k - j)), .int 1])), (aR, .inl (cA, n, .inl f))]) [0, 1] (by decide) rfl
  have hK9 := hK.sub (tys' := [(cA, .byte)]) [0] rfl
  exact W.vret hx hb hr (fun t ht hW => ⟨⟨(), rfl, trivial, by rw [ht]; exact hP9, va_K.moved hW.alike hK9, hD9⟩, hS.F ht⟩) hS.2.2 dc_T_cut_15

set_option maxHeartbeats 1000000 in
set_option maxRecDepth 100000 in
theorem c_T_put (l : Launch) (dC : Nat → ClassId) (dI : Nat → Nat → Nat) (sz : Nat) (aT : Nat) (aR : Nat) (cA : ClassId) (n : Nat) (f : Nat → Int32) (k : Nat) (ch : Int32) (j : Nat) (x : Int32) (hk : k ≤ n) (hn : n ≤ 16384) (hj : j < k) : Met l my_T_put (wB my_T_put cd_T_put 3 none) ({ frames := 1, cells := 0, slots := 0, locals := 21 }) (va_Pc [.ref aT, .int (nI j), .int x] (PcW (dC, dI) [(aT, .inr (5, [.ref aR, .int (nI k), .int ch])), (aR, .inl (cA, n, .inl f))] [(cA, .byte)] sz)) (va_Qv (fun (_ : Unit) => True) (fun _ => EnW (dC, dI) (va_A [(aT, .inr (5, [.ref aR, .int (nI k), .int ch])), (aR, .inl (cA, n, .inl f))] sz) [(aT, .inr (5, [.ref aR, .int (nI k), .int 1])), (aR, .inl (cA, n, .inl (upd f j x.toInt8.toInt32)))] [(cA, .byte)]) (va_A [(aT, .inr (5, [.ref aR, .int (nI k), .int ch])), (aR, .inl (cA, n, .inl f))] sz)) 0 0 (va_A [(aT, .inr (5, [.ref aR, .int (nI k), .int ch])), (aR, .inl (cA, n, .inl f))] sz) := by
  refine Met.ofW (cc := cd_T_put) (maxL := 3) (ret := none) (by decide) rfl ?_
  intro p e s m args below meth c s₁ B hml hv
  obtain ⟨rfl, hsz, hP, hK, hD0, hG⟩ := hv
  have hx := B.exec
  have hb := B.bytes
  have hr := B.returns
  have hts := fun (w : Cond) (h : w ∈ bigT) => atoms_spec (ws := (wB my_T_put cd_T_put 3 none)) B.pre w (List.mem_cons_of_mem _ h)
  have hown : s.vm.findClass rn_T = some m.cls := findClass_of_methodNamed B.named
  have hlocks := B.notSynchronized
  subst hsz
  have hD := hD0.self (sz := s.heap.size)
  generalize hAe : va_A [(aT, .inr (5, [.ref aR, .int (nI k), .int ch])), (aR, .inl (cA, n, .inl f))] s.heap.size = A at hD hG ⊢
  have hA : ∀ q : Nat, s.heap.size ≤ q → A q := fun q h => by rw [← hAe]; exact Or.inr h
  have hS : va_S A s.heap s.heap [] := va_S.rf
  have hP : va_P (dC, dI) vwCl [(aT, .inr (5, [.ref aR, .int (nI k), .int ch])), (aR, .inl (cA, n, .inl f))] s.heap := hP
  have hl := lv_entry ([.ref aT, .int (nI j), .int x]) (n := 3) (Nat.le_of_ble_eq_true rfl)
  rw [lg_entry_eq]
  generalize (lg_sl ([.ref aT, .int (nI j), .int x]) ++ List.replicate (3 - (lg_sl ([.ref aT, .int (nI j), .int x])).length) Slot.unset).toArray = ls at hl ⊢
  have hl : lv_has ls 3 [(0, .ref aT), (1, .int (nI j)), (2, .int x)] := hl
  refine lv_aload_n hx hb dc_T_put_0 rfl (lv_at hl 0 rfl) ?_
  refine lv_iload_n hx hb dc_T_put_1 rfl (lv_at hl 1 rfl) ?_
  refine kc_i (wc := [(aT, .inr (5, [.ref aR, .int (nI k), .int ch])), (aR, .inl (cA, n, .inl f))]) (wr := []) hP hD hS hA [0, 1] [] rfl rfl (by decide) (by decide) (va_runV (As := [.int (nI j)]) (rest := []) ⟨hx, hb, hml, hown, hts⟩ (c_T_has l dC dI _ aT aR cA n f k ch (nI j) (by omega) (by omega)) (kw_V 1 hts bw1_185 bw1_186 bw1_187 bw1_2 bw1_188 rfl rfl (by decide +kernel) ⟨Nat.le_of_ble_eq_true rfl, Nat.le_of_ble_eq_true rfl⟩) (kp_V (wc := [(aT, .inr (5, [.ref aR, .int (nI k), .int ch])), (aR, .inl (cA, n, .inl f))]) (tc := [(cA, .byte)]) (As := [.int (nI j)]) hG hS hA hP hD hK [0, 1] rfl (by decide) rfl [0] rfl (ci := 5) (q0 := 0) rfl rfl) rfl rfl hl.1 rfl (lv_room (Nat.le_of_ble_eq_true rfl)) dc_T_put_2 ⟨Nat.zero_le _, Nat.zero_le _⟩) (fun r_1 _ H locs hw hP hD hK1 hS => ?_)
  subst hw
  have hP : va_P (dC, dI) vwCl [(aT, .inr (5, [.ref aR, .int (nI k), .int ch])), (aR, .inl (cA, n, .inl f))] H := hP
  have hD : va_D A [(aT, .inr (5, [.ref aR, .int (nI k), .int ch])), (aR, .inl (cA, n, .inl f))] := hD
  refine w_join (σ := Unit) (fun v21_ H locs ls => va_P (dC, dI) vwCl [(aT, .inr (5, [.ref aR, .int (nI k), .int 1])), (aR, .inl (cA, n, .inl (upd f j x.toInt8.toInt32)))] H ∧ va_D A [(aT, .inr (5, [.ref aR, .int (nI k), .int 1])), (aR, .inl (cA, n, .inl (upd f j x.toInt8.toInt32)))] ∧ va_S A s.heap H locs ∧ lv_has ls 3 [(0, .ref aT), (1, .int (nI j)), (2, .int x)]) (fun v21_ ls => F0 m 21 ls []) ?_ (fun hJ21 => ?_)
  · rintro v21_ H locs ls ⟨hP, hD, hS, hl⟩
    have hP : va_P (dC, dI) vwCl [(aT, .inr (5, [.ref aR, .int (nI k), .int 1])), (aR, .inl (cA, n, .inl (upd f j x.toInt8.toInt32)))] H := hP
    have hD : va_D A [(aT, .inr (5, [.ref aR, .int (nI k), .int 1])), (aR, .inl (cA, n, .inl (upd f j x.toInt8.toInt32)))] := hD
    have hl : lv_has ls 3 [(0, .ref aT), (1, .int (nI j)), (2, .int x)] := hl
    show W _ _ _ _ _ _ _ _ _ _ _ _ _ _ _ (F0 m 21 ls [])
    have hP9 := hP.sub (ws' := [(aT, .inr (5, [.ref aR, .int (nI k), .int 1])), (aR, .inl (cA, n, .inl (upd f j x.toInt8.toInt32)))]) [0, 1] rfl
    have hD9 := hD.sub (ws' := [(aT, .inr (5, [.ref aR, .int (nI k), .int 1])), (aR, .inl (cA, n, .inl (upd f j x.toInt8.toInt32)))]) [0, 1] (by decide) rfl
    have hK9 := hK.sub (tys' := [(cA, .byte)]) [0] rfl
    exact W.vret hx hb hr (fun t ht hW => ⟨⟨(), rfl, trivial, by rw [ht]; exact hP9, va_K.moved hW.alike hK9, hD9⟩, hS.F ht⟩) hS.2.2 dc_T_put_21
  · refine lv_if_eq (tgt := 21) hx hb dc_T_put_5 (by decide) (fun c_2 => ?_) (fun c_2 => ?_)
    · exfalso; exact hasC_in hj (by omega) c_2
    · refine lv_aload_n hx hb dc_T_put_8 rfl (lv_at hl 0 rfl) ?_
      refine va_get (D := (dC, dI)) (ci := 5) (v := .ref aR) (C := rn_T) (T := ft_T) (N := 3) hx hb hts fw_T hown hK hP 0 rfl rfl 0 (by decide) (hts _ bw1_36) (fun _ h9 => h9) rfl dc_T_put_9 ?_
      refine lv_iload_n hx hb dc_T_put_12 rfl (lv_at hl 1 rfl) ?_
      refine lv_iload_n hx hb dc_T_put_13 rfl (lv_at hl 2 rfl) ?_
      refine lv_i2b (v := x.toInt8.toInt32) hx hb dc_T_put_14 rfl ?_
      refine va_bast hx hb hK hP hD hS 1 0 rfl rfl (vp_in_nI (by omega) (by omega)) dc_T_put_15 (fun H locs hP hD hS => ?_)
      rw [show (nI j).toNatClampNeg = j from nI_clamp (by omega)] at hP hD
      rw [pk_vb] at hP hD
      have hP : va_P (dC, dI) vwCl [(aT, .inr (5, [.ref aR, .int (nI k), .int ch])), (aR, .inl (cA, n, .inl (upd f j x.toInt8.toInt32)))] H := hP
      have hD : va_D A [(aT, .inr (5, [.ref aR, .int (nI k), .int ch])), (aR, .inl (cA, n, .inl (upd f j x.toInt8.toInt32)))] := hD
      refine lv_aload_n hx hb dc_T_put_16 rfl (lv_at hl 0 rfl) ?_
      refine lv_iconst (v := 1) hx hb dc_T_put_17 (by decide) ?_
      refine va_put (D := (dC, dI)) (ci := 5) (v := .int 1) (ty := .boolean) (C := rn_T) (T := ft_T) (N := 3) hx hb hts fw_T fy_T fo_T fn_T hown hK hP hD hS 0 rfl rfl 2 (by decide) (hts _ bw1_40) (fun _ h9 => h9) rfl (by decide +kernel) rfl rfl (Nat.le_of_ble_eq_true rfl) dc_T_put_18 (fun H locs hP hD hS => ?_)
      have hP : va_P (dC, dI) vwCl [(aT, .inr (5, [.ref aR, .int (nI k), .int 1])), (aR, .inl (cA, n, .inl (upd f j x.toInt8.toInt32)))] H := hP
      have hD : va_D A [(aT, .inr (5, [.ref aR, .int (nI k), .int 1])), (aR, .inl (cA, n, .inl (upd f j x.toInt8.toInt32)))] := hD
      exact hJ21 () _ _ _ ⟨hP.sub [0, 1] rfl, hD.sub [0, 1] (by decide) rfl, hS, lv_sub hl [0, 1, 2] rfl⟩

set_option maxHeartbeats 1000000 in
set_option maxRecDepth 100000 in
theorem c_T_unsigned (l : Launch) (dC : Nat → ClassId) (dI : Nat → Nat → Nat) (sz : Nat) (aT : Nat) (aR : Nat) (cA : ClassId) (n : Nat) (f : Nat → Int32) (k : Nat) (ch : Int32) (pl : Int32) (j : Nat) (hk : k ≤ n) (hn : n ≤ 16384) (hj : j < 1000) : Met l my_T_unsigned (wB my_T_unsigned cd_T_unsigned 6 (some .long)) ({ frames := 1, cells := 0, slots := 0, locals := 21 }) (va_Pc [.ref aT, .int pl, .int (nI j)] (PcW (dC, dI) [(aT, .inr (5, [.ref aR, .int (nI k), .int ch])), (aR, .inl (cA, n, .inl f))] [(cA, .byte)] sz)) (va_Ql (fun (r : Int64) => fun (_ : Unit) => r = uns (tb f k) pl j) (fun _ => EnW (dC, dI) (va_A [(aT, .inr (5, [.ref aR, .int (nI k), .int ch])), (aR, .inl (cA, n, .inl f))] sz) [(aT, .inr (5, [.ref aR, .int (nI k), .int ch])), (aR, .inl (cA, n, .inl f))] [(cA, .byte)]) (va_A [(aT, .inr (5, [.ref aR, .int (nI k), .int ch])), (aR, .inl (cA, n, .inl f))] sz)) 0 0 (va_A [(aT, .inr (5, [.ref aR, .int (nI k), .int ch])), (aR, .inl (cA, n, .inl f))] sz) := by
  refine Met.ofW (cc := cd_T_unsigned) (maxL := 6) (ret := (some .long)) (by decide) rfl ?_
  intro p e s m args below meth c s₁ B hml hv
  obtain ⟨rfl, hsz, hP, hK, hD0, hG⟩ := hv
  have hx := B.exec
  have hb := B.bytes
  have hr := B.returns
  have hts := fun (w : Cond) (h : w ∈ bigT) => atoms_spec (ws := (wB my_T_unsigned cd_T_unsigned 6 (some .long))) B.pre w (List.mem_cons_of_mem _ h)
  have hown : s.vm.findClass rn_T = some m.cls := findClass_of_methodNamed B.named
  have hlocks := B.notSynchronized
  subst hsz
  have hD := hD0.self (sz := s.heap.size)
  generalize hAe : va_A [(aT, .inr (5, [.ref aR, .int (nI k), .int ch])), (aR, .inl (cA, n, .inl f))] s.heap.size = A at hD hG ⊢
  have hA : ∀ q : Nat, s.heap.size ≤ q → A q := fun q h => by rw [← hAe]; exact Or.inr h
  have hS : va_S A s.heap s.heap [] := va_S.rf
  have hP : va_P (dC, dI) vwCl [(aT, .inr (5, [.ref aR, .int (nI k), .int ch])), (aR, .inl (cA, n, .inl f))] s.heap := hP
  have hl := lv_entry ([.ref aT, .int pl, .int (nI j)]) (n := 6) (Nat.le_of_ble_eq_true rfl)
  rw [lg_entry_eq]
  generalize (lg_sl ([.ref aT, .int pl, .int (nI j)]) ++ List.replicate (6 - (lg_sl ([.ref aT, .int pl, .int (nI j)])).length) Slot.unset).toArray = ls at hl ⊢
  have hl : lv_has ls 6 [(0, .ref aT), (1, .int pl), (2, .int (nI j))] := hl
  refine lv_lconst (v := 0) hx hb dc_T_unsigned_0 rfl ?_
  refine lv_lstore_n (lv' := [(3, .long 0), (0, .ref aT), (1, .int pl), (2, .int (nI j))]) hx hb dc_T_unsigned_1 rfl hl (by decide) rfl (fun ls hl => ?_)
  refine lv_iconst (v := 0) hx hb dc_T_unsigned_2 (by decide) ?_
  refine lv_istore (lv' := [(5, .int 0), (3, .long 0), (0, .ref aT), (1, .int pl), (2, .int (nI j))]) hx hb dc_T_unsigned_3 hl (by decide) rfl (fun ls hl => ?_)
  have e_1 : 0 = (uns (tb f k) pl 0) := by rfl
  have hl := wL_eq (lv' := [(5, .int (nI 0)), (3, .long (uns (tb f k) pl 0)), (0, .ref aT), (1, .int pl), (2, .int (nI j))]) hl (cg1 (fun y0 => ([(5, .int (nI 0)), (3, .long y0), (0, .ref aT), (1, .int pl), (2, .int (nI j))] : List (Nat × Value))) e_1)
  refine w_loop (σ := Nat) (fun i H locs ls => i ≤ j ∧ va_P (dC, dI) vwCl [(aT, .inr (5, [.ref aR, .int (nI k), .int ch])), (aR, .inl (cA, n, .inl f))] H ∧ va_D A [(aT, .inr (5, [.ref aR, .int (nI k), .int ch])), (aR, .inl (cA, n, .inl f))] ∧ va_S A s.heap H locs ∧ lv_has ls 6 [(5, .int (nI i)), (3, .long (uns (tb f k) pl i)), (0, .ref aT), (1, .int pl), (2, .int (nI j))]) (fun i ls => F0 m 5 ls []) (fun _ => 0) (fun _ => 0) (fun i => j - i) ?_ 0 _ _ _ ⟨by show 0 ≤ j; omega, hP.sub [0, 1] rfl, hD.sub [0, 1] (by decide) rfl, hS, lv_sub hl [0, 1, 2, 3, 4] rfl⟩
  rintro i H locs ls ⟨hi, hP, hD, hS, hl⟩ ih5
  have hP : va_P (dC, dI) vwCl [(aT, .inr (5, [.ref aR, .int (nI k), .int ch])), (aR, .inl (cA, n, .inl f))] H := hP
  have hD : va_D A [(aT, .inr (5, [.ref aR, .int (nI k), .int ch])), (aR, .inl (cA, n, .inl f))] := hD
  have hl : lv_has ls 6 [(5, .int (nI i)), (3, .long (uns (tb f k) pl i)), (0, .ref aT), (1, .int pl), (2, .int (nI j))] := hl
  show W _ _ _ _ _ _ _ _ _ _ _ _ _ _ _ (F0 m 5 ls [])
  have hi : i ≤ j := hi
  refine lv_iload hx hb dc_T_unsigned_5 (lv_at hl 0 rfl) ?_
  refine lv_iload_n hx hb dc_T_unsigned_7 rfl (lv_at hl 4 rfl) ?_
  refine lv_icmp_ge (tgt := 32) hx hb dc_T_unsigned_8 (by decide) (fun c_2 => ?_) (fun c_2 => ?_)
  · obtain rfl : i = j := by have := (nI_leI (by omega) (by omega)).mp c_2; omega
    refine lv_lload_n hx hb dc_T_unsigned_32 rfl (lv_at hl 1 rfl) ?_
    have hP9 := hP.sub (ws' := [(aT, .inr (5, [.ref aR, .int (nI k), .int ch])), (aR, .inl (cA, n, .inl f))]) [0, 1] rfl
    have hD9 := hD.sub (ws' := [(aT, .inr (5, [.ref aR, .int (nI k), .int ch])), (aR, .inl (cA, n, .inl f))]) [0, 1] (by decide) rfl
    have hK9 := hK.sub (tys' := [(cA, .byte)]) [0] rfl
    exact W.lret (v := (uns (tb f k) pl i)) hx hb hr (fun t ht hW => ⟨⟨(uns (tb f k) pl i), (), rfl, rfl, by rw [ht]; exact hP9, va_K.moved hW.alike hK9, hD9⟩, hS.F ht⟩) hS.2.2 dc_T_unsigned_33
  · have hlt : i < j := by rcases Nat.lt_or_ge i j with h | h; exact h; exact absurd (nI_le h (by omega)) c_2
    refine lv_lload_n hx hb dc_T_unsigned_11 rfl (lv_at hl 1 rfl) ?_
    refine lv_bipush (v := 8) hx hb dc_T_unsigned_12 (by decide) ?_
    refine lv_lshl (v := (uns (tb f k) pl i) <<< ((8 : Int32).toInt64 &&& 63)) hx hb dc_T_unsigned_14 rfl ?_
    refine lv_aload_n hx hb dc_T_unsigned_15 rfl (lv_at hl 2 rfl) ?_
    refine lv_iload_n hx hb dc_T_unsigned_16 rfl (lv_at hl 3 rfl) ?_
    refine lv_iload hx hb dc_T_unsigned_17 (lv_at hl 0 rfl) ?_
    refine lv_iadd hx hb dc_T_unsigned_19 ?_
    refine kc_i (wc := [(aT, .inr (5, [.ref aR, .int (nI k), .int ch])), (aR, .inl (cA, n, .inl f))]) (wr := []) hP hD hS hA [0, 1] [] rfl rfl (by decide) (by decide) (va_runV (As := [.int (pl + (nI i))]) (rest := [.long ((uns (tb f k) pl i) <<< ((8 : Int32).toInt64 &&& 63))]) ⟨hx, hb, hml, hown, hts⟩ (c_T_get l dC dI _ aT aR cA n f k ch (pl + (nI i)) (by omega) (by omega)) (kw_V 1 hts bw3_64 bw2_111 bw2_112 bw1_2 bw2_113 rfl rfl (by decide +kernel) ⟨Nat.le_of_ble_eq_true rfl, Nat.le_of_ble_eq_true rfl⟩) (kp_V (wc := [(aT, .inr (5, [.ref aR, .int (nI k), .int ch])), (aR, .inl (cA, n, .inl f))]) (tc := [(cA, .byte)]) (As := [.int (pl + (nI i))]) hG hS hA hP hD hK [0, 1] rfl (by decide) rfl [0] rfl (ci := 5) (q0 := 0) rfl rfl) rfl rfl hl.1 rfl (lv_room (Nat.le_of_ble_eq_true rfl)) dc_T_unsigned_20 ⟨Nat.zero_le _, Nat.zero_le _⟩) (fun r_3 _ H locs hw hP hD hK1 hS => ?_)
    subst hw
    have hP : va_P (dC, dI) vwCl [(aT, .inr (5, [.ref aR, .int (nI k), .int ch])), (aR, .inl (cA, n, .inl f))] H := hP
    have hD : va_D A [(aT, .inr (5, [.ref aR, .int (nI k), .int ch])), (aR, .inl (cA, n, .inl f))] := hD
    refine lv_i2l (v := (tb f k (pl + (nI i))).toInt64) hx hb dc_T_unsigned_23 rfl ?_
    refine lv_lor hx hb dc_T_unsigned_24 ?_
    refine lv_lstore_n (lv' := [(3, .long (((uns (tb f k) pl i) <<< ((8 : Int32).toInt64 &&& 63)) ||| ((tb f k (pl + (nI i))).toInt64))), (5, .int (nI i)), (0, .ref aT), (1, .int pl), (2, .int (nI j))]) hx hb dc_T_unsigned_25 rfl hl (by decide) rfl (fun ls hl => ?_)
    refine lv_iinc (v := ((nI i) + 1)) (lv' := [(5, .int ((nI i) + 1)), (3, .long (((uns (tb f k) pl i) <<< ((8 : Int32).toInt64 &&& 63)) ||| ((tb f k (pl + (nI i))).toInt64))), (0, .ref aT), (1, .int pl), (2, .int (nI j))]) hx hb dc_T_unsigned_26 hl (k := 1) rfl rfl (by decide) rfl (fun ls hl => ?_)
    refine lv_goto (tgt := 5) hx hb dc_T_unsigned_29 (by decide) ?_
    have e_4 : ((nI i) + 1) = (nI (i + 1)) := by first | exact nI_1 _ | rfl
    have e_5 : (((uns (tb f k) pl i) <<< ((8 : Int32).toInt64 &&& 63)) ||| ((tb f k (pl + (nI i))).toInt64)) = (uns (tb f k) pl (i + 1)) := by first | exact nI_1 _ | rfl
    have hl := wL_eq (lv' := [(5, .int (nI (i + 1))), (3, .long (uns (tb f k) pl (i + 1))), (0, .ref aT), (1, .int pl), (2, .int (nI j))]) hl (cg2 (fun y0 y1 => ([(5, .int y0), (3, .long y1), (0, .ref aT), (1, .int pl), (2, .int (nI j))] : List (Nat × Value))) e_4 e_5)
    exact ih5 (i + 1) _ _ _ ⟨by show (i + 1) ≤ j; omega, hP.sub [0, 1] rfl, hD.sub [0, 1] (by decide) rfl, hS, lv_sub hl [0, 1, 2, 3, 4] rfl⟩ (by show j - (i + 1) < j - i; omega)

set_option maxHeartbeats 1000000 in
set_option maxRecDepth 100000 in
theorem c_T_signed (l : Launch) (dC : Nat → ClassId) (dI : Nat → Nat → Nat) (sz : Nat) (aT : Nat) (aR : Nat) (cA : ClassId) (n : Nat) (f : Nat → Int32) (k : Nat) (ch : Int32) (pl : Int32) (j : Nat) (hk : k ≤ n) (hn : n ≤ 16384) (hj : j < 1000) : Met l my_T_signed (wB my_T_signed cd_T_signed 4 (some .long)) ({ frames := 2, cells := 0, slots := 0, locals := 46 }) (va_Pc [.ref aT, .int pl, .int (nI j)] (PcW (dC, dI) [(aT, .inr (5, [.ref aR, .int (nI k), .int ch])), (aR, .inl (cA, n, .inl f))] [(cA, .byte)] sz)) (va_Ql (fun (r : Int64) => fun (_ : Unit) => r = sgn (tb f k) pl j) (fun _ => EnW (dC, dI) (va_A [(aT, .inr (5, [.ref aR, .int (nI k), .int ch])), (aR, .inl (cA, n, .inl f))] sz) [(aT, .inr (5, [.ref aR, .int (nI k), .int ch])), (aR, .inl (cA, n, .inl f))] [(cA, .byte)]) (va_A [(aT, .inr (5, [.ref aR, .int (nI k), .int ch])), (aR, .inl (cA, n, .inl f))] sz)) 0 0 (va_A [(aT, .inr (5, [.ref aR, .int (nI k), .int ch])), (aR, .inl (cA, n, .inl f))] sz) := by
  refine Met.ofW (cc := cd_T_signed) (maxL := 4) (ret := (some .long)) (by decide) rfl ?_
  intro p e s m args below meth c s₁ B hml hv
  obtain ⟨rfl, hsz, hP, hK, hD0, hG⟩ := hv
  have hx := B.exec
  have hb := B.bytes
  have hr := B.returns
  have hts := fun (w : Cond) (h : w ∈ bigT) => atoms_spec (ws := (wB my_T_signed cd_T_signed 4 (some .long))) B.pre w (List.mem_cons_of_mem _ h)
  have hown : s.vm.findClass rn_T = some m.cls := findClass_of_methodNamed B.named
  have hlocks := B.notSynchronized
  subst hsz
  have hD := hD0.self (sz := s.heap.size)
  generalize hAe : va_A [(aT, .inr (5, [.ref aR, .int (nI k), .int ch])), (aR, .inl (cA, n, .inl f))] s.heap.size = A at hD hG ⊢
  have hA : ∀ q : Nat, s.heap.size ≤ q → A q := fun q h => by rw [← hAe]; exact Or.inr h
  have hS : va_S A s.heap s.heap [] := va_S.rf
  have hP : va_P (dC, dI) vwCl [(aT, .inr (5, [.ref aR, .int (nI k), .int ch])), (aR, .inl (cA, n, .inl f))] s.heap := hP
  have hl := lv_entry ([.ref aT, .int pl, .int (nI j)]) (n := 4) (Nat.le_of_ble_eq_true rfl)
  rw [lg_entry_eq]
  generalize (lg_sl ([.ref aT, .int pl, .int (nI j)]) ++ List.replicate (4 - (lg_sl ([.ref aT, .int pl, .int (nI j)])).length) Slot.unset).toArray = ls at hl ⊢
  have hl : lv_has ls 4 [(0, .ref aT), (1, .int pl), (2, .int (nI j))] := hl
  refine lv_bipush (v := 64) hx hb dc_T_signed_0 (by decide) ?_
  refine lv_bipush (v := 8) hx hb dc_T_signed_2 (by decide) ?_
  refine lv_iload_n hx hb dc_T_signed_4 rfl (lv_at hl 2 rfl) ?_
  refine lv_imul hx hb dc_T_signed_5 ?_
  refine lv_isub hx hb dc_T_signed_6 ?_
  refine lv_istore_n (lv' := [(3, .int (64 - (8 * (nI j)))), (0, .ref aT), (1, .int pl), (2, .int (nI j))]) hx hb dc_T_signed_7 rfl hl (by decide) rfl (fun ls hl => ?_)
  refine lv_aload_n hx hb dc_T_signed_8 rfl (lv_at hl 1 rfl) ?_
  refine lv_iload_n hx hb dc_T_signed_9 rfl (lv_at hl 2 rfl) ?_
  refine lv_iload_n hx hb dc_T_signed_10 rfl (lv_at hl 3 rfl) ?_
  refine kc_l (wc := [(aT, .inr (5, [.ref aR, .int (nI k), .int ch])), (aR, .inl (cA, n, .inl f))]) (wr := []) hP hD hS hA [0, 1] [] rfl rfl (by decide) (by decide) (va_runV (As := [.int pl, .int (nI j)]) (rest := []) ⟨hx, hb, hml, hown, hts⟩ (c_T_unsigned l dC dI _ aT aR cA n f k ch pl j (by omega) (by omega) (by omega)) (kw_V 2 hts bw3_60 bw3_61 bw3_62 bw1_2 bw3_63 rfl rfl (by decide +kernel) ⟨Nat.le_of_ble_eq_true rfl, Nat.le_of_ble_eq_true rfl⟩) (kp_V (wc := [(aT, .inr (5, [.ref aR, .int (nI k), .int ch])), (aR, .inl (cA, n, .inl f))]) (tc := [(cA, .byte)]) (As := [.int pl, .int (nI j)]) hG hS hA hP hD hK [0, 1] rfl (by decide) rfl [0] rfl (ci := 5) (q0 := 0) rfl rfl) rfl rfl hl.1 rfl (lv_room (Nat.le_of_ble_eq_true rfl)) dc_T_signed_11 ⟨Nat.zero_le _, Nat.zero_le _⟩) (fun r_1 _ H locs hw hP hD hK1 hS => ?_)
  subst hw
  have hP : va_P (dC, dI) vwCl [(aT, .inr (5, [.ref aR, .int (nI k), .int ch])), (aR, .inl (cA, n, .inl f))] H := hP
  have hD : va_D A [(aT, .inr (5, [.ref aR, .int (nI k), .int ch])), (aR, .inl (cA, n, .inl f))] := hD
  refine lv_iload_n hx hb dc_T_signed_14 rfl (lv_at hl 0 rfl) ?_
  refine lv_lshl (v := (uns (tb f k) pl j) <<< ((64 - (8 * (nI j)) : Int32).toInt64 &&& 63)) hx hb dc_T_signed_15 rfl ?_
  refine lv_iload_n hx hb dc_T_signed_16 rfl (lv_at hl 0 rfl) ?_
  refine lv_lshr (v := ((uns (tb f k) pl j) <<< ((64 - (8 * (nI j)) : Int32).toInt64 &&& 63)) >>> ((64 - (8 * (nI j)) : Int32).toInt64 &&& 63)) hx hb dc_T_signed_17 rfl ?_
  have hP9 := hP.sub (ws' := [(aT, .inr (5, [.ref aR, .int (nI k), .int ch])), (aR, .inl (cA, n, .inl f))]) [0, 1] rfl
  have hD9 := hD.sub (ws' := [(aT, .inr (5, [.ref aR, .int (nI k), .int ch])), (aR, .inl (cA, n, .inl f))]) [0, 1] (by decide) rfl
  have hK9 := hK.sub (tys' := [(cA, .byte)]) [0] rfl
  exact W.lret (v := (((uns (tb f k) pl j) <<< ((64 - (8 * (nI j)) : Int32).toInt64 &&& 63)) >>> ((64 - (8 * (nI j)) : Int32).toInt64 &&& 63))) hx hb hr (fun t ht hW => ⟨⟨(((uns (tb f k) pl j) <<< ((64 - (8 * (nI j)) : Int32).toInt64 &&& 63)) >>> ((64 - (8 * (nI j)) : Int32).toInt64 &&& 63)), (), rfl, by unfold sgn; rfl, by rw [ht]; exact hP9, va_K.moved hW.alike hK9, hD9⟩, hS.F ht⟩) hS.2.2 dc_T_signed_18

set_option maxHeartbeats 1000000 in
set_option maxRecDepth 100000 in
theorem c_B_folded (l : Launch) (dC : Nat → ClassId) (dI : Nat → Nat → Nat) (sz : Nat) (v : Int64) : Met l my_B_folded (wB my_B_folded cd_B_folded 2 (some .long)) ({ frames := 0, cells := 0, slots := 0, locals := 0 }) (va_Pc [.long v] (PcW (dC, dI) [] [] sz)) (va_Ql (fun (r : Int64) => fun (_ : Unit) => r = cF v) (fun _ => EnW (dC, dI) (va_A [] sz) [] []) (va_A [] sz)) 0 0 (va_A [] sz) := by
  refine Met.ofW (cc := cd_B_folded) (maxL := 2) (ret := (some .long)) (by decide) rfl ?_
  intro p e s m args below meth c s₁ B hml hv
  obtain ⟨rfl, hsz, hP, hK, hD0, hG⟩ := hv
  have hx := B.exec
  have hb := B.bytes
  have hr := B.returns
  have hts := fun (w : Cond) (h : w ∈ bigT) => atoms_spec (ws := (wB my_B_folded cd_B_folded 2 (some .long))) B.pre w (List.mem_cons_of_mem _ h)
  have hown : s.vm.findClass rn_B = some m.cls := findClass_of_methodNamed B.named
  have hlocks := B.notSynchronized
  subst hsz
  have hD := hD0.self (sz := s.heap.size)
  generalize hAe : va_A [] s.heap.size = A at hD hG ⊢
  have hA : ∀ q : Nat, s.heap.size ≤ q → A q := fun q h => by rw [← hAe]; exact Or.inr h
  have hS : va_S A s.heap s.heap [] := va_S.rf
  have hP : va_P (dC, dI) vwCl [] s.heap := hP
  have hl := lv_entry ([.long v]) (n := 2) (Nat.le_of_ble_eq_true rfl)
  rw [lg_entry_eq]
  generalize (lg_sl ([.long v]) ++ List.replicate (2 - (lg_sl ([.long v])).length) Slot.unset).toArray = ls at hl ⊢
  have hl : lv_has ls 2 [(0, .long v)] := hl
  refine lv_lload_n hx hb dc_B_folded_0 rfl (lv_at hl 0 rfl) ?_
  refine lv_iconst (v := 1) hx hb dc_B_folded_1 (by decide) ?_
  refine lv_lshl (v := v <<< ((1 : Int32).toInt64 &&& 63)) hx hb dc_B_folded_2 rfl ?_
  refine lv_lload_n hx hb dc_B_folded_3 rfl (lv_at hl 0 rfl) ?_
  refine lv_bipush (v := 63) hx hb dc_B_folded_4 (by decide) ?_
  refine lv_lshr (v := v >>> ((63 : Int32).toInt64 &&& 63)) hx hb dc_B_folded_6 rfl ?_
  refine lv_lxor hx hb dc_B_folded_7 ?_
  have hP9 := hP.sub (ws' := []) [] rfl
  have hD9 := hD.sub (ws' := []) [] (by decide) rfl
  have hK9 := hK.sub (tys' := []) [] rfl
  exact W.lret (v := ((v <<< ((1 : Int32).toInt64 &&& 63)) ^^^ (v >>> ((63 : Int32).toInt64 &&& 63)))) hx hb hr (fun t ht hW => ⟨⟨((v <<< ((1 : Int32).toInt64 &&& 63)) ^^^ (v >>> ((63 : Int32).toInt64 &&& 63))), (), rfl, by unfold cF; rfl, by rw [ht]; exact hP9, va_K.moved hW.alike hK9, hD9⟩, hS.F ht⟩) hS.2.2 dc_B_folded_8

set_option maxHeartbeats 1000000 in
set_option maxRecDepth 100000 in
theorem c_B_unfolded (l : Launch) (dC : Nat → ClassId) (dI : Nat → Nat → Nat) (sz : Nat) (v : Int64) : Met l my_B_unfolded (wB my_B_unfolded cd_B_unfolded 2 (some .long)) ({ frames := 0, cells := 0, slots := 0, locals := 0 }) (va_Pc [.long v] (PcW (dC, dI) [] [] sz)) (va_Ql (fun (r : Int64) => fun (_ : Unit) => r = cUF v) (fun _ => EnW (dC, dI) (va_A [] sz) [] []) (va_A [] sz)) 0 0 (va_A [] sz) := by
  refine Met.ofW (cc := cd_B_unfolded) (maxL := 2) (ret := (some .long)) (by decide) rfl ?_
  intro p e s m args below meth c s₁ B hml hv
  obtain ⟨rfl, hsz, hP, hK, hD0, hG⟩ := hv
  have hx := B.exec
  have hb := B.bytes
  have hr := B.returns
  have hts := fun (w : Cond) (h : w ∈ bigT) => atoms_spec (ws := (wB my_B_unfolded cd_B_unfolded 2 (some .long))) B.pre w (List.mem_cons_of_mem _ h)
  have hown : s.vm.findClass rn_B = some m.cls := findClass_of_methodNamed B.named
  have hlocks := B.notSynchronized
  subst hsz
  have hD := hD0.self (sz := s.heap.size)
  generalize hAe : va_A [] s.heap.size = A at hD hG ⊢
  have hA : ∀ q : Nat, s.heap.size ≤ q → A q := fun q h => by rw [← hAe]; exact Or.inr h
  have hS : va_S A s.heap s.heap [] := va_S.rf
  have hP : va_P (dC, dI) vwCl [] s.heap := hP
  have hl := lv_entry ([.long v]) (n := 2) (Nat.le_of_ble_eq_true rfl)
  rw [lg_entry_eq]
  generalize (lg_sl ([.long v]) ++ List.replicate (2 - (lg_sl ([.long v])).length) Slot.unset).toArray = ls at hl ⊢
  have hl : lv_has ls 2 [(0, .long v)] := hl
  refine lv_lload_n hx hb dc_B_unfolded_0 rfl (lv_at hl 0 rfl) ?_
  refine lv_iconst (v := 1) hx hb dc_B_unfolded_1 (by decide) ?_
  refine lv_lushr (v := (v.toUInt64 >>> ((1 : Int32).toInt64.toUInt64 &&& Int64.toUInt64 63)).toInt64) hx hb dc_B_unfolded_2 rfl ?_
  refine lv_lload_n hx hb dc_B_unfolded_3 rfl (lv_at hl 0 rfl) ?_
  refine lv_lconst (v := 1) hx hb dc_B_unfolded_4 rfl ?_
  refine lv_land hx hb dc_B_unfolded_5 ?_
  refine lv_lneg hx hb dc_B_unfolded_6 ?_
  refine lv_lxor hx hb dc_B_unfolded_7 ?_
  have hP9 := hP.sub (ws' := []) [] rfl
  have hD9 := hD.sub (ws' := []) [] (by decide) rfl
  have hK9 := hK.sub (tys' := []) [] rfl
  exact W.lret (v := (((v.toUInt64 >>> ((1 : Int32).toInt64.toUInt64 &&& Int64.toUInt64 63)).toInt64) ^^^ (-(v &&& 1)))) hx hb hr (fun t ht hW => ⟨⟨(((v.toUInt64 >>> ((1 : Int32).toInt64.toUInt64 &&& Int64.toUInt64 63)).toInt64) ^^^ (-(v &&& 1))), (), rfl, by unfold cUF; rfl, by rw [ht]; exact hP9, va_K.moved hW.alike hK9, hD9⟩, hS.F ht⟩) hS.2.2 dc_B_unfolded_8

set_option maxHeartbeats 1000000 in
set_option maxRecDepth 100000 in
theorem c_B_varintBytes (l : Launch) (dC : Nat → ClassId) (dI : Nat → Nat → Nat) (sz : Nat) (v : Int64) : Met l my_B_varintBytes (wB my_B_varintBytes cd_B_varintBytes 6 (some .int)) ({ frames := 1, cells := 0, slots := 0, locals := 21 }) (va_Pc [.long v] (PcW (dC, dI) [] [] sz)) (va_Qi (fun (r : Int32) => fun (_ : Unit) => r = vbC v) (fun _ => EnW (dC, dI) (va_A [] sz) [] []) (va_A [] sz)) 0 0 (va_A [] sz) := by
  refine Met.ofW (cc := cd_B_varintBytes) (maxL := 6) (ret := (some .int)) (by decide) rfl ?_
  intro p e s m args below meth c s₁ B hml hv
  obtain ⟨rfl, hsz, hP, hK, hD0, hG⟩ := hv
  have hx := B.exec
  have hb := B.bytes
  have hr := B.returns
  have hts := fun (w : Cond) (h : w ∈ bigT) => atoms_spec (ws := (wB my_B_varintBytes cd_B_varintBytes 6 (some .int))) B.pre w (List.mem_cons_of_mem _ h)
  have hown : s.vm.findClass rn_B = some m.cls := findClass_of_methodNamed B.named
  have hlocks := B.notSynchronized
  subst hsz
  have hD := hD0.self (sz := s.heap.size)
  generalize hAe : va_A [] s.heap.size = A at hD hG ⊢
  have hA : ∀ q : Nat, s.heap.size ≤ q → A q := fun q h => by rw [← hAe]; exact Or.inr h
  have hS : va_S A s.heap s.heap [] := va_S.rf
  have hP : va_P (dC, dI) vwCl [] s.heap := hP
  have hl := lv_entry ([.long v]) (n := 6) (Nat.le_of_ble_eq_true rfl)
  rw [lg_entry_eq]
  generalize (lg_sl ([.long v]) ++ List.replicate (6 - (lg_sl ([.long v])).length) Slot.unset).toArray = ls at hl ⊢
  have hl : lv_has ls 6 [(0, .long v)] := hl
  refine lv_lload_n hx hb dc_B_varintBytes_0 rfl (lv_at hl 0 rfl) ?_
  refine kc_l (wc := []) (wr := []) hP hD hS hA [] [] rfl rfl (by decide) (by decide) (va_runS (As := [.long v]) (rest := []) ⟨hx, hb, hml, hown, hts⟩ (c_B_folded l dC dI _ v ) (kw_S 1 hts bw2_165 bw2_166 bw1_1 bw2_167 rfl rfl (by decide +kernel) ⟨Nat.le_of_ble_eq_true rfl, Nat.le_of_ble_eq_true rfl⟩) (kp_S (wc := []) (tc := []) (av := [.long v]) hG hS hA hP hD hK [] rfl (by decide) rfl [] rfl) rfl rfl hl.1 rfl (lv_room (Nat.le_of_ble_eq_true rfl)) dc_B_varintBytes_1 ⟨Nat.zero_le _, Nat.zero_le _⟩) (fun r_1 _ H locs hw hP hD hK1 hS => ?_)
  subst hw
  have hP : va_P (dC, dI) vwCl [] H := hP
  have hD : va_D A [] := hD
  refine lv_bipush (v := 7) hx hb dc_B_varintBytes_4 (by decide) ?_
  refine lv_lushr (v := ((cF v).toUInt64 >>> ((7 : Int32).toInt64.toUInt64 &&& Int64.toUInt64 63)).toInt64) hx hb dc_B_varintBytes_6 rfl ?_
  refine lv_lstore_n (lv' := [(2, .long (((cF v).toUInt64 >>> ((7 : Int32).toInt64.toUInt64 &&& Int64.toUInt64 63)).toInt64)), (0, .long v)]) hx hb dc_B_varintBytes_7 rfl hl (by decide) rfl (fun ls hl => ?_)
  refine lv_iconst (v := 1) hx hb dc_B_varintBytes_8 (by decide) ?_
  refine lv_istore (lv' := [(4, .int 1), (2, .long (((cF v).toUInt64 >>> ((7 : Int32).toInt64.toUInt64 &&& Int64.toUInt64 63)).toInt64)), (0, .long v)]) hx hb dc_B_varintBytes_9 hl (by decide) rfl (fun ls hl => ?_)
  refine lv_iconst (v := 1) hx hb dc_B_varintBytes_11 (by decide) ?_
  refine lv_istore (lv' := [(5, .int 1), (4, .int 1), (2, .long (((cF v).toUInt64 >>> ((7 : Int32).toInt64.toUInt64 &&& Int64.toUInt64 63)).toInt64)), (0, .long v)]) hx hb dc_B_varintBytes_12 hl (by decide) rfl (fun ls hl => ?_)
  have e_2 : 1 = (nI (10 - 9)) := by rfl
  have e_3 : (((cF v).toUInt64 >>> ((7 : Int32).toInt64.toUInt64 &&& Int64.toUInt64 63)).toInt64) = (us7 (cF v)) := by rfl
  have hl := wL_eq (lv' := [(5, .int (nI (10 - 9))), (4, .int (nI 1)), (2, .long (us7 (cF v))), (0, .long v)]) hl (cg2 (fun y0 y1 => ([(5, .int y0), (4, .int (nI 1)), (2, .long y1), (0, .long v)] : List (Nat × Value))) e_2 e_3)
  refine w_loop (σ := Nat × Nat × Int64) (fun x H locs ls => x.1 ≤ 9 ∧ x.2.1 + vbL x.1 x.2.2 = 1 + vbL 9 (us7 (cF v)) ∧ va_P (dC, dI) vwCl [] H ∧ va_D A [] ∧ va_S A s.heap H locs ∧ lv_has ls 6 [(5, .int (nI (10 - x.1))), (4, .int (nI x.2.1)), (2, .long x.2.2), (0, .long v)]) (fun x ls => F0 m 14 ls []) (fun _ => 0) (fun _ => 0) (fun x => x.1) ?_ (9, 1, us7 (cF v)) _ _ _ ⟨by show 9 ≤ 9; omega, (show 1 + vbL 9 (us7 (cF v)) = 1 + vbL 9 (us7 (cF v)) from rfl), hP.sub [] rfl, hD.sub [] (by decide) rfl, hS, lv_sub hl [0, 1, 2, 3] rfl⟩
  rintro ⟨r, q, z⟩ H locs ls ⟨hr9, hq, hP, hD, hS, hl⟩ ih14
  have hP : va_P (dC, dI) vwCl [] H := hP
  have hD : va_D A [] := hD
  have hl : lv_has ls 6 [(5, .int (nI (10 - r))), (4, .int (nI q)), (2, .long z), (0, .long v)] := hl
  show W _ _ _ _ _ _ _ _ _ _ _ _ _ _ _ (F0 m 14 ls [])
  have hr9 : r ≤ 9 := hr9
  have hq : q + vbL r z = 1 + vbL 9 (us7 (cF v)) := hq
  refine lv_iload hx hb dc_B_varintBytes_14 (lv_at hl 0 rfl) ?_
  refine lv_bipush (v := 10) hx hb dc_B_varintBytes_16 (by decide) ?_
  refine lv_icmp_ge (tgt := 41) hx hb dc_B_varintBytes_18 (by decide) (fun c_4 => ?_) (fun c_4 => ?_)
  · have hz0 : vbL r z = 0 := vbL_0 (Or.inl (rn_0 c_4 hr9))
    refine lv_iload hx hb dc_B_varintBytes_41 (lv_at hl 1 rfl) ?_
    have hP9 := hP.sub (ws' := []) [] rfl
    have hD9 := hD.sub (ws' := []) [] (by decide) rfl
    have hK9 := hK.sub (tys' := []) [] rfl
    exact W.iret (v := (nI q)) hx hb hr (fun t ht hW => ⟨⟨(nI q), (), rfl, by unfold vbC; rw [← hq, hz0]; rfl, by rw [ht]; exact hP9, va_K.moved hW.alike hK9, hD9⟩, hS.F ht⟩) hS.2.2 dc_B_varintBytes_43
  · have hrp : 0 < r := rn_pos c_4
    refine lv_lload_n hx hb dc_B_varintBytes_21 rfl (lv_at hl 2 rfl) ?_
    refine lv_lconst (v := 0) hx hb dc_B_varintBytes_22 rfl ?_
    refine W.lcmp hx hb dc_B_varintBytes_23 ?_
    refine lv_if_eq (tgt := 41) hx hb dc_B_varintBytes_24 (by decide) (fun c_5 => ?_) (fun c_5 => ?_)
    · have c_5 : z = 0 := (lg_cmp_eq _ _).mp c_5
      have hz0 : vbL r z = 0 := vbL_0 (Or.inr c_5)
      refine lv_iload hx hb dc_B_varintBytes_41 (lv_at hl 1 rfl) ?_
      have hP9 := hP.sub (ws' := []) [] rfl
      have hD9 := hD.sub (ws' := []) [] (by decide) rfl
      have hK9 := hK.sub (tys' := []) [] rfl
      exact W.iret (v := (nI q)) hx hb hr (fun t ht hW => ⟨⟨(nI q), (), rfl, by unfold vbC; rw [← hq, hz0]; rfl, by rw [ht]; exact hP9, va_K.moved hW.alike hK9, hD9⟩, hS.F ht⟩) hS.2.2 dc_B_varintBytes_43
    · have c_5 : ¬ (z = 0) := fun h => c_5 ((lg_cmp_eq _ _).mpr h)
      have hz := c_5
      refine lv_lload_n hx hb dc_B_varintBytes_27 rfl (lv_at hl 2 rfl) ?_
      refine lv_bipush (v := 7) hx hb dc_B_varintBytes_28 (by decide) ?_
      refine lv_lushr (v := (z.toUInt64 >>> ((7 : Int32).toInt64.toUInt64 &&& Int64.toUInt64 63)).toInt64) hx hb dc_B_varintBytes_30 rfl ?_
      refine lv_lstore_n (lv' := [(2, .long ((z.toUInt64 >>> ((7 : Int32).toInt64.toUInt64 &&& Int64.toUInt64 63)).toInt64)), (5, .int (nI (10 - r))), (4, .int (nI q)), (0, .long v)]) hx hb dc_B_varintBytes_31 rfl hl (by decide) rfl (fun ls hl => ?_)
      refine lv_iinc (v := ((nI q) + 1)) (lv' := [(4, .int ((nI q) + 1)), (2, .long ((z.toUInt64 >>> ((7 : Int32).toInt64.toUInt64 &&& Int64.toUInt64 63)).toInt64)), (5, .int (nI (10 - r))), (0, .long v)]) hx hb dc_B_varintBytes_32 hl (k := 2) rfl rfl (by decide) rfl (fun ls hl => ?_)
      refine lv_iinc (v := ((nI (10 - r)) + 1)) (lv' := [(5, .int ((nI (10 - r)) + 1)), (4, .int ((nI q) + 1)), (2, .long ((z.toUInt64 >>> ((7 : Int32).toInt64.toUInt64 &&& Int64.toUInt64 63)).toInt64)), (0, .long v)]) hx hb dc_B_varintBytes_35 hl (k := 2) rfl rfl (by decide) rfl (fun ls hl => ?_)
      refine lv_goto (tgt := 14) hx hb dc_B_varintBytes_38 (by decide) ?_
      have e_6 : ((nI (10 - r)) + 1) = (nI (10 - (r - 1))) := by first | exact nI_1 _ | exact rn_step hrp hr9 | rfl
      have e_7 : ((nI q) + 1) = (nI (q + 1)) := by first | exact nI_1 _ | exact rn_step hrp hr9 | rfl
      have e_8 : ((z.toUInt64 >>> ((7 : Int32).toInt64.toUInt64 &&& Int64.toUInt64 63)).toInt64) = (us7 z) := by first | exact nI_1 _ | exact rn_step hrp hr9 | rfl
      have hl := wL_eq (lv' := [(5, .int (nI (10 - (r - 1)))), (4, .int (nI (q + 1))), (2, .long (us7 z)), (0, .long v)]) hl (cg3 (fun y0 y1 y2 => ([(5, .int y0), (4, .int y1), (2, .long y2), (0, .long v)] : List (Nat × Value))) e_6 e_7 e_8)
      exact ih14 (r - 1, q + 1, us7 z) _ _ _ ⟨by show (r - 1) ≤ 9; omega, by show (q + 1) + vbL (r - 1) (us7 z) = 1 + vbL 9 (us7 (cF v)); rw [← hq, vbL_pos hrp hz]; omega, hP.sub [] rfl, hD.sub [] (by decide) rfl, hS, lv_sub hl [0, 1, 2, 3] rfl⟩ (by show (r - 1) < r; omega)

set_option maxHeartbeats 1000000 in
set_option maxRecDepth 100000 in
theorem c_T_putNumber (l : Launch) (dC : Nat → ClassId) (dI : Nat → Nat → Nat) (sz : Nat) (aT : Nat) (aR : Nat) (cA : ClassId) (n : Nat) (f : Nat → Int32) (k : Nat) (ch : Int32) (v : Int64) (j : Nat) (hk : k + j ≤ n) (hn : n ≤ 16384) : Met l my_T_putNumber (wB my_T_putNumber cd_T_putNumber 5 none) ({ frames := 2, cells := 0, slots := 0, locals := 43 }) (va_Pc [.ref aT, .long v, .int (nI j)] (PcW (dC, dI) [(aT, .inr (5, [.ref aR, .int (nI k), .int ch])), (aR, .inl (cA, n, .inl f))] [(cA, .byte)] sz)) (va_Qv (fun (_ : Unit) => True) (fun _ => EnW (dC, dI) (va_A [(aT, .inr (5, [.ref aR, .int (nI k), .int ch])), (aR, .inl (cA, n, .inl f))] sz) [(aT, .inr (5, [.ref aR, .int (nI (k + j)), .int (if j = 0 then ch else 1)])), (aR, .inl (cA, n, .inl (wrB f k (numL v j))))] [(cA, .byte)]) (va_A [(aT, .inr (5, [.ref aR, .int (nI k), .int ch])), (aR, .inl (cA, n, .inl f))] sz)) 0 0 (va_A [(aT, .inr (5, [.ref aR, .int (nI k), .int ch])), (aR, .inl (cA, n, .inl f))] sz) := by
  refine Met.ofW (cc := cd_T_putNumber) (maxL := 5) (ret := none) (by decide) rfl ?_
  intro p e s m args below meth c s₁ B hml hv
  obtain ⟨rfl, hsz, hP, hK, hD0, hG⟩ := hv
  have hx := B.exec
  have hb := B.bytes
  have hr := B.returns
  have hts := fun (w : Cond) (h : w ∈ bigT) => atoms_spec (ws := (wB my_T_putNumber cd_T_putNumber 5 none)) B.pre w (List.mem_cons_of_mem _ h)
  have hown : s.vm.findClass rn_T = some m.cls := findClass_of_methodNamed B.named
  have hlocks := B.notSynchronized
  subst hsz
  have hD := hD0.self (sz := s.heap.size)
  generalize hAe : va_A [(aT, .inr (5, [.ref aR, .int (nI k), .int ch])), (aR, .inl (cA, n, .inl f))] s.heap.size = A at hD hG ⊢
  have hA : ∀ q : Nat, s.heap.size ≤ q → A q := fun q h => by rw [← hAe]; exact Or.inr h
  have hS : va_S A s.heap s.heap [] := va_S.rf
  have hP : va_P (dC, dI) vwCl [(aT, .inr (5, [.ref aR, .int (nI k), .int ch])), (aR, .inl (cA, n, .inl f))] s.heap := hP
  have hl := lv_entry ([.ref aT, .long v, .int (nI j)]) (n := 5) (Nat.le_of_ble_eq_true rfl)
  rw [lg_entry_eq]
  generalize (lg_sl ([.ref aT, .long v, .int (nI j)]) ++ List.replicate (5 - (lg_sl ([.ref aT, .long v, .int (nI j)])).length) Slot.unset).toArray = ls at hl ⊢
  have hl : lv_has ls 5 [(0, .ref aT), (1, .long v), (3, .int (nI j))] := hl
  refine lv_iload_n hx hb dc_T_putNumber_0 rfl (lv_at hl 2 rfl) ?_
  refine lv_iconst (v := 1) hx hb dc_T_putNumber_1 (by decide) ?_
  refine lv_isub hx hb dc_T_putNumber_2 ?_
  refine lv_istore (lv' := [(4, .int ((nI j) - 1)), (0, .ref aT), (1, .long v), (3, .int (nI j))]) hx hb dc_T_putNumber_3 hl (by decide) rfl (fun ls hl => ?_)
  refine w_loop (σ := Nat × Nat × (Nat → Int32) × Int32) (fun x H locs ls => x.2.1 + x.1 = k + j ∧ wrB x.2.2.1 x.2.1 (numL v x.1) = wrB f k (numL v j) ∧ (if x.1 = 0 then x.2.2.2 else 1) = (if j = 0 then ch else 1) ∧ va_P (dC, dI) vwCl [(aT, .inr (5, [.ref aR, .int (nI x.2.1), .int x.2.2.2])), (aR, .inl (cA, n, .inl x.2.2.1))] H ∧ va_D A [(aT, .inr (5, [.ref aR, .int (nI x.2.1), .int x.2.2.2])), (aR, .inl (cA, n, .inl x.2.2.1))] ∧ va_S A s.heap H locs ∧ lv_has ls 5 [(4, .int ((nI x.1) - 1)), (0, .ref aT), (1, .long v)]) (fun x ls => F0 m 5 ls []) (fun _ => 0) (fun _ => 0) (fun x => x.1) ?_ (j, k, f, ch) _ _ _ ⟨by show k + j = k + j; omega, (show wrB f k (numL v j) = wrB f k (numL v j) from rfl), (show (if j = 0 then ch else 1) = (if j = 0 then ch else 1) from rfl), hP.sub [0, 1] rfl, hD.sub [0, 1] (by decide) rfl, hS, lv_sub hl [0, 1, 2] rfl⟩
  rintro ⟨i, kk, ff, hh⟩ H locs ls ⟨hi, hf, hh1, hP, hD, hS, hl⟩ ih5
  have hP : va_P (dC, dI) vwCl [(aT, .inr (5, [.ref aR, .int (nI kk), .int hh])), (aR, .inl (cA, n, .inl ff))] H := hP
  have hD : va_D A [(aT, .inr (5, [.ref aR, .int (nI kk), .int hh])), (aR, .inl (cA, n, .inl ff))] := hD
  have hl : lv_has ls 5 [(4, .int ((nI i) - 1)), (0, .ref aT), (1, .long v)] := hl
  show W _ _ _ _ _ _ _ _ _ _ _ _ _ _ _ (F0 m 5 ls [])
  have hi : kk + i = k + j := hi
  have hf : wrB ff kk (numL v i) = wrB f k (numL v j) := hf
  have hh1 : (if i = 0 then hh else 1) = (if j = 0 then ch else 1) := hh1
  refine lv_iload hx hb dc_T_putNumber_5 (lv_at hl 0 rfl) ?_
  refine lv_if_lt (tgt := 28) hx hb dc_T_putNumber_7 (by decide) (fun c_1 => ?_) (fun c_1 => ?_)
  · obtain rfl : i = 0 := dn_neg c_1 (by omega)
    have e_2 : (nI kk) = (nI (k + j)) := by first | rfl | exact nI_1 _ | exact nI_add _ _ | exact (pk_sub (by omega)) | exact congrArg nI (by omega)
    have e_3 : hh = (if j = 0 then ch else 1) := by rw [← hh1]; rfl
    have e_4 : ff = (wrB f k (numL v j)) := by rw [← hf]; rfl
    have hP := wP_eq (ws' := [(aT, .inr (5, [.ref aR, .int (nI (k + j)), .int (if j = 0 then ch else 1)])), (aR, .inl (cA, n, .inl (wrB f k (numL v j))))]) hP (cg3 (fun y0 y1 y2 => ([(aT, .inr (5, [.ref aR, .int y0, .int y1])), (aR, .inl (cA, n, .inl y2))] : va_W)) e_2 e_3 e_4)
    have hD := wD_eq (ws' := [(aT, .inr (5, [.ref aR, .int (nI (k + j)), .int (if j = 0 then ch else 1)])), (aR, .inl (cA, n, .inl (wrB f k (numL v j))))]) hD (cg3 (fun y0 y1 y2 => ([(aT, .inr (5, [.ref aR, .int y0, .int y1])), (aR, .inl (cA, n, .inl y2))] : va_W)) e_2 e_3 e_4)
    have hP9 := hP.sub (ws' := [(aT, .inr (5, [.ref aR, .int (nI (k + j)), .int (if j = 0 then ch else 1)])), (aR, .inl (cA, n, .inl (wrB f k (numL v j))))]) [0, 1] rfl
    have hD9 := hD.sub (ws' := [(aT, .inr (5, [.ref aR, .int (nI (k + j)), .int (if j = 0 then ch else 1)])), (aR, .inl (cA, n, .inl (wrB f k (numL v j))))]) [0, 1] (by decide) rfl
    have hK9 := hK.sub (tys' := [(cA, .byte)]) [0] rfl
    exact W.vret hx hb hr (fun t ht hW => ⟨⟨(), rfl, trivial, by rw [ht]; exact hP9, va_K.moved hW.alike hK9, hD9⟩, hS.F ht⟩) hS.2.2 dc_T_putNumber_28
  · have hpos : 0 < i := dn_pos c_1
    refine lv_aload_n hx hb dc_T_putNumber_10 rfl (lv_at hl 1 rfl) ?_
    refine lv_lload_n hx hb dc_T_putNumber_11 rfl (lv_at hl 2 rfl) ?_
    refine lv_bipush (v := 8) hx hb dc_T_putNumber_12 (by decide) ?_
    refine lv_iload hx hb dc_T_putNumber_14 (lv_at hl 0 rfl) ?_
    refine lv_imul hx hb dc_T_putNumber_16 ?_
    refine lv_lshr (v := v >>> ((8 * ((nI i) - 1) : Int32).toInt64 &&& 63)) hx hb dc_T_putNumber_17 rfl ?_
    refine lv_l2i (v := (v >>> ((8 * ((nI i) - 1) : Int32).toInt64 &&& 63)).toInt32) hx hb dc_T_putNumber_18 rfl ?_
    refine kc_v (wc := [(aT, .inr (5, [.ref aR, .int (nI kk), .int hh])), (aR, .inl (cA, n, .inl ff))]) (wr := []) hP hD hS hA [0, 1] [] rfl rfl (by decide) (by decide) (va_runV (As := [.int ((v >>> ((8 * ((nI i) - 1) : Int32).toInt64 &&& 63)).toInt32)]) (rest := []) ⟨hx, hb, hml, hown, hts⟩ (c_T_add l dC dI _ aT aR cA n ff kk hh ((v >>> ((8 * ((nI i) - 1) : Int32).toInt64 &&& 63)).toInt32) (by omega) (by omega)) (kw_V 1 hts bw2_67 bw2_68 bw2_69 bw1_2 bw2_70 rfl rfl (by decide +kernel) ⟨Nat.le_of_ble_eq_true rfl, Nat.le_of_ble_eq_true rfl⟩) (kp_V (wc := [(aT, .inr (5, [.ref aR, .int (nI kk), .int hh])), (aR, .inl (cA, n, .inl ff))]) (tc := [(cA, .byte)]) (As := [.int ((v >>> ((8 * ((nI i) - 1) : Int32).toInt64 &&& 63)).toInt32)]) hG hS hA hP hD hK [0, 1] rfl (by decide) rfl [0] rfl (ci := 5) (q0 := 0) rfl rfl) rfl rfl hl.1 rfl (lv_room (Nat.le_of_ble_eq_true rfl)) dc_T_putNumber_19 ⟨Nat.zero_le _, Nat.zero_le _⟩) (fun _ H locs hw hP hD hK1 hS => ?_)
    have hP : va_P (dC, dI) vwCl [(aT, .inr (5, [.ref aR, .int (nI (kk + 1)), .int 1])), (aR, .inl (cA, n, .inl (upd ff kk ((v >>> ((8 * ((nI i) - 1) : Int32).toInt64 &&& 63)).toInt32).toInt8.toInt32)))] H := hP
    have hD : va_D A [(aT, .inr (5, [.ref aR, .int (nI (kk + 1)), .int 1])), (aR, .inl (cA, n, .inl (upd ff kk ((v >>> ((8 * ((nI i) - 1) : Int32).toInt64 &&& 63)).toInt32).toInt8.toInt32)))] := hD
    refine lv_iinc (v := (((nI i) - 1) + (-1))) (lv' := [(4, .int (((nI i) - 1) + (-1))), (0, .ref aT), (1, .long v)]) hx hb dc_T_putNumber_22 hl (k := 0) rfl rfl (by decide) rfl (fun ls hl => ?_)
    refine lv_goto (tgt := 5) hx hb dc_T_putNumber_25 (by decide) ?_
    obtain ⟨w_6, hw_6⟩ : ∃ y, y = (upd ff kk ((v >>> ((8 * ((nI i) - 1) : Int32).toInt64 &&& 63)).toInt32).toInt8.toInt32) := ⟨_, rfl⟩
    have e_7 : (upd ff kk ((v >>> ((8 * ((nI i) - 1) : Int32).toInt64 &&& 63)).toInt32).toInt8.toInt32) = w_6 := by exact hw_6.symm
    have hP := wP_eq (ws' := [(aT, .inr (5, [.ref aR, .int (nI (kk + 1)), .int 1])), (aR, .inl (cA, n, .inl w_6))]) hP (cg1 (fun y0 => ([(aT, .inr (5, [.ref aR, .int (nI (kk + 1)), .int 1])), (aR, .inl (cA, n, .inl y0))] : va_W)) e_7)
    have hD := wD_eq (ws' := [(aT, .inr (5, [.ref aR, .int (nI (kk + 1)), .int 1])), (aR, .inl (cA, n, .inl w_6))]) hD (cg1 (fun y0 => ([(aT, .inr (5, [.ref aR, .int (nI (kk + 1)), .int 1])), (aR, .inl (cA, n, .inl y0))] : va_W)) e_7)
    have e_8 : (((nI i) - 1) + (-1)) = ((nI (i - 1)) - 1) := by first | exact dn_step hpos | rfl
    have hl := wL_eq (lv' := [(4, .int ((nI (i - 1)) - 1)), (0, .ref aT), (1, .long v)]) hl (cg1 (fun y0 => ([(4, .int y0), (0, .ref aT), (1, .long v)] : List (Nat × Value))) e_8)
    exact ih5 (i - 1, kk + 1, w_6, 1) _ _ _ ⟨by show (kk + 1) + (i - 1) = k + j; omega, by show wrB w_6 (kk + 1) (numL v (i - 1)) = wrB f k (numL v j); (try simp only [hw_6]); rw [← hf, numL_pos v hpos]; rfl, by show (if (i - 1) = 0 then 1 else 1) = (if j = 0 then ch else 1); (try simp only [hw_6]); rw [← hh1, if_neg (show ¬ i = 0 by omega)]; split <;> rfl, hP.sub [0, 1] rfl, hD.sub [0, 1] (by decide) rfl, hS, lv_sub hl [0, 1, 2] rfl⟩ (by show (i - 1) < i; omega)

set_option maxHeartbeats 1000000 in
set_option maxRecDepth 100000 in
theorem c_T_putVarint (l : Launch) (dC : Nat → ClassId) (dI : Nat → Nat → Nat) (sz : Nat) (aT : Nat) (aR : Nat) (cA : ClassId) (n : Nat) (f : Nat → Int32) (k : Nat) (ch : Int32) (v : Int64) (hk : k + (vlC (cF v) 9).length ≤ n) (hn : n ≤ 16384) : Met l my_T_putVarint (wB my_T_putVarint cd_T_putVarint 6 none) ({ frames := 2, cells := 0, slots := 0, locals := 43 }) (va_Pc [.ref aT, .long v] (PcW (dC, dI) [(aT, .inr (5, [.ref aR, .int (nI k), .int ch])), (aR, .inl (cA, n, .inl f))] [(cA, .byte)] sz)) (va_Qv (fun (_ : Unit) => True) (fun _ => EnW (dC, dI) (va_A [(aT, .inr (5, [.ref aR, .int (nI k), .int ch])), (aR, .inl (cA, n, .inl f))] sz) [(aT, .inr (5, [.ref aR, .int (nI (k + (vlC (cF v) 9).length)), .int 1])), (aR, .inl (cA, n, .inl (wrB f k (vlC (cF v) 9))))] [(cA, .byte)]) (va_A [(aT, .inr (5, [.ref aR, .int (nI k), .int ch])), (aR, .inl (cA, n, .inl f))] sz)) 0 0 (va_A [(aT, .inr (5, [.ref aR, .int (nI k), .int ch])), (aR, .inl (cA, n, .inl f))] sz) := by
  refine Met.ofW (cc := cd_T_putVarint) (maxL := 6) (ret := none) (by decide) rfl ?_
  intro p e s m args below meth c s₁ B hml hv
  obtain ⟨rfl, hsz, hP, hK, hD0, hG⟩ := hv
  have hx := B.exec
  have hb := B.bytes
  have hr := B.returns
  have hts := fun (w : Cond) (h : w ∈ bigT) => atoms_spec (ws := (wB my_T_putVarint cd_T_putVarint 6 none)) B.pre w (List.mem_cons_of_mem _ h)
  have hown : s.vm.findClass rn_T = some m.cls := findClass_of_methodNamed B.named
  have hlocks := B.notSynchronized
  subst hsz
  have hD := hD0.self (sz := s.heap.size)
  generalize hAe : va_A [(aT, .inr (5, [.ref aR, .int (nI k), .int ch])), (aR, .inl (cA, n, .inl f))] s.heap.size = A at hD hG ⊢
  have hA : ∀ q : Nat, s.heap.size ≤ q → A q := fun q h => by rw [← hAe]; exact Or.inr h
  have hS : va_S A s.heap s.heap [] := va_S.rf
  have hP : va_P (dC, dI) vwCl [(aT, .inr (5, [.ref aR, .int (nI k), .int ch])), (aR, .inl (cA, n, .inl f))] s.heap := hP
  have hl := lv_entry ([.ref aT, .long v]) (n := 6) (Nat.le_of_ble_eq_true rfl)
  rw [lg_entry_eq]
  generalize (lg_sl ([.ref aT, .long v]) ++ List.replicate (6 - (lg_sl ([.ref aT, .long v])).length) Slot.unset).toArray = ls at hl ⊢
  have hl : lv_has ls 6 [(0, .ref aT), (1, .long v)] := hl
  refine lv_lload_n hx hb dc_T_putVarint_0 rfl (lv_at hl 1 rfl) ?_
  refine kc_l (wc := []) (wr := [(aT, .inr (5, [.ref aR, .int (nI k), .int ch])), (aR, .inl (cA, n, .inl f))]) hP hD hS hA [] [0, 1] rfl rfl (by decide) (by decide) (va_runSN (As := [.long v]) (rest := []) ⟨hx, hb, hml, hown, hts⟩ (c_B_folded l dC dI _ v ) (kw_N (host := "BatchBytes") 1 hts hG.1 (by decide +kernel) bw2_166 bw1_1 bw2_167 rfl rfl (by decide +kernel) ⟨Nat.le_of_ble_eq_true rfl, Nat.le_of_ble_eq_true rfl⟩) (kp_S (wc := []) (tc := []) (av := [.long v]) hG hS hA hP hD hK [] rfl (by decide) rfl [] rfl) rfl rfl hl.1 rfl (lv_room (Nat.le_of_ble_eq_true rfl)) dc_T_putVarint_1 ⟨Nat.zero_le _, Nat.zero_le _⟩) (fun r_1 _ H locs hw hP hD hK1 hS => ?_)
  subst hw
  have hP : va_P (dC, dI) vwCl [(aT, .inr (5, [.ref aR, .int (nI k), .int ch])), (aR, .inl (cA, n, .inl f))] H := hP
  have hD : va_D A [(aT, .inr (5, [.ref aR, .int (nI k), .int ch])), (aR, .inl (cA, n, .inl f))] := hD
  refine lv_lstore_n (lv' := [(3, .long (cF v)), (0, .ref aT), (1, .long v)]) hx hb dc_T_putVarint_4 rfl hl (by decide) rfl (fun ls hl => ?_)
  refine lv_iconst (v := 1) hx hb dc_T_putVarint_5 (by decide) ?_
  refine lv_istore (lv' := [(5, .int 1), (3, .long (cF v)), (0, .ref aT), (1, .long v)]) hx hb dc_T_putVarint_6 hl (by decide) rfl (fun ls hl => ?_)
  have e_2 : 1 = (nI (10 - 9)) := by rfl
  have hl := wL_eq (lv' := [(5, .int (nI (10 - 9))), (3, .long (cF v)), (0, .ref aT), (1, .long v)]) hl (cg1 (fun y0 => ([(5, .int y0), (3, .long (cF v)), (0, .ref aT), (1, .long v)] : List (Nat × Value))) e_2)
  refine w_loop (σ := Nat × Int64 × Nat × (Nat → Int32) × Int32) (fun x H locs ls => x.1 ≤ 9 ∧ x.2.2.1 + (vlC x.2.1 x.1).length = k + (vlC (cF v) 9).length ∧ wrB x.2.2.2.1 x.2.2.1 (vlC x.2.1 x.1) = wrB f k (vlC (cF v) 9) ∧ va_P (dC, dI) vwCl [(aT, .inr (5, [.ref aR, .int (nI x.2.2.1), .int x.2.2.2.2])), (aR, .inl (cA, n, .inl x.2.2.2.1))] H ∧ va_D A [(aT, .inr (5, [.ref aR, .int (nI x.2.2.1), .int x.2.2.2.2])), (aR, .inl (cA, n, .inl x.2.2.2.1))] ∧ va_S A s.heap H locs ∧ lv_has ls 6 [(5, .int (nI (10 - x.1))), (3, .long x.2.1), (0, .ref aT), (1, .long v)]) (fun x ls => F0 m 8 ls []) (fun _ => 0) (fun _ => 0) (fun x => x.1) ?_ (9, cF v, k, f, ch) _ _ _ ⟨by show 9 ≤ 9; omega, (show k + (vlC (cF v) 9).length = k + (vlC (cF v) 9).length from rfl), (show wrB f k (vlC (cF v) 9) = wrB f k (vlC (cF v) 9) from rfl), hP.sub [0, 1] rfl, hD.sub [0, 1] (by decide) rfl, hS, lv_sub hl [0, 1, 2, 3] rfl⟩
  rintro ⟨r, z, kk, ff, hh⟩ H locs ls ⟨hr9, hi, hf, hP, hD, hS, hl⟩ ih8
  have hP : va_P (dC, dI) vwCl [(aT, .inr (5, [.ref aR, .int (nI kk), .int hh])), (aR, .inl (cA, n, .inl ff))] H := hP
  have hD : va_D A [(aT, .inr (5, [.ref aR, .int (nI kk), .int hh])), (aR, .inl (cA, n, .inl ff))] := hD
  have hl : lv_has ls 6 [(5, .int (nI (10 - r))), (3, .long z), (0, .ref aT), (1, .long v)] := hl
  show W _ _ _ _ _ _ _ _ _ _ _ _ _ _ _ (F0 m 8 ls [])
  have hr9 : r ≤ 9 := hr9
  have hi : kk + (vlC z r).length = k + (vlC (cF v) 9).length := hi
  have hf : wrB ff kk (vlC z r) = wrB f k (vlC (cF v) 9) := hf
  refine lv_iload hx hb dc_T_putVarint_8 (lv_at hl 0 rfl) ?_
  refine lv_bipush (v := 10) hx hb dc_T_putVarint_10 (by decide) ?_
  refine lv_icmp_ge (tgt := 49) hx hb dc_T_putVarint_12 (by decide) (fun c_3 => ?_) (fun c_3 => ?_)
  · have hz0 : vlC z r = [z.toInt32] := vlC_0 (Or.inl (rn_0 c_3 hr9))
    have hl1 := congrArg List.length hz0
    have hl2 : ([z.toInt32] : List Int32).length = 1 := rfl
    refine lv_aload_n hx hb dc_T_putVarint_49 rfl (lv_at hl 2 rfl) ?_
    refine lv_lload_n hx hb dc_T_putVarint_50 rfl (lv_at hl 1 rfl) ?_
    refine lv_l2i (v := z.toInt32) hx hb dc_T_putVarint_51 rfl ?_
    refine kc_v (wc := [(aT, .inr (5, [.ref aR, .int (nI kk), .int hh])), (aR, .inl (cA, n, .inl ff))]) (wr := []) hP hD hS hA [0, 1] [] rfl rfl (by decide) (by decide) (va_runV (As := [.int z.toInt32]) (rest := []) ⟨hx, hb, hml, hown, hts⟩ (c_T_add l dC dI _ aT aR cA n ff kk hh z.toInt32 (by omega) (by omega)) (kw_V 1 hts bw2_67 bw2_68 bw2_69 bw1_2 bw2_70 rfl rfl (by decide +kernel) ⟨Nat.le_of_ble_eq_true rfl, Nat.le_of_ble_eq_true rfl⟩) (kp_V (wc := [(aT, .inr (5, [.ref aR, .int (nI kk), .int hh])), (aR, .inl (cA, n, .inl ff))]) (tc := [(cA, .byte)]) (As := [.int z.toInt32]) hG hS hA hP hD hK [0, 1] rfl (by decide) rfl [0] rfl (ci := 5) (q0 := 0) rfl rfl) rfl rfl hl.1 rfl (lv_room (Nat.le_of_ble_eq_true rfl)) dc_T_putVarint_52 ⟨Nat.zero_le _, Nat.zero_le _⟩) (fun _ H locs hw hP hD hK1 hS => ?_)
    have hP : va_P (dC, dI) vwCl [(aT, .inr (5, [.ref aR, .int (nI (kk + 1)), .int 1])), (aR, .inl (cA, n, .inl (upd ff kk z.toInt32.toInt8.toInt32)))] H := hP
    have hD : va_D A [(aT, .inr (5, [.ref aR, .int (nI (kk + 1)), .int 1])), (aR, .inl (cA, n, .inl (upd ff kk z.toInt32.toInt8.toInt32)))] := hD
    have e_5 : (nI (kk + 1)) = (nI (k + (vlC (cF v) 9).length)) := by first | rfl | exact nI_1 _ | exact nI_add _ _ | exact (pk_sub (by omega)) | exact congrArg nI (by omega)
    have e_6 : (upd ff kk z.toInt32.toInt8.toInt32) = (wrB f k (vlC (cF v) 9)) := by rw [← hf, hz0]; rfl
    have hP := wP_eq (ws' := [(aT, .inr (5, [.ref aR, .int (nI (k + (vlC (cF v) 9).length)), .int 1])), (aR, .inl (cA, n, .inl (wrB f k (vlC (cF v) 9))))]) hP (cg2 (fun y0 y1 => ([(aT, .inr (5, [.ref aR, .int y0, .int 1])), (aR, .inl (cA, n, .inl y1))] : va_W)) e_5 e_6)
    have hD := wD_eq (ws' := [(aT, .inr (5, [.ref aR, .int (nI (k + (vlC (cF v) 9).length)), .int 1])), (aR, .inl (cA, n, .inl (wrB f k (vlC (cF v) 9))))]) hD (cg2 (fun y0 y1 => ([(aT, .inr (5, [.ref aR, .int y0, .int 1])), (aR, .inl (cA, n, .inl y1))] : va_W)) e_5 e_6)
    have hP9 := hP.sub (ws' := [(aT, .inr (5, [.ref aR, .int (nI (k + (vlC (cF v) 9).length)), .int 1])), (aR, .inl (cA, n, .inl (wrB f k (vlC (cF v) 9))))]) [0, 1] rfl
    have hD9 := hD.sub (ws' := [(aT, .inr (5, [.ref aR, .int (nI (k + (vlC (cF v) 9).length)), .int 1])), (aR, .inl (cA, n, .inl (wrB f k (vlC (cF v) 9))))]) [0, 1] (by decide) rfl
    have hK9 := hK.sub (tys' := [(cA, .byte)]) [0] rfl
    exact W.vret hx hb hr (fun t ht hW => ⟨⟨(), rfl, trivial, by rw [ht]; exact hP9, va_K.moved hW.alike hK9, hD9⟩, hS.F ht⟩) hS.2.2 dc_T_putVarint_55
  · have hrp : 0 < r := rn_pos c_3
    refine lv_lload_n hx hb dc_T_putVarint_15 rfl (lv_at hl 1 rfl) ?_
    refine lv_bipush (v := 7) hx hb dc_T_putVarint_16 (by decide) ?_
    refine lv_lushr (v := (z.toUInt64 >>> ((7 : Int32).toInt64.toUInt64 &&& Int64.toUInt64 63)).toInt64) hx hb dc_T_putVarint_18 rfl ?_
    refine lv_lconst (v := 0) hx hb dc_T_putVarint_19 rfl ?_
    refine W.lcmp hx hb dc_T_putVarint_20 ?_
    refine lv_if_eq (tgt := 49) hx hb dc_T_putVarint_21 (by decide) (fun c_7 => ?_) (fun c_7 => ?_)
    · have c_7 : ((z.toUInt64 >>> ((7 : Int32).toInt64.toUInt64 &&& Int64.toUInt64 63)).toInt64) = 0 := (lg_cmp_eq _ _).mp c_7
      have hz0 : vlC z r = [z.toInt32] := vlC_0 (Or.inr c_7)
      have hl1 := congrArg List.length hz0
      have hl2 : ([z.toInt32] : List Int32).length = 1 := rfl
      refine lv_aload_n hx hb dc_T_putVarint_49 rfl (lv_at hl 2 rfl) ?_
      refine lv_lload_n hx hb dc_T_putVarint_50 rfl (lv_at hl 1 rfl) ?_
      refine lv_l2i (v := z.toInt32) hx hb dc_T_putVarint_51 rfl ?_
      refine kc_v (wc := [(aT, .inr (5, [.ref aR, .int (nI kk), .int hh])), (aR, .inl (cA, n, .inl ff))]) (wr := []) hP hD hS hA [0, 1] [] rfl rfl (by decide) (by decide) (va_runV (As := [.int z.toInt32]) (rest := []) ⟨hx, hb, hml, hown, hts⟩ (c_T_add l dC dI _ aT aR cA n ff kk hh z.toInt32 (by omega) (by omega)) (kw_V 1 hts bw2_67 bw2_68 bw2_69 bw1_2 bw2_70 rfl rfl (by decide +kernel) ⟨Nat.le_of_ble_eq_true rfl, Nat.le_of_ble_eq_true rfl⟩) (kp_V (wc := [(aT, .inr (5, [.ref aR, .int (nI kk), .int hh])), (aR, .inl (cA, n, .inl ff))]) (tc := [(cA, .byte)]) (As := [.int z.toInt32]) hG hS hA hP hD hK [0, 1] rfl (by decide) rfl [0] rfl (ci := 5) (q0 := 0) rfl rfl) rfl rfl hl.1 rfl (lv_room (Nat.le_of_ble_eq_true rfl)) dc_T_putVarint_52 ⟨Nat.zero_le _, Nat.zero_le _⟩) (fun _ H locs hw hP hD hK1 hS => ?_)
      have hP : va_P (dC, dI) vwCl [(aT, .inr (5, [.ref aR, .int (nI (kk + 1)), .int 1])), (aR, .inl (cA, n, .inl (upd ff kk z.toInt32.toInt8.toInt32)))] H := hP
      have hD : va_D A [(aT, .inr (5, [.ref aR, .int (nI (kk + 1)), .int 1])), (aR, .inl (cA, n, .inl (upd ff kk z.toInt32.toInt8.toInt32)))] := hD
      have e_9 : (nI (kk + 1)) = (nI (k + (vlC (cF v) 9).length)) := by first | rfl | exact nI_1 _ | exact nI_add _ _ | exact (pk_sub (by omega)) | exact congrArg nI (by omega)
      have e_10 : (upd ff kk z.toInt32.toInt8.toInt32) = (wrB f k (vlC (cF v) 9)) := by rw [← hf, hz0]; rfl
      have hP := wP_eq (ws' := [(aT, .inr (5, [.ref aR, .int (nI (k + (vlC (cF v) 9).length)), .int 1])), (aR, .inl (cA, n, .inl (wrB f k (vlC (cF v) 9))))]) hP (cg2 (fun y0 y1 => ([(aT, .inr (5, [.ref aR, .int y0, .int 1])), (aR, .inl (cA, n, .inl y1))] : va_W)) e_9 e_10)
      have hD := wD_eq (ws' := [(aT, .inr (5, [.ref aR, .int (nI (k + (vlC (cF v) 9).length)), .int 1])), (aR, .inl (cA, n, .inl (wrB f k (vlC (cF v) 9))))]) hD (cg2 (fun y0 y1 => ([(aT, .inr (5, [.ref aR, .int y0, .int 1])), (aR, .inl (cA, n, .inl y1))] : va_W)) e_9 e_10)
      have hP9 := hP.sub (ws' := [(aT, .inr (5, [.ref aR, .int (nI (k + (vlC (cF v) 9).length)), .int 1])), (aR, .inl (cA, n, .inl (wrB f k (vlC (cF v) 9))))]) [0, 1] rfl
      have hD9 := hD.sub (ws' := [(aT, .inr (5, [.ref aR, .int (nI (k + (vlC (cF v) 9).length)), .int 1])), (aR, .inl (cA, n, .inl (wrB f k (vlC (cF v) 9))))]) [0, 1] (by decide) rfl
      have hK9 := hK.sub (tys' := [(cA, .byte)]) [0] rfl
      exact W.vret hx hb hr (fun t ht hW => ⟨⟨(), rfl, trivial, by rw [ht]; exact hP9, va_K.moved hW.alike hK9, hD9⟩, hS.F ht⟩) hS.2.2 dc_T_putVarint_55
    · have c_7 : ¬ (((z.toUInt64 >>> ((7 : Int32).toInt64.toUInt64 &&& Int64.toUInt64 63)).toInt64) = 0) := fun h => c_7 ((lg_cmp_eq _ _).mpr h)
      have hz : ¬ us7 z = 0 := c_7
      have hl1 := vlC_len z r
      refine lv_aload_n hx hb dc_T_putVarint_24 rfl (lv_at hl 2 rfl) ?_
      refine lv_lload_n hx hb dc_T_putVarint_25 rfl (lv_at hl 1 rfl) ?_
      refine lv_ldc2 (v := 127) hx hb hown (hts _ bw3_34) dc_T_putVarint_26 ?_
      refine lv_land hx hb dc_T_putVarint_29 ?_
      refine lv_l2i (v := (z &&& 127).toInt32) hx hb dc_T_putVarint_30 rfl ?_
      refine lv_sipush (v := 128) hx hb dc_T_putVarint_31 (by decide) ?_
      refine lv_ior hx hb dc_T_putVarint_34 ?_
      refine kc_v (wc := [(aT, .inr (5, [.ref aR, .int (nI kk), .int hh])), (aR, .inl (cA, n, .inl ff))]) (wr := []) hP hD hS hA [0, 1] [] rfl rfl (by decide) (by decide) (va_runV (As := [.int (((z &&& 127).toInt32) ||| 128)]) (rest := []) ⟨hx, hb, hml, hown, hts⟩ (c_T_add l dC dI _ aT aR cA n ff kk hh (((z &&& 127).toInt32) ||| 128) (by omega) (by omega)) (kw_V 1 hts bw2_67 bw2_68 bw2_69 bw1_2 bw2_70 rfl rfl (by decide +kernel) ⟨Nat.le_of_ble_eq_true rfl, Nat.le_of_ble_eq_true rfl⟩) (kp_V (wc := [(aT, .inr (5, [.ref aR, .int (nI kk), .int hh])), (aR, .inl (cA, n, .inl ff))]) (tc := [(cA, .byte)]) (As := [.int (((z &&& 127).toInt32) ||| 128)]) hG hS hA hP hD hK [0, 1] rfl (by decide) rfl [0] rfl (ci := 5) (q0 := 0) rfl rfl) rfl rfl hl.1 rfl (lv_room (Nat.le_of_ble_eq_true rfl)) dc_T_putVarint_35 ⟨Nat.zero_le _, Nat.zero_le _⟩) (fun _ H locs hw hP hD hK1 hS => ?_)
      have hP : va_P (dC, dI) vwCl [(aT, .inr (5, [.ref aR, .int (nI (kk + 1)), .int 1])), (aR, .inl (cA, n, .inl (upd ff kk (((z &&& 127).toInt32) ||| 128).toInt8.toInt32)))] H := hP
      have hD : va_D A [(aT, .inr (5, [.ref aR, .int (nI (kk + 1)), .int 1])), (aR, .inl (cA, n, .inl (upd ff kk (((z &&& 127).toInt32) ||| 128).toInt8.toInt32)))] := hD
      refine lv_lload_n hx hb dc_T_putVarint_38 rfl (lv_at hl 1 rfl) ?_
      refine lv_bipush (v := 7) hx hb dc_T_putVarint_39 (by decide) ?_
      refine lv_lushr (v := (z.toUInt64 >>> ((7 : Int32).toInt64.toUInt64 &&& Int64.toUInt64 63)).toInt64) hx hb dc_T_putVarint_41 rfl ?_
      refine lv_lstore_n (lv' := [(3, .long ((z.toUInt64 >>> ((7 : Int32).toInt64.toUInt64 &&& Int64.toUInt64 63)).toInt64)), (5, .int (nI (10 - r))), (0, .ref aT), (1, .long v)]) hx hb dc_T_putVarint_42 rfl hl (by decide) rfl (fun ls hl => ?_)
      refine lv_iinc (v := ((nI (10 - r)) + 1)) (lv' := [(5, .int ((nI (10 - r)) + 1)), (3, .long ((z.toUInt64 >>> ((7 : Int32).toInt64.toUInt64 &&& Int64.toUInt64 63)).toInt64)), (0, .ref aT), (1, .long v)]) hx hb dc_T_putVarint_43 hl (k := 1) rfl rfl (by decide) rfl (fun ls hl => ?_)
      refine lv_goto (tgt := 8) hx hb dc_T_putVarint_46 (by decide) ?_
      obtain ⟨w_12, hw_12⟩ : ∃ y, y = (upd ff kk (((z &&& 127).toInt32) ||| 128).toInt8.toInt32) := ⟨_, rfl⟩
      have e_13 : (upd ff kk (((z &&& 127).toInt32) ||| 128).toInt8.toInt32) = w_12 := by exact hw_12.symm
      have hP := wP_eq (ws' := [(aT, .inr (5, [.ref aR, .int (nI (kk + 1)), .int 1])), (aR, .inl (cA, n, .inl w_12))]) hP (cg1 (fun y0 => ([(aT, .inr (5, [.ref aR, .int (nI (kk + 1)), .int 1])), (aR, .inl (cA, n, .inl y0))] : va_W)) e_13)
      have hD := wD_eq (ws' := [(aT, .inr (5, [.ref aR, .int (nI (kk + 1)), .int 1])), (aR, .inl (cA, n, .inl w_12))]) hD (cg1 (fun y0 => ([(aT, .inr (5, [.ref aR, .int (nI (kk + 1)), .int 1])), (aR, .inl (cA, n, .inl y0))] : va_W)) e_13)
      have e_14 : ((nI (10 - r)) + 1) = (nI (10 - (r - 1))) := by first | exact rn_step hrp hr9 | rfl
      have e_15 : ((z.toUInt64 >>> ((7 : Int32).toInt64.toUInt64 &&& Int64.toUInt64 63)).toInt64) = (us7 z) := by first | exact rn_step hrp hr9 | rfl
      have hl := wL_eq (lv' := [(5, .int (nI (10 - (r - 1)))), (3, .long (us7 z)), (0, .ref aT), (1, .long v)]) hl (cg2 (fun y0 y1 => ([(5, .int y0), (3, .long y1), (0, .ref aT), (1, .long v)] : List (Nat × Value))) e_14 e_15)
      exact ih8 (r - 1, us7 z, kk + 1, w_12, 1) _ _ _ ⟨by show (r - 1) ≤ 9; omega, by show (kk + 1) + (vlC (us7 z) (r - 1)).length = k + (vlC (cF v) 9).length; (try simp only [hw_12]); rw [← hi, vlC_pos hrp hz, List.length_cons]; omega, by show wrB w_12 (kk + 1) (vlC (us7 z) (r - 1)) = wrB f k (vlC (cF v) 9); (try simp only [hw_12]); rw [← hf, vlC_pos hrp hz]; rfl, hP.sub [0, 1] rfl, hD.sub [0, 1] (by decide) rfl, hS, lv_sub hl [0, 1, 2, 3] rfl⟩ (by show (r - 1) < r; omega)

set_option maxHeartbeats 1000000 in
set_option maxRecDepth 100000 in
theorem c_T_checksum (l : Launch) (dC : Nat → ClassId) (dI : Nat → Nat → Nat) (sz : Nat) (aT : Nat) (aR : Nat) (cA : ClassId) (n : Nat) (f : Nat → Int32) (k : Nat) (ch : Int32) (a : Nat) (hk : k ≤ n) (hn : n ≤ 16384) (ha : a ≤ k) : Met l my_T_checksum (wB my_T_checksum cd_T_checksum 4 (some .int)) ({ frames := 0, cells := 0, slots := 0, locals := 0 }) (va_Pc [.ref aT, .int (nI a)] (PcW (dC, dI) [(aT, .inr (5, [.ref aR, .int (nI k), .int ch])), (aR, .inl (cA, n, .inl f))] [(cA, .byte)] sz)) (va_Qi (fun (r : Int32) => fun (_ : Unit) => r = ckC f a (k - a)) (fun _ => EnW (dC, dI) (va_A [(aT, .inr (5, [.ref aR, .int (nI k), .int ch])), (aR, .inl (cA, n, .inl f))] sz) [(aT, .inr (5, [.ref aR, .int (nI k), .int ch])), (aR, .inl (cA, n, .inl f))] [(cA, .byte)]) (va_A [(aT, .inr (5, [.ref aR, .int (nI k), .int ch])), (aR, .inl (cA, n, .inl f))] sz)) 0 0 (va_A [(aT, .inr (5, [.ref aR, .int (nI k), .int ch])), (aR, .inl (cA, n, .inl f))] sz) := by
  refine Met.ofW (cc := cd_T_checksum) (maxL := 4) (ret := (some .int)) (by decide) rfl ?_
  intro p e s m args below meth c s₁ B hml hv
  obtain ⟨rfl, hsz, hP, hK, hD0, hG⟩ := hv
  have hx := B.exec
  have hb := B.bytes
  have hr := B.returns
  have hts := fun (w : Cond) (h : w ∈ bigT) => atoms_spec (ws := (wB my_T_checksum cd_T_checksum 4 (some .int))) B.pre w (List.mem_cons_of_mem _ h)
  have hown : s.vm.findClass rn_T = some m.cls := findClass_of_methodNamed B.named
  have hlocks := B.notSynchronized
  subst hsz
  have hD := hD0.self (sz := s.heap.size)
  generalize hAe : va_A [(aT, .inr (5, [.ref aR, .int (nI k), .int ch])), (aR, .inl (cA, n, .inl f))] s.heap.size = A at hD hG ⊢
  have hA : ∀ q : Nat, s.heap.size ≤ q → A q := fun q h => by rw [← hAe]; exact Or.inr h
  have hS : va_S A s.heap s.heap [] := va_S.rf
  have hP : va_P (dC, dI) vwCl [(aT, .inr (5, [.ref aR, .int (nI k), .int ch])), (aR, .inl (cA, n, .inl f))] s.heap := hP
  have hl := lv_entry ([.ref aT, .int (nI a)]) (n := 4) (Nat.le_of_ble_eq_true rfl)
  rw [lg_entry_eq]
  generalize (lg_sl ([.ref aT, .int (nI a)]) ++ List.replicate (4 - (lg_sl ([.ref aT, .int (nI a)])).length) Slot.unset).toArray = ls at hl ⊢
  have hl : lv_has ls 4 [(0, .ref aT), (1, .int (nI a))] := hl
  obtain ⟨tbT, gT1, gT2⟩ := hG.2.2.1
  refine lv_iconst (v := (-1)) hx hb dc_T_checksum_0 (by decide) ?_
  refine lv_istore_n (lv' := [(2, .int (-1)), (0, .ref aT), (1, .int (nI a))]) hx hb dc_T_checksum_1 rfl hl (by decide) rfl (fun ls hl => ?_)
  refine lv_iload_n hx hb dc_T_checksum_2 rfl (lv_at hl 2 rfl) ?_
  refine lv_istore_n (lv' := [(3, .int (nI a)), (2, .int (-1)), (0, .ref aT), (1, .int (nI a))]) hx hb dc_T_checksum_3 rfl hl (by decide) rfl (fun ls hl => ?_)
  refine w_loop (σ := Nat × Int32) (fun x H locs ls => x.1 ≤ k ∧ crcC f x.2 x.1 (k - x.1) = crcC f (-1) a (k - a) ∧ va_P (dC, dI) vwCl [(aT, .inr (5, [.ref aR, .int (nI k), .int ch])), (aR, .inl (cA, n, .inl f))] H ∧ va_D A [(aT, .inr (5, [.ref aR, .int (nI k), .int ch])), (aR, .inl (cA, n, .inl f))] ∧ va_S A s.heap H locs ∧ lv_has ls 4 [(3, .int (nI x.1)), (2, .int x.2), (0, .ref aT), (1, .int (nI a))]) (fun x ls => F0 m 4 ls []) (fun _ => 0) (fun _ => 0) (fun x => k - x.1) ?_ (a, -1) _ _ _ ⟨by show a ≤ k; omega, (show crcC f (-1) a (k - a) = crcC f (-1) a (k - a) from rfl), hP.sub [0, 1] rfl, hD.sub [0, 1] (by decide) rfl, hS, lv_sub hl [0, 1, 2, 3] rfl⟩
  rintro ⟨i, cr⟩ H locs ls ⟨hi, hc, hP, hD, hS, hl⟩ ih4
  have hP : va_P (dC, dI) vwCl [(aT, .inr (5, [.ref aR, .int (nI k), .int ch])), (aR, .inl (cA, n, .inl f))] H := hP
  have hD : va_D A [(aT, .inr (5, [.ref aR, .int (nI k), .int ch])), (aR, .inl (cA, n, .inl f))] := hD
  have hl : lv_has ls 4 [(3, .int (nI i)), (2, .int cr), (0, .ref aT), (1, .int (nI a))] := hl
  show W _ _ _ _ _ _ _ _ _ _ _ _ _ _ _ (F0 m 4 ls [])
  have hi : i ≤ k := hi
  have hc : crcC f cr i (k - i) = crcC f (-1) a (k - a) := hc
  refine lv_iload_n hx hb dc_T_checksum_4 rfl (lv_at hl 0 rfl) ?_
  refine lv_aload_n hx hb dc_T_checksum_5 rfl (lv_at hl 2 rfl) ?_
  refine va_get (D := (dC, dI)) (ci := 5) (v := .int (nI k)) (C := rn_T) (T := ft_T) (N := 3) hx hb hts fw_T hown hK hP 0 rfl rfl 1 (by decide) (hts _ bw1_37) (fun _ h9 => h9) rfl dc_T_checksum_6 ?_
  refine lv_icmp_ge (tgt := 57) hx hb dc_T_checksum_9 (by decide) (fun c_1 => ?_) (fun c_1 => ?_)
  · obtain rfl : k = i := by have := (nI_leI (by omega) (by omega)).mp c_1; omega
    refine lv_iload_n hx hb dc_T_checksum_57 rfl (lv_at hl 1 rfl) ?_
    refine lv_iconst (v := (-1)) hx hb dc_T_checksum_58 (by decide) ?_
    refine lv_ixor hx hb dc_T_checksum_59 ?_
    have hP9 := hP.sub (ws' := [(aT, .inr (5, [.ref aR, .int (nI k), .int ch])), (aR, .inl (cA, n, .inl f))]) [0, 1] rfl
    have hD9 := hD.sub (ws' := [(aT, .inr (5, [.ref aR, .int (nI k), .int ch])), (aR, .inl (cA, n, .inl f))]) [0, 1] (by decide) rfl
    have hK9 := hK.sub (tys' := [(cA, .byte)]) [0] rfl
    exact W.iret (v := (cr ^^^ (-1))) hx hb hr (fun t ht hW => ⟨⟨(cr ^^^ (-1)), (), rfl, by unfold ckC; rw [← hc, Nat.sub_self]; rfl, by rw [ht]; exact hP9, va_K.moved hW.alike hK9, hD9⟩, hS.F ht⟩) hS.2.2 dc_T_checksum_60
  · have hlt : i < k := by rcases Nat.lt_or_ge i k with h | h; exact h; exact absurd (nI_le h (by omega)) c_1
    refine lv_iload_n hx hb dc_T_checksum_12 rfl (lv_at hl 1 rfl) ?_
    refine lv_aload_n hx hb dc_T_checksum_13 rfl (lv_at hl 2 rfl) ?_
    refine va_get (D := (dC, dI)) (ci := 5) (v := .ref aR) (C := rn_T) (T := ft_T) (N := 3) hx hb hts fw_T hown hK hP 0 rfl rfl 0 (by decide) (hts _ bw1_36) (fun _ h9 => h9) rfl dc_T_checksum_14 ?_
    refine lv_iload_n hx hb dc_T_checksum_17 rfl (lv_at hl 0 rfl) ?_
    refine va_bald hx hb hK hP 1 0 rfl rfl (vp_in_nI (by omega) (by omega)) dc_T_checksum_18 ?_
    rw [show (nI i).toNatClampNeg = i from nI_clamp (by omega)]
    refine lv_sipush (v := 255) hx hb dc_T_checksum_19 (by decide) ?_
    refine lv_iand hx hb dc_T_checksum_22 ?_
    refine lv_ixor hx hb dc_T_checksum_23 ?_
    refine lv_istore_n (lv' := [(2, .int (cr ^^^ ((f i) &&& 255))), (3, .int (nI i)), (0, .ref aT), (1, .int (nI a))]) hx hb dc_T_checksum_24 rfl hl (by decide) rfl (fun ls hl => ?_)
    refine lv_iload_n hx hb dc_T_checksum_25 rfl (lv_at hl 0 rfl) ?_
    refine lv_iconst (v := 4) hx hb dc_T_checksum_26 (by decide) ?_
    refine lv_iushr (v := ((cr ^^^ ((f i) &&& 255)).toUInt32 >>> ((4 : Int32).toUInt32 &&& Int32.toUInt32 31)).toInt32) hx hb dc_T_checksum_27 rfl ?_
    refine va_getsN hx hb gT1 hS hown (va_Nw.use rfl (hG.1 _ (by decide +kernel : (Cond.fieldLinkNest "BatchBytes$Tape" 63 "BatchBytes" "FOUR_STEPS" "[I" "BatchBytes") ∈ ndL))) (fun _ h9 => h9) dc_T_checksum_28 ?_
    refine lv_iload_n hx hb dc_T_checksum_31 rfl (lv_at hl 0 rfl) ?_
    refine lv_bipush (v := 15) hx hb dc_T_checksum_32 (by decide) ?_
    refine lv_iand hx hb dc_T_checksum_34 ?_
    refine va_ti (v := .int (tT ((cr ^^^ ((f i) &&& 255)) &&& 15).toNatClampNeg)) hx hb gT2 hS (pk_andIn _ 4 (by decide) (by decide)) rfl dc_T_checksum_35 ?_
    refine lv_ixor hx hb dc_T_checksum_36 ?_
    refine lv_istore_n (lv' := [(2, .int ((((cr ^^^ ((f i) &&& 255)).toUInt32 >>> ((4 : Int32).toUInt32 &&& Int32.toUInt32 31)).toInt32) ^^^ (tT ((cr ^^^ ((f i) &&& 255)) &&& 15).toNatClampNeg))), (3, .int (nI i)), (0, .ref aT), (1, .int (nI a))]) hx hb dc_T_checksum_37 rfl hl (by decide) rfl (fun ls hl => ?_)
    refine lv_iload_n hx hb dc_T_checksum_38 rfl (lv_at hl 0 rfl) ?_
    refine lv_iconst (v := 4) hx hb dc_T_checksum_39 (by decide) ?_
    refine lv_iushr (v := (((((cr ^^^ ((f i) &&& 255)).toUInt32 >>> ((4 : Int32).toUInt32 &&& Int32.toUInt32 31)).toInt32) ^^^ (tT ((cr ^^^ ((f i) &&& 255)) &&& 15).toNatClampNeg)).toUInt32 >>> ((4 : Int32).toUInt32 &&& Int32.toUInt32 31)).toInt32) hx hb dc_T_checksum_40 rfl ?_
    refine va_getsN hx hb gT1 hS hown (va_Nw.use rfl (hG.1 _ (by decide +kernel : (Cond.fieldLinkNest "BatchBytes$Tape" 63 "BatchBytes" "FOUR_STEPS" "[I" "BatchBytes") ∈ ndL))) (fun _ h9 => h9) dc_T_checksum_41 ?_
    refine lv_iload_n hx hb dc_T_checksum_44 rfl (lv_at hl 0 rfl) ?_
    refine lv_bipush (v := 15) hx hb dc_T_checksum_45 (by decide) ?_
    refine lv_iand hx hb dc_T_checksum_47 ?_
    refine va_ti (v := .int (tT (((((cr ^^^ ((f i) &&& 255)).toUInt32 >>> ((4 : Int32).toUInt32 &&& Int32.toUInt32 31)).toInt32) ^^^ (tT ((cr ^^^ ((f i) &&& 255)) &&& 15).toNatClampNeg)) &&& 15).toNatClampNeg)) hx hb gT2 hS (pk_andIn _ 4 (by decide) (by decide)) rfl dc_T_checksum_48 ?_
    refine lv_ixor hx hb dc_T_checksum_49 ?_
    refine lv_istore_n (lv' := [(2, .int (((((((cr ^^^ ((f i) &&& 255)).toUInt32 >>> ((4 : Int32).toUInt32 &&& Int32.toUInt32 31)).toInt32) ^^^ (tT ((cr ^^^ ((f i) &&& 255)) &&& 15).toNatClampNeg)).toUInt32 >>> ((4 : Int32).toUInt32 &&& Int32.toUInt32 31)).toInt32) ^^^ (tT (((((cr ^^^ ((f i) &&& 255)).toUInt32 >>> ((4 : Int32).toUInt32 &&& Int32.toUInt32 31)).toInt32) ^^^ (tT ((cr ^^^ ((f i) &&& 255)) &&& 15).toNatClampNeg)) &&& 15).toNatClampNeg))), (3, .int (nI i)), (0, .ref aT), (1, .int (nI a))]) hx hb dc_T_checksum_50 rfl hl (by decide) rfl (fun ls hl => ?_)
    refine lv_iinc (v := ((nI i) + 1)) (lv' := [(3, .int ((nI i) + 1)), (2, .int (((((((cr ^^^ ((f i) &&& 255)).toUInt32 >>> ((4 : Int32).toUInt32 &&& Int32.toUInt32 31)).toInt32) ^^^ (tT ((cr ^^^ ((f i) &&& 255)) &&& 15).toNatClampNeg)).toUInt32 >>> ((4 : Int32).toUInt32 &&& Int32.toUInt32 31)).toInt32) ^^^ (tT (((((cr ^^^ ((f i) &&& 255)).toUInt32 >>> ((4 : Int32).toUInt32 &&& Int32.toUInt32 31)).toInt32) ^^^ (tT ((cr ^^^ ((f i) &&& 255)) &&& 15).toNatClampNeg)) &&& 15).toNatClampNeg))), (0, .ref aT), (1, .int (nI a))]) hx hb dc_T_checksum_51 hl (k := 1) rfl rfl (by decide) rfl (fun ls hl => ?_)
    refine lv_goto (tgt := 4) hx hb dc_T_checksum_54 (by decide) ?_
    obtain ⟨w_2, hw_2⟩ : ∃ y, y = (((((((cr ^^^ ((f i) &&& 255)).toUInt32 >>> ((4 : Int32).toUInt32 &&& Int32.toUInt32 31)).toInt32) ^^^ (tT ((cr ^^^ ((f i) &&& 255)) &&& 15).toNatClampNeg)).toUInt32 >>> ((4 : Int32).toUInt32 &&& Int32.toUInt32 31)).toInt32) ^^^ (tT (((((cr ^^^ ((f i) &&& 255)).toUInt32 >>> ((4 : Int32).toUInt32 &&& Int32.toUInt32 31)).toInt32) ^^^ (tT ((cr ^^^ ((f i) &&& 255)) &&& 15).toNatClampNeg)) &&& 15).toNatClampNeg)) := ⟨_, rfl⟩
    have e_3 : (((((((cr ^^^ ((f i) &&& 255)).toUInt32 >>> ((4 : Int32).toUInt32 &&& Int32.toUInt32 31)).toInt32) ^^^ (tT ((cr ^^^ ((f i) &&& 255)) &&& 15).toNatClampNeg)).toUInt32 >>> ((4 : Int32).toUInt32 &&& Int32.toUInt32 31)).toInt32) ^^^ (tT (((((cr ^^^ ((f i) &&& 255)).toUInt32 >>> ((4 : Int32).toUInt32 &&& Int32.toUInt32 31)).toInt32) ^^^ (tT ((cr ^^^ ((f i) &&& 255)) &&& 15).toNatClampNeg)) &&& 15).toNatClampNeg)) = w_2 := by exact hw_2.symm
    have hl := wL_eq (lv' := [(3, .int ((nI i) + 1)), (2, .int w_2), (0, .ref aT), (1, .int (nI a))]) hl (cg1 (fun y0 => ([(3, .int ((nI i) + 1)), (2, .int y0), (0, .ref aT), (1, .int (nI a))] : List (Nat × Value))) e_3)
    have e_4 : ((nI i) + 1) = (nI (i + 1)) := by first | exact nI_1 _ | rfl
    have hl := wL_eq (lv' := [(3, .int (nI (i + 1))), (2, .int w_2), (0, .ref aT), (1, .int (nI a))]) hl (cg1 (fun y0 => ([(3, .int y0), (2, .int w_2), (0, .ref aT), (1, .int (nI a))] : List (Nat × Value))) e_4)
    exact ih4 (i + 1, w_2) _ _ _ ⟨by show (i + 1) ≤ k; omega, by show crcC f w_2 (i + 1) (k - (i + 1)) = crcC f (-1) a (k - a); (try simp only [hw_2]); rw [← hc, show k - i = (k - (i + 1)) + 1 by omega]; rfl, hP.sub [0, 1] rfl, hD.sub [0, 1] (by decide) rfl, hS, lv_sub hl [0, 1, 2, 3] rfl⟩ (by show k - (i + 1) < k - i; omega)

set_option maxHeartbeats 1000000 in
set_option maxRecDepth 100000 in
theorem c_T_rightChecksum (l : Launch) (dC : Nat → ClassId) (dI : Nat → Nat → Nat) (sz : Nat) (aT : Nat) (aR : Nat) (cA : ClassId) (n : Nat) (f : Nat → Int32) (k : Nat) (ch : Int32) (a : Nat) (hk : k ≤ n) (hn : n ≤ 16384) (ha : a + 21 ≤ k) : Met l my_T_rightChecksum (wB my_T_rightChecksum cd_T_rightChecksum 4 (some .int)) ({ frames := 2, cells := 0, slots := 0, locals := 43 }) (va_Pc [.ref aT, .int (nI a)] (PcW (dC, dI) [(aT, .inr (5, [.ref aR, .int (nI k), .int ch])), (aR, .inl (cA, n, .inl f))] [(cA, .byte)] sz)) (va_Qi (fun (r : Int32) => fun (_ : Unit) => r = ckC f (a + 21) (k - (a + 21))) (fun _ => EnW (dC, dI) (va_A [(aT, .inr (5, [.ref aR, .int (nI k), .int ch])), (aR, .inl (cA, n, .inl f))] sz) [(aT, .inr (5, [.ref aR, .int (nI k), .int 1])), (aR, .inl (cA, n, .inl (pCk f (a + 17) (ckC f (a + 21) (k - (a + 21))) 4)))] [(cA, .byte)]) (va_A [(aT, .inr (5, [.ref aR, .int (nI k), .int ch])), (aR, .inl (cA, n, .inl f))] sz)) 0 0 (va_A [(aT, .inr (5, [.ref aR, .int (nI k), .int ch])), (aR, .inl (cA, n, .inl f))] sz) := by
  refine Met.ofW (cc := cd_T_rightChecksum) (maxL := 4) (ret := (some .int)) (by decide) rfl ?_
  intro p e s m args below meth c s₁ B hml hv
  obtain ⟨rfl, hsz, hP, hK, hD0, hG⟩ := hv
  have hx := B.exec
  have hb := B.bytes
  have hr := B.returns
  have hts := fun (w : Cond) (h : w ∈ bigT) => atoms_spec (ws := (wB my_T_rightChecksum cd_T_rightChecksum 4 (some .int))) B.pre w (List.mem_cons_of_mem _ h)
  have hown : s.vm.findClass rn_T = some m.cls := findClass_of_methodNamed B.named
  have hlocks := B.notSynchronized
  subst hsz
  have hD := hD0.self (sz := s.heap.size)
  generalize hAe : va_A [(aT, .inr (5, [.ref aR, .int (nI k), .int ch])), (aR, .inl (cA, n, .inl f))] s.heap.size = A at hD hG ⊢
  have hA : ∀ q : Nat, s.heap.size ≤ q → A q := fun q h => by rw [← hAe]; exact Or.inr h
  have hS : va_S A s.heap s.heap [] := va_S.rf
  have hP : va_P (dC, dI) vwCl [(aT, .inr (5, [.ref aR, .int (nI k), .int ch])), (aR, .inl (cA, n, .inl f))] s.heap := hP
  have hl := lv_entry ([.ref aT, .int (nI a)]) (n := 4) (Nat.le_of_ble_eq_true rfl)
  rw [lg_entry_eq]
  generalize (lg_sl ([.ref aT, .int (nI a)]) ++ List.replicate (4 - (lg_sl ([.ref aT, .int (nI a)])).length) Slot.unset).toArray = ls at hl ⊢
  have hl : lv_has ls 4 [(0, .ref aT), (1, .int (nI a))] := hl
  refine lv_aload_n hx hb dc_T_rightChecksum_0 rfl (lv_at hl 0 rfl) ?_
  refine lv_iload_n hx hb dc_T_rightChecksum_1 rfl (lv_at hl 1 rfl) ?_
  refine lv_bipush (v := 21) hx hb dc_T_rightChecksum_2 (by decide) ?_
  refine lv_iadd hx hb dc_T_rightChecksum_4 ?_
  refine W.eq (g2 := F0 m 5 ls [.int (nI (a + 21)), .ref aT]) (by rw [show ((nI a) + 21) = (nI (a + 21)) by exact nI_add a 21]) ?_
  refine kc_i (wc := [(aT, .inr (5, [.ref aR, .int (nI k), .int ch])), (aR, .inl (cA, n, .inl f))]) (wr := []) hP hD hS hA [0, 1] [] rfl rfl (by decide) (by decide) (va_runV (As := [.int (nI (a + 21))]) (rest := []) ⟨hx, hb, hml, hown, hts⟩ (c_T_checksum l dC dI _ aT aR cA n f k ch (a + 21) (by omega) (by omega) (by omega)) (kw_V 1 hts bw1_175 bw1_176 bw1_177 bw1_2 bw1_178 rfl rfl (by decide +kernel) ⟨Nat.le_of_ble_eq_true rfl, Nat.le_of_ble_eq_true rfl⟩) (kp_V (wc := [(aT, .inr (5, [.ref aR, .int (nI k), .int ch])), (aR, .inl (cA, n, .inl f))]) (tc := [(cA, .byte)]) (As := [.int (nI (a + 21))]) hG hS hA hP hD hK [0, 1] rfl (by decide) rfl [0] rfl (ci := 5) (q0 := 0) rfl rfl) rfl rfl hl.1 rfl (lv_room (Nat.le_of_ble_eq_true rfl)) dc_T_rightChecksum_5 ⟨Nat.zero_le _, Nat.zero_le _⟩) (fun r_1 _ H locs hw hP hD hK1 hS => ?_)
  subst hw
  have hP : va_P (dC, dI) vwCl [(aT, .inr (5, [.ref aR, .int (nI k), .int ch])), (aR, .inl (cA, n, .inl f))] H := hP
  have hD : va_D A [(aT, .inr (5, [.ref aR, .int (nI k), .int ch])), (aR, .inl (cA, n, .inl f))] := hD
  refine lv_istore_n (lv' := [(2, .int (ckC f (a + 21) (k - (a + 21)))), (0, .ref aT), (1, .int (nI a))]) hx hb dc_T_rightChecksum_8 rfl hl (by decide) rfl (fun ls hl => ?_)
  refine lv_iconst (v := 0) hx hb dc_T_rightChecksum_9 (by decide) ?_
  refine lv_istore_n (lv' := [(3, .int 0), (2, .int (ckC f (a + 21) (k - (a + 21)))), (0, .ref aT), (1, .int (nI a))]) hx hb dc_T_rightChecksum_10 rfl hl (by decide) rfl (fun ls hl => ?_)
  have e_2 : ch = (if 0 = 0 then ch else 1) := by rfl
  have e_3 : f = (pCk f (a + 17) (ckC f (a + 21) (k - (a + 21))) 0) := by rfl
  have hP := wP_eq (ws' := [(aT, .inr (5, [.ref aR, .int (nI k), .int (if 0 = 0 then ch else 1)])), (aR, .inl (cA, n, .inl (pCk f (a + 17) (ckC f (a + 21) (k - (a + 21))) 0)))]) hP (cg2 (fun y0 y1 => ([(aT, .inr (5, [.ref aR, .int (nI k), .int y0])), (aR, .inl (cA, n, .inl y1))] : va_W)) e_2 e_3)
  have hD := wD_eq (ws' := [(aT, .inr (5, [.ref aR, .int (nI k), .int (if 0 = 0 then ch else 1)])), (aR, .inl (cA, n, .inl (pCk f (a + 17) (ckC f (a + 21) (k - (a + 21))) 0)))]) hD (cg2 (fun y0 y1 => ([(aT, .inr (5, [.ref aR, .int (nI k), .int y0])), (aR, .inl (cA, n, .inl y1))] : va_W)) e_2 e_3)
  refine w_loop (σ := Nat) (fun i H locs ls => i ≤ 4 ∧ va_P (dC, dI) vwCl [(aT, .inr (5, [.ref aR, .int (nI k), .int (if i = 0 then ch else 1)])), (aR, .inl (cA, n, .inl (pCk f (a + 17) (ckC f (a + 21) (k - (a + 21))) i)))] H ∧ va_D A [(aT, .inr (5, [.ref aR, .int (nI k), .int (if i = 0 then ch else 1)])), (aR, .inl (cA, n, .inl (pCk f (a + 17) (ckC f (a + 21) (k - (a + 21))) i)))] ∧ va_S A s.heap H locs ∧ lv_has ls 4 [(3, .int (nI i)), (2, .int (ckC f (a + 21) (k - (a + 21)))), (0, .ref aT), (1, .int (nI a))]) (fun i ls => F0 m 11 ls []) (fun _ => 0) (fun _ => 0) (fun i => 4 - i) ?_ 0 _ _ _ ⟨by show 0 ≤ 4; omega, hP.sub [0, 1] rfl, hD.sub [0, 1] (by decide) rfl, hS, lv_sub hl [0, 1, 2, 3] rfl⟩
  rintro i H locs ls ⟨hi, hP, hD, hS, hl⟩ ih11
  have hP : va_P (dC, dI) vwCl [(aT, .inr (5, [.ref aR, .int (nI k), .int (if i = 0 then ch else 1)])), (aR, .inl (cA, n, .inl (pCk f (a + 17) (ckC f (a + 21) (k - (a + 21))) i)))] H := hP
  have hD : va_D A [(aT, .inr (5, [.ref aR, .int (nI k), .int (if i = 0 then ch else 1)])), (aR, .inl (cA, n, .inl (pCk f (a + 17) (ckC f (a + 21) (k - (a + 21))) i)))] := hD
  have hl : lv_has ls 4 [(3, .int (nI i)), (2, .int (ckC f (a + 21) (k - (a + 21)))), (0, .ref aT), (1, .int (nI a))] := hl
  show W _ _ _ _ _ _ _ _ _ _ _ _ _ _ _ (F0 m 11 ls [])
  have hi : i ≤ 4 := hi
  refine lv_iload_n hx hb dc_T_rightChecksum_11 rfl (lv_at hl 0 rfl) ?_
  refine lv_iconst (v := 4) hx hb dc_T_rightChecksum_12 (by decide) ?_
  refine lv_icmp_ge (tgt := 41) hx hb dc_T_rightChecksum_13 (by decide) (fun c_4 => ?_) (fun c_4 => ?_)
  · have hi4 : i = 4 := by have := (nI_leI (a := 4) (by omega) (by omega)).mp c_4; omega
    refine lv_iload_n hx hb dc_T_rightChecksum_41 rfl (lv_at hl 1 rfl) ?_
    have e_5 : (if i = 0 then ch else 1) = 1 := by rw [if_neg (by omega)]
    have e_6 : (pCk f (a + 17) (ckC f (a + 21) (k - (a + 21))) i) = (pCk f (a + 17) (ckC f (a + 21) (k - (a + 21))) 4) := by rw [hi4]
    have hP := wP_eq (ws' := [(aT, .inr (5, [.ref aR, .int (nI k), .int 1])), (aR, .inl (cA, n, .inl (pCk f (a + 17) (ckC f (a + 21) (k - (a + 21))) 4)))]) hP (cg2 (fun y0 y1 => ([(aT, .inr (5, [.ref aR, .int (nI k), .int y0])), (aR, .inl (cA, n, .inl y1))] : va_W)) e_5 e_6)
    have hD := wD_eq (ws' := [(aT, .inr (5, [.ref aR, .int (nI k), .int 1])), (aR, .inl (cA, n, .inl (pCk f (a + 17) (ckC f (a + 21) (k - (a + 21))) 4)))]) hD (cg2 (fun y0 y1 => ([(aT, .inr (5, [.ref aR, .int (nI k), .int y0])), (aR, .inl (cA, n, .inl y1))] : va_W)) e_5 e_6)
    have hP9 := hP.sub (ws' := [(aT, .inr (5, [.ref aR, .int (nI k), .int 1])), (aR, .inl (cA, n, .inl (pCk f (a + 17) (ckC f (a + 21) (k - (a + 21))) 4)))]) [0, 1] rfl
    have hD9 := hD.sub (ws' := [(aT, .inr (5, [.ref aR, .int (nI k), .int 1])), (aR, .inl (cA, n, .inl (pCk f (a + 17) (ckC f (a + 21) (k - (a + 21))) 4)))]) [0, 1] (by decide) rfl
    have hK9 := hK.sub (tys' := [(cA, .byte)]) [0] rfl
    exact W.iret (v := (ckC f (a + 21) (k - (a + 21)))) hx hb hr (fun t ht hW => ⟨⟨(ckC f (a + 21) (k - (a + 21))), (), rfl, rfl, by rw [ht]; exact hP9, va_K.moved hW.alike hK9, hD9⟩, hS.F ht⟩) hS.2.2 dc_T_rightChecksum_42
  · have hlt : i < 4 := by rcases Nat.lt_or_ge i 4 with h | h; exact h; exact absurd (nI_le (a := 4) h (by omega)) c_4
    refine lv_aload_n hx hb dc_T_rightChecksum_16 rfl (lv_at hl 2 rfl) ?_
    refine lv_iload_n hx hb dc_T_rightChecksum_17 rfl (lv_at hl 3 rfl) ?_
    refine lv_bipush (v := 17) hx hb dc_T_rightChecksum_18 (by decide) ?_
    refine lv_iadd hx hb dc_T_rightChecksum_20 ?_
    refine lv_iload_n hx hb dc_T_rightChecksum_21 rfl (lv_at hl 0 rfl) ?_
    refine lv_iadd hx hb dc_T_rightChecksum_22 ?_
    refine lv_iload_n hx hb dc_T_rightChecksum_23 rfl (lv_at hl 1 rfl) ?_
    refine lv_bipush (v := 24) hx hb dc_T_rightChecksum_24 (by decide) ?_
    refine lv_bipush (v := 8) hx hb dc_T_rightChecksum_26 (by decide) ?_
    refine lv_iload_n hx hb dc_T_rightChecksum_28 rfl (lv_at hl 0 rfl) ?_
    refine lv_imul hx hb dc_T_rightChecksum_29 ?_
    refine lv_isub hx hb dc_T_rightChecksum_30 ?_
    refine lv_ishr hx hb dc_T_rightChecksum_31 ?_
    refine W.eq (g2 := F0 m 32 ls [.int ((ckC f (a + 21) (k - (a + 21))) >>> ((24 - (8 * (nI i))) &&& 31)), .int (nI (a + 17 + i)), .ref aT]) (by rw [show (((nI a) + 17) + (nI i)) = (nI (a + 17 + i)) by rw [show (17 : Int32) = nI 17 from rfl, nI_add, nI_add]]) ?_
    refine kc_v (wc := [(aT, .inr (5, [.ref aR, .int (nI k), .int (if i = 0 then ch else 1)])), (aR, .inl (cA, n, .inl (pCk f (a + 17) (ckC f (a + 21) (k - (a + 21))) i)))]) (wr := []) hP hD hS hA [0, 1] [] rfl rfl (by decide) (by decide) (va_runV (As := [.int (nI (a + 17 + i)), .int ((ckC f (a + 21) (k - (a + 21))) >>> ((24 - (8 * (nI i))) &&& 31))]) (rest := []) ⟨hx, hb, hml, hown, hts⟩ (c_T_put l dC dI _ aT aR cA n (pCk f (a + 17) (ckC f (a + 21) (k - (a + 21))) i) k (if i = 0 then ch else 1) (a + 17 + i) ((ckC f (a + 21) (k - (a + 21))) >>> ((24 - (8 * (nI i))) &&& 31)) (by omega) (by omega) (by omega)) (kw_V 2 hts bw1_181 bw1_182 bw1_183 bw1_2 bw1_184 rfl rfl (by decide +kernel) ⟨Nat.le_of_ble_eq_true rfl, Nat.le_of_ble_eq_true rfl⟩) (kp_V (wc := [(aT, .inr (5, [.ref aR, .int (nI k), .int (if i = 0 then ch else 1)])), (aR, .inl (cA, n, .inl (pCk f (a + 17) (ckC f (a + 21) (k - (a + 21))) i)))]) (tc := [(cA, .byte)]) (As := [.int (nI (a + 17 + i)), .int ((ckC f (a + 21) (k - (a + 21))) >>> ((24 - (8 * (nI i))) &&& 31))]) hG hS hA hP hD hK [0, 1] rfl (by decide) rfl [0] rfl (ci := 5) (q0 := 0) rfl rfl) rfl rfl hl.1 rfl (lv_room (Nat.le_of_ble_eq_true rfl)) dc_T_rightChecksum_32 ⟨Nat.zero_le _, Nat.zero_le _⟩) (fun _ H locs hw hP hD hK1 hS => ?_)
    have hP : va_P (dC, dI) vwCl [(aT, .inr (5, [.ref aR, .int (nI k), .int 1])), (aR, .inl (cA, n, .inl (upd (pCk f (a + 17) (ckC f (a + 21) (k - (a + 21))) i) (a + 17 + i) ((ckC f (a + 21) (k - (a + 21))) >>> ((24 - (8 * (nI i))) &&& 31)).toInt8.toInt32)))] H := hP
    have hD : va_D A [(aT, .inr (5, [.ref aR, .int (nI k), .int 1])), (aR, .inl (cA, n, .inl (upd (pCk f (a + 17) (ckC f (a + 21) (k - (a + 21))) i) (a + 17 + i) ((ckC f (a + 21) (k - (a + 21))) >>> ((24 - (8 * (nI i))) &&& 31)).toInt8.toInt32)))] := hD
    refine lv_iinc (v := ((nI i) + 1)) (lv' := [(3, .int ((nI i) + 1)), (2, .int (ckC f (a + 21) (k - (a + 21)))), (0, .ref aT), (1, .int (nI a))]) hx hb dc_T_rightChecksum_35 hl (k := 0) rfl rfl (by decide) rfl (fun ls hl => ?_)
    refine lv_goto (tgt := 11) hx hb dc_T_rightChecksum_38 (by decide) ?_
    have e_8 : 1 = (if (i + 1) = 0 then ch else 1) := by first | exact nI_1 _ | rfl | (rw [if_neg (by omega)])
    have e_9 : (upd (pCk f (a + 17) (ckC f (a + 21) (k - (a + 21))) i) (a + 17 + i) ((ckC f (a + 21) (k - (a + 21))) >>> ((24 - (8 * (nI i))) &&& 31)).toInt8.toInt32) = (pCk f (a + 17) (ckC f (a + 21) (k - (a + 21))) (i + 1)) := by first | exact nI_1 _ | rfl | (rw [if_neg (by omega)])
    have e_10 : ((nI i) + 1) = (nI (i + 1)) := by first | exact nI_1 _ | rfl | (rw [if_neg (by omega)])
    have hP := wP_eq (ws' := [(aT, .inr (5, [.ref aR, .int (nI k), .int (if (i + 1) = 0 then ch else 1)])), (aR, .inl (cA, n, .inl (pCk f (a + 17) (ckC f (a + 21) (k - (a + 21))) (i + 1))))]) hP (cg2 (fun y0 y1 => ([(aT, .inr (5, [.ref aR, .int (nI k), .int y0])), (aR, .inl (cA, n, .inl y1))] : va_W)) e_8 e_9)
    have hD := wD_eq (ws' := [(aT, .inr (5, [.ref aR, .int (nI k), .int (if (i + 1) = 0 then ch else 1)])), (aR, .inl (cA, n, .inl (pCk f (a + 17) (ckC f (a + 21) (k - (a + 21))) (i + 1))))]) hD (cg2 (fun y0 y1 => ([(aT, .inr (5, [.ref aR, .int (nI k), .int y0])), (aR, .inl (cA, n, .inl y1))] : va_W)) e_8 e_9)
    have hl := wL_eq (lv' := [(3, .int (nI (i + 1))), (2, .int (ckC f (a + 21) (k - (a + 21)))), (0, .ref aT), (1, .int (nI a))]) hl (cg1 (fun y0 => ([(3, .int y0), (2, .int (ckC f (a + 21) (k - (a + 21)))), (0, .ref aT), (1, .int (nI a))] : List (Nat × Value))) e_10)
    exact ih11 (i + 1) _ _ _ ⟨by show (i + 1) ≤ 4; omega, hP.sub [0, 1] rfl, hD.sub [0, 1] (by decide) rfl, hS, lv_sub hl [0, 1, 2, 3] rfl⟩ (by show 4 - (i + 1) < 4 - i; omega)

set_option maxHeartbeats 1000000 in
set_option maxRecDepth 100000 in
theorem c_T_init (l : Launch) (dC : Nat → ClassId) (dI : Nat → Nat → Nat) (sz : Nat) (aT : Nat) : Met l my_T_init (wB my_T_init cd_T_init 1 none) ({ frames := 1, cells := 1, slots := 64, locals := 12 }) (va_Pc [.ref aT] (PcW (dC, dI) [(aT, .inr (5, [.null, .int 0, .int 0]))] [] sz)) (va_Qv (fun (u : Nat × ClassId) => True) (fun u => EnW (dC, dI) (va_A [(aT, .inr (5, [.null, .int 0, .int 0]))] sz) [(aT, .inr (5, [.ref u.1, .int (nI 0), .int 1])), (u.1, .inl (u.2, 64, .inl (fun _ => 0)))] [(u.2, .byte)]) (va_A [(aT, .inr (5, [.null, .int 0, .int 0]))] sz)) 1 64 (va_A [(aT, .inr (5, [.null, .int 0, .int 0]))] sz) := by
  refine Met.ofW (cc := cd_T_init) (maxL := 1) (ret := none) (by decide) rfl ?_
  intro p e s m args below meth c s₁ B hml hv
  obtain ⟨rfl, hsz, hP, hK, hD0, hG⟩ := hv
  have hx := B.exec
  have hb := B.bytes
  have hr := B.returns
  have hts := fun (w : Cond) (h : w ∈ bigT) => atoms_spec (ws := (wB my_T_init cd_T_init 1 none)) B.pre w (List.mem_cons_of_mem _ h)
  have hown : s.vm.findClass rn_T = some m.cls := findClass_of_methodNamed B.named
  have hlocks := B.notSynchronized
  have hin : meth.name = "<init>" := (name_of_methodNamed B.named B.method).1
  subst hsz
  have hD := hD0.self (sz := s.heap.size)
  generalize hAe : va_A [(aT, .inr (5, [.null, .int 0, .int 0]))] s.heap.size = A at hD hG ⊢
  have hA : ∀ q : Nat, s.heap.size ≤ q → A q := fun q h => by rw [← hAe]; exact Or.inr h
  have hS : va_S A s.heap s.heap [] := va_S.rf
  have hP : va_P (dC, dI) vwCl [(aT, .inr (5, [.null, .int 0, .int 0]))] s.heap := hP
  have hl := lv_entry ([.ref aT]) (n := 1) (Nat.le_of_ble_eq_true rfl)
  rw [lg_entry_eq]
  generalize (lg_sl ([.ref aT]) ++ List.replicate (1 - (lg_sl ([.ref aT])).length) Slot.unset).toArray = ls at hl ⊢
  have hl : lv_has ls 1 [(0, .ref aT)] := hl
  refine lv_aload_n hx hb dc_T_init_0 rfl (lv_at hl 0 rfl) ?_
  refine W.objInit hx hb hown (hts _ bw1_35) (hts _ bw1_28) (hts _ bw1_29) rfl (by rw [hml]; exact hl.1) rfl dc_T_init_1 (Nat.le_of_ble_eq_true rfl) (Nat.le_of_ble_eq_true rfl) ?_
  refine W.eq (g2 := F0 m 4 ls []) rfl ?_
  refine lv_aload_n hx hb dc_T_init_4 rfl (lv_at hl 0 rfl) ?_
  refine lv_bipush (v := 64) hx hb dc_T_init_5 (by decide) ?_
  refine va_newa (atype := .byte) (n := 64) (N' := 64) (a0 := (64, .inl (fun _ => 0))) (ty := .byte) hx hb (hts _ bw1_49) rfl hK hP hD hS hA (fun _ => rfl) (by decide) (by decide) (by decide) (by show _ ≤ 1; omega) (by show _ ≤ 64; omega) dc_T_init_7 (fun q_1 k_2 H hK hP hD hS => ?_)
  have hK : va_K (dC, dI) vwCl [(k_2, .byte)] s := hK
  have hP : va_P (dC, dI) vwCl [(aT, .inr (5, [.null, .int 0, .int 0])), (q_1, .inl (k_2, 64, .inl (fun _ => 0)))] H := hP
  have hD : va_D A [(aT, .inr (5, [.null, .int 0, .int 0])), (q_1, .inl (k_2, 64, .inl (fun _ => 0)))] := hD
  refine va_put (D := (dC, dI)) (ci := 5) (v := .ref q_1) (ty := .array .byte) (C := rn_T) (T := ft_T) (N := 3) hx hb hts fw_T fy_T fo_T fn_T hown hK hP hD hS 0 rfl rfl 0 (by decide) (hts _ bw1_36) (fun _ h9 => h9) rfl (by decide +kernel) rfl rfl (Nat.le_of_ble_eq_true rfl) dc_T_init_9 (fun H locs hP hD hS => ?_)
  have hP : va_P (dC, dI) vwCl [(aT, .inr (5, [.ref q_1, .int 0, .int 0])), (q_1, .inl (k_2, 64, .inl (fun _ => 0)))] H := hP
  have hD : va_D A [(aT, .inr (5, [.ref q_1, .int 0, .int 0])), (q_1, .inl (k_2, 64, .inl (fun _ => 0)))] := hD
  refine lv_aload_n hx hb dc_T_init_12 rfl (lv_at hl 0 rfl) ?_
  refine lv_iconst (v := 0) hx hb dc_T_init_13 (by decide) ?_
  refine va_put (D := (dC, dI)) (ci := 5) (v := .int 0) (ty := .int) (C := rn_T) (T := ft_T) (N := 3) hx hb hts fw_T fy_T fo_T fn_T hown hK hP hD hS 0 rfl rfl 1 (by decide) (hts _ bw1_37) (fun _ h9 => h9) rfl (by decide +kernel) rfl rfl (Nat.le_of_ble_eq_true rfl) dc_T_init_14 (fun H locs hP hD hS => ?_)
  have hP : va_P (dC, dI) vwCl [(aT, .inr (5, [.ref q_1, .int 0, .int 0])), (q_1, .inl (k_2, 64, .inl (fun _ => 0)))] H := hP
  have hD : va_D A [(aT, .inr (5, [.ref q_1, .int 0, .int 0])), (q_1, .inl (k_2, 64, .inl (fun _ => 0)))] := hD
  refine lv_aload_n hx hb dc_T_init_17 rfl (lv_at hl 0 rfl) ?_
  refine lv_iconst (v := 1) hx hb dc_T_init_18 (by decide) ?_
  refine va_put (D := (dC, dI)) (ci := 5) (v := .int 1) (ty := .boolean) (C := rn_T) (T := ft_T) (N := 3) hx hb hts fw_T fy_T fo_T fn_T hown hK hP hD hS 0 rfl rfl 2 (by decide) (hts _ bw1_40) (fun _ h9 => h9) rfl (by decide +kernel) rfl rfl (Nat.le_of_ble_eq_true rfl) dc_T_init_19 (fun H locs hP hD hS => ?_)
  have hP : va_P (dC, dI) vwCl [(aT, .inr (5, [.ref q_1, .int 0, .int 1])), (q_1, .inl (k_2, 64, .inl (fun _ => 0)))] H := hP
  have hD : va_D A [(aT, .inr (5, [.ref q_1, .int 0, .int 1])), (q_1, .inl (k_2, 64, .inl (fun _ => 0)))] := hD
  have hP9 := hP.sub (ws' := [(aT, .inr (5, [.ref q_1, .int (nI 0), .int 1])), (q_1, .inl (k_2, 64, .inl (fun _ => 0)))]) [0, 1] rfl
  have hD9 := hD.sub (ws' := [(aT, .inr (5, [.ref q_1, .int (nI 0), .int 1])), (q_1, .inl (k_2, 64, .inl (fun _ => 0)))]) [0, 1] (by decide) rfl
  have hK9 := hK.sub (tys' := [(k_2, .byte)]) [0] rfl
  refine W.widen (k := 1) (n := 64) (by omega) (by omega) ?_
  exact W.vret hx hb hr (fun t ht hW => ⟨⟨(q_1, k_2), rfl, trivial, by rw [ht]; exact hP9, va_K.moved hW.alike hK9, hD9⟩, hS.F ht⟩) hS.2.2 dc_T_init_22
