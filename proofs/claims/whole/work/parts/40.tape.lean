set_option maxHeartbeats 4000000 in
set_option maxRecDepth 100000 in
theorem c_T_has (l : Launch) (dC : Nat → ClassId) (dI : Nat → Nat → Nat) (sz : Nat) (aT : Nat) (aR : Nat) (cA : ClassId) (n : Nat) (f : Nat → Int32) (k : Nat) (ch : Int32) (i : Int32) (hk : k ≤ n) (hn : n ≤ 16384) : Met l my_T_has (wB my_T_has cd_T_has 2 (some .boolean)) ({ frames := 0, cells := 0, slots := 0, locals := 0 }) (va_Pc [.ref aT, .int i] (PcW (dC, dI) [(aT, .inr (5, [.ref aR, .int (nI k), .int ch])), (aR, .inl (cA, n, .inl f))] [(cA, .byte)] sz)) (va_Qi (fun (r : Int32) => fun (_ : Unit) => r = hasC k i) (fun _ => EnW (dC, dI) (va_A [(aT, .inr (5, [.ref aR, .int (nI k), .int ch])), (aR, .inl (cA, n, .inl f))] sz) [(aT, .inr (5, [.ref aR, .int (nI k), .int ch])), (aR, .inl (cA, n, .inl f))] [(cA, .byte)]) (va_A [(aT, .inr (5, [.ref aR, .int (nI k), .int ch])), (aR, .inl (cA, n, .inl f))] sz)) 0 0 (va_A [(aT, .inr (5, [.ref aR, .int (nI k), .int ch])), (aR, .inl (cA, n, .inl f))] sz) := by
  refine Met.ofW (cc := cd_T_has) (maxL := 2) (ret := (some .boolean)) (by decide) rfl ?_
  intro p e s m args below meth c s₁ B hml hv
  obtain ⟨rfl, hsz, hP, hK, hD0, hG⟩ := hv
  have hx := B.exec
  have hb := B.bytes
  have hr := B.returns
  have hts := fun (w : Cond) (h : w ∈ bigT) => atoms_spec (ws := (wB my_T_has cd_T_has 2 (some .boolean))) B.pre w (List.mem_cons_of_mem _ h)
  have hown : s.vm.findClass rn_T = some m.cls := findClass_of_methodNamed B.named
  have hlocks := B.notSynchronized
  subst hsz
  have hD := hD0.self (sz := s.heap.size)
  generalize hAe : va_A [(aT, .inr (5, [.ref aR, .int (nI k), .int ch])), (aR, .inl (cA, n, .inl f))] s.heap.size = A at hD hG ⊢
  have hA : ∀ q : Nat, s.heap.size ≤ q → A q := fun q h => by rw [← hAe]; exact Or.inr h
  have hS : va_S A s.heap s.heap [] := va_S.rf
  have hP : va_P (dC, dI) vwCl [(aT, .inr (5, [.ref aR, .int (nI k), .int ch])), (aR, .inl (cA, n, .inl f))] s.heap := hP
  have hl := lv_entry ([.ref aT, .int i]) (n := 2) (Nat.le_of_ble_eq_true rfl)
  rw [lg_entry_eq]
  generalize (lg_sl ([.ref aT, .int i]) ++ List.replicate (2 - (lg_sl ([.ref aT, .int i])).length) Slot.unset).toArray = ls at hl ⊢
  have hl : lv_has ls 2 [(0, .ref aT), (1, .int i)] := hl
  refine lv_iload_n hx hb dc_T_has_0 rfl (lv_at hl 1 rfl) ?_
  refine w_join (σ := Int32) (fun v17_0 H locs ls => v17_0 = (if i < 0 then 0 else if (nI k) ≤ i then 0 else 1) ∧ va_P (dC, dI) vwCl [(aT, .inr (5, [.ref aR, .int (nI k), .int ch])), (aR, .inl (cA, n, .inl f))] H ∧ va_D A [(aT, .inr (5, [.ref aR, .int (nI k), .int ch])), (aR, .inl (cA, n, .inl f))] ∧ va_S A s.heap H locs ∧ lv_has ls 2 [(0, .ref aT), (1, .int i)]) (fun v17_0 ls => F0 m 17 ls [.int v17_0]) ?_ (fun hJ17 => ?_)
  · rintro v17_0 H locs ls ⟨ev17_0, hP, hD, hS, hl⟩
    have hP : va_P (dC, dI) vwCl [(aT, .inr (5, [.ref aR, .int (nI k), .int ch])), (aR, .inl (cA, n, .inl f))] H := hP
    have hD : va_D A [(aT, .inr (5, [.ref aR, .int (nI k), .int ch])), (aR, .inl (cA, n, .inl f))] := hD
    have hl : lv_has ls 2 [(0, .ref aT), (1, .int i)] := hl
    show W _ _ _ _ _ _ _ _ _ _ _ _ _ _ _ (F0 m 17 ls [.int v17_0])
    have h01v17_0 : v17_0 = 0 ∨ v17_0 = 1 := by rw [ev17_0]; repeat' (first | exact Or.inl rfl | exact Or.inr rfl | split)
    have hP9 := hP.sub (ws' := [(aT, .inr (5, [.ref aR, .int (nI k), .int ch])), (aR, .inl (cA, n, .inl f))]) [0, 1] rfl
    have hD9 := hD.sub (ws' := [(aT, .inr (5, [.ref aR, .int (nI k), .int ch])), (aR, .inl (cA, n, .inl f))]) [0, 1] (by decide) rfl
    have hK9 := hK.sub (tys' := [(cA, .byte)]) [0] rfl
    exact W.zret (v := v17_0) hx hb hr (by rcases h01v17_0 with h | h <;> rw [h] <;> rfl) (fun t ht hW => ⟨⟨v17_0, (), rfl, ev17_0.trans rfl, by rw [ht]; exact hP9, va_K.moved hW.alike hK9, hD9⟩, hS.F ht⟩) hS.2.2 dc_T_has_17
  · refine lv_if_lt (tgt := 16) hx hb dc_T_has_1 (by decide) (fun c_1 => ?_) (fun c_1 => ?_)
    · refine lv_iconst (v := 0) hx hb dc_T_has_16 (by decide) ?_
      exact hJ17 0 _ _ _ ⟨by rw [if_pos c_1], hP.sub [0, 1] rfl, hD.sub [0, 1] (by decide) rfl, hS, lv_sub hl [0, 1] rfl⟩
    · refine lv_iload_n hx hb dc_T_has_4 rfl (lv_at hl 1 rfl) ?_
      refine lv_aload_n hx hb dc_T_has_5 rfl (lv_at hl 0 rfl) ?_
      refine va_get (D := (dC, dI)) (ci := 5) (v := .int (nI k)) (C := rn_T) (T := ft_T) (N := 3) hx hb hts fw_T hown hK hP 0 rfl rfl 1 (by decide) (hts _ bw1_37) (fun _ h9 => h9) rfl dc_T_has_6 ?_
      refine lv_icmp_ge (tgt := 16) hx hb dc_T_has_9 (by decide) (fun c_2 => ?_) (fun c_2 => ?_)
      · refine lv_iconst (v := 0) hx hb dc_T_has_16 (by decide) ?_
        exact hJ17 0 _ _ _ ⟨by rw [if_neg c_1, if_pos c_2], hP.sub [0, 1] rfl, hD.sub [0, 1] (by decide) rfl, hS, lv_sub hl [0, 1] rfl⟩
      · refine lv_iconst (v := 1) hx hb dc_T_has_12 (by decide) ?_
        refine lv_goto (tgt := 17) hx hb dc_T_has_13 (by decide) ?_
        exact hJ17 1 _ _ _ ⟨by rw [if_neg c_1, if_neg c_2], hP.sub [0, 1] rfl, hD.sub [0, 1] (by decide) rfl, hS, lv_sub hl [0, 1] rfl⟩

set_option maxHeartbeats 4000000 in
set_option maxRecDepth 100000 in
theorem c_T_get (l : Launch) (dC : Nat → ClassId) (dI : Nat → Nat → Nat) (sz : Nat) (aT : Nat) (aR : Nat) (cA : ClassId) (n : Nat) (f : Nat → Int32) (k : Nat) (ch : Int32) (i : Int32) (hk : k ≤ n) (hn : n ≤ 16384) : Met l my_T_get (wB my_T_get cd_T_get 2 (some .int)) ({ frames := 0, cells := 0, slots := 0, locals := 0 }) (va_Pc [.ref aT, .int i] (PcW (dC, dI) [(aT, .inr (5, [.ref aR, .int (nI k), .int ch])), (aR, .inl (cA, n, .inl f))] [(cA, .byte)] sz)) (va_Qi (fun (r : Int32) => fun (_ : Unit) => r = tb f k i) (fun _ => EnW (dC, dI) (va_A [(aT, .inr (5, [.ref aR, .int (nI k), .int ch])), (aR, .inl (cA, n, .inl f))] sz) [(aT, .inr (5, [.ref aR, .int (nI k), .int ch])), (aR, .inl (cA, n, .inl f))] [(cA, .byte)]) (va_A [(aT, .inr (5, [.ref aR, .int (nI k), .int ch])), (aR, .inl (cA, n, .inl f))] sz)) 0 0 (va_A [(aT, .inr (5, [.ref aR, .int (nI k), .int ch])), (aR, .inl (cA, n, .inl f))] sz) := by
  refine Met.ofW (cc := cd_T_get) (maxL := 2) (ret := (some .int)) (by decide) rfl ?_
  intro p e s m args below meth c s₁ B hml hv
  obtain ⟨rfl, hsz, hP, hK, hD0, hG⟩ := hv
  have hx := B.exec
  have hb := B.bytes
  have hr := B.returns
  have hts := fun (w : Cond) (h : w ∈ bigT) => atoms_spec (ws := (wB my_T_get cd_T_get 2 (some .int))) B.pre w (List.mem_cons_of_mem _ h)
  have hown : s.vm.findClass rn_T = some m.cls := findClass_of_methodNamed B.named
  have hlocks := B.notSynchronized
  subst hsz
  have hD := hD0.self (sz := s.heap.size)
  generalize hAe : va_A [(aT, .inr (5, [.ref aR, .int (nI k), .int ch])), (aR, .inl (cA, n, .inl f))] s.heap.size = A at hD hG ⊢
  have hA : ∀ q : Nat, s.heap.size ≤ q → A q := fun q h => by rw [← hAe]; exact Or.inr h
  have hS : va_S A s.heap s.heap [] := va_S.rf
  have hP : va_P (dC, dI) vwCl [(aT, .inr (5, [.ref aR, .int (nI k), .int ch])), (aR, .inl (cA, n, .inl f))] s.heap := hP
  have hl := lv_entry ([.ref aT, .int i]) (n := 2) (Nat.le_of_ble_eq_true rfl)
  rw [lg_entry_eq]
  generalize (lg_sl ([.ref aT, .int i]) ++ List.replicate (2 - (lg_sl ([.ref aT, .int i])).length) Slot.unset).toArray = ls at hl ⊢
  have hl : lv_has ls 2 [(0, .ref aT), (1, .int i)] := hl
  refine lv_iload_n hx hb dc_T_get_0 rfl (lv_at hl 1 rfl) ?_
  refine w_join (σ := Int32) (fun v26_0 H locs ls => v26_0 = (if i < 0 then 0 else if (nI k) ≤ i then 0 else (f i.toNatClampNeg) &&& 255) ∧ va_P (dC, dI) vwCl [(aT, .inr (5, [.ref aR, .int (nI k), .int ch])), (aR, .inl (cA, n, .inl f))] H ∧ va_D A [(aT, .inr (5, [.ref aR, .int (nI k), .int ch])), (aR, .inl (cA, n, .inl f))] ∧ va_S A s.heap H locs ∧ lv_has ls 2 [(0, .ref aT), (1, .int i)]) (fun v26_0 ls => F0 m 26 ls [.int v26_0]) ?_ (fun hJ26 => ?_)
  · rintro v26_0 H locs ls ⟨ev26_0, hP, hD, hS, hl⟩
    have hP : va_P (dC, dI) vwCl [(aT, .inr (5, [.ref aR, .int (nI k), .int ch])), (aR, .inl (cA, n, .inl f))] H := hP
    have hD : va_D A [(aT, .inr (5, [.ref aR, .int (nI k), .int ch])), (aR, .inl (cA, n, .inl f))] := hD
    have hl : lv_has ls 2 [(0, .ref aT), (1, .int i)] := hl
    show W _ _ _ _ _ _ _ _ _ _ _ _ _ _ _ (F0 m 26 ls [.int v26_0])
    have hP9 := hP.sub (ws' := [(aT, .inr (5, [.ref aR, .int (nI k), .int ch])), (aR, .inl (cA, n, .inl f))]) [0, 1] rfl
    have hD9 := hD.sub (ws' := [(aT, .inr (5, [.ref aR, .int (nI k), .int ch])), (aR, .inl (cA, n, .inl f))]) [0, 1] (by decide) rfl
    have hK9 := hK.sub (tys' := [(cA, .byte)]) [0] rfl
    exact W.iret (v := v26_0) hx hb hr (fun t ht hW => ⟨⟨v26_0, (), rfl, ev26_0.trans rfl, by rw [ht]; exact hP9, va_K.moved hW.alike hK9, hD9⟩, hS.F ht⟩) hS.2.2 dc_T_get_26
  · refine lv_if_lt (tgt := 25) hx hb dc_T_get_1 (by decide) (fun c_1 => ?_) (fun c_1 => ?_)
    · refine lv_iconst (v := 0) hx hb dc_T_get_25 (by decide) ?_
      exact hJ26 0 _ _ _ ⟨by rw [if_pos c_1], hP.sub [0, 1] rfl, hD.sub [0, 1] (by decide) rfl, hS, lv_sub hl [0, 1] rfl⟩
    · have hi1 := c_1
      refine lv_iload_n hx hb dc_T_get_4 rfl (lv_at hl 1 rfl) ?_
      refine lv_aload_n hx hb dc_T_get_5 rfl (lv_at hl 0 rfl) ?_
      refine va_get (D := (dC, dI)) (ci := 5) (v := .int (nI k)) (C := rn_T) (T := ft_T) (N := 3) hx hb hts fw_T hown hK hP 0 rfl rfl 1 (by decide) (hts _ bw1_37) (fun _ h9 => h9) rfl dc_T_get_6 ?_
      refine lv_icmp_ge (tgt := 25) hx hb dc_T_get_9 (by decide) (fun c_2 => ?_) (fun c_2 => ?_)
      · refine lv_iconst (v := 0) hx hb dc_T_get_25 (by decide) ?_
        exact hJ26 0 _ _ _ ⟨by rw [if_neg c_1, if_pos c_2], hP.sub [0, 1] rfl, hD.sub [0, 1] (by decide) rfl, hS, lv_sub hl [0, 1] rfl⟩
      · have h17 : vp_in i n := in_of hi1 c_2 hk (by omega)
        refine lv_aload_n hx hb dc_T_get_12 rfl (lv_at hl 0 rfl) ?_
        refine va_get (D := (dC, dI)) (ci := 5) (v := .ref aR) (C := rn_T) (T := ft_T) (N := 3) hx hb hts fw_T hown hK hP 0 rfl rfl 0 (by decide) (hts _ bw1_36) (fun _ h9 => h9) rfl dc_T_get_13 ?_
        refine lv_iload_n hx hb dc_T_get_16 rfl (lv_at hl 1 rfl) ?_
        refine va_bald hx hb hK hP 1 0 rfl rfl h17 dc_T_get_17 ?_
        refine lv_sipush (v := 255) hx hb dc_T_get_18 (by decide) ?_
        refine lv_iand hx hb dc_T_get_21 ?_
        refine lv_goto (tgt := 26) hx hb dc_T_get_22 (by decide) ?_
        exact hJ26 ((f i.toNatClampNeg) &&& 255) _ _ _ ⟨by rw [if_neg c_1, if_neg c_2], hP.sub [0, 1] rfl, hD.sub [0, 1] (by decide) rfl, hS, lv_sub hl [0, 1] rfl⟩

