set_option maxHeartbeats 1000000 in
set_option maxRecDepth 100000 in
theorem c_P_init (l : Launch) (dC : Nat → ClassId) (dI : Nat → Nat → Nat) (sz : Nat) (aX : Nat) : Met l my_P_init (wB my_P_init cd_P_init 1 none) ({ frames := 1, cells := 0, slots := 0, locals := 12 }) (va_Pc [.ref aX] (PcW (dC, dI) [(aX, .inr (3, [.int 0, .int 0]))] [] sz)) (va_Qv (fun (_ : Unit) => True) (fun _ => EnW (dC, dI) (va_A [(aX, .inr (3, [.int 0, .int 0]))] sz) [(aX, .inr (3, [.int (-1), .int 0]))] []) (va_A [(aX, .inr (3, [.int 0, .int 0]))] sz)) 0 0 (va_A [(aX, .inr (3, [.int 0, .int 0]))] sz) := by
  refine Met.ofW (cc := cd_P_init) (maxL := 1) (ret := none) (by decide) rfl ?_
  intro p e s m args below meth c s₁ B hml hv
  obtain ⟨rfl, hsz, hP, hK, hD0, hG⟩ := hv
  have hx := B.exec
  have hb := B.bytes
  have hr := B.returns
  have hts := fun (w : Cond) (h : w ∈ bigT) => atoms_spec (ws := (wB my_P_init cd_P_init 1 none)) B.pre w (List.mem_cons_of_mem _ h)
  have hown : s.vm.findClass rn_P = some m.cls := findClass_of_methodNamed B.named
  have hlocks := B.notSynchronized
  have hin : meth.name = "<init>" := (name_of_methodNamed B.named B.method).1
  subst hsz
  have hD := hD0.self (sz := s.heap.size)
  generalize hAe : va_A [(aX, .inr (3, [.int 0, .int 0]))] s.heap.size = A at hD hG ⊢
  have hA : ∀ q : Nat, s.heap.size ≤ q → A q := fun q h => by rw [← hAe]; exact Or.inr h
  have hS : va_S A s.heap s.heap [] := va_S.rf
  have hP : va_P (dC, dI) vwCl [(aX, .inr (3, [.int 0, .int 0]))] s.heap := hP
  have hl := lv_entry ([.ref aX]) (n := 1) (Nat.le_of_ble_eq_true rfl)
  rw [lg_entry_eq]
  generalize (lg_sl ([.ref aX]) ++ List.replicate (1 - (lg_sl ([.ref aX])).length) Slot.unset).toArray = ls at hl ⊢
  have hl : lv_has ls 1 [(0, .ref aX)] := hl
  refine lv_aload_n hx hb dc_P_init_0 rfl (lv_at hl 0 rfl) ?_
  refine W.objInit hx hb hown (hts _ bw1_109) (hts _ bw1_28) (hts _ bw1_29) rfl (by rw [hml]; exact hl.1) rfl dc_P_init_1 (Nat.le_of_ble_eq_true rfl) (Nat.le_of_ble_eq_true rfl) ?_
  refine W.eq (g2 := F0 m 4 ls []) rfl ?_
  refine lv_aload_n hx hb dc_P_init_4 rfl (lv_at hl 0 rfl) ?_
  refine lv_iconst (v := (-1)) hx hb dc_P_init_5 (by decide) ?_
  refine va_put (D := (dC, dI)) (ci := 3) (v := .int (-1)) (ty := .int) (C := rn_P) (T := ft_P) (N := 2) hx hb hts fw_P fy_P fo_P fn_P hown hK hP hD hS 0 rfl rfl 0 (by decide) (hts _ bw1_110) (fun _ h9 => h9) rfl (by decide +kernel) rfl rfl (Nat.le_of_ble_eq_true rfl) dc_P_init_6 (fun H locs hP hD hS => ?_)
  have hP : va_P (dC, dI) vwCl [(aX, .inr (3, [.int (-1), .int 0]))] H := hP
  have hD : va_D A [(aX, .inr (3, [.int (-1), .int 0]))] := hD
  refine lv_aload_n hx hb dc_P_init_9 rfl (lv_at hl 0 rfl) ?_
  refine lv_iconst (v := 0) hx hb dc_P_init_10 (by decide) ?_
  refine va_put (D := (dC, dI)) (ci := 3) (v := .int 0) (ty := .int) (C := rn_P) (T := ft_P) (N := 2) hx hb hts fw_P fy_P fo_P fn_P hown hK hP hD hS 0 rfl rfl 1 (by decide) (hts _ bw1_113) (fun _ h9 => h9) rfl (by decide +kernel) rfl rfl (Nat.le_of_ble_eq_true rfl) dc_P_init_11 (fun H locs hP hD hS => ?_)
  have hP : va_P (dC, dI) vwCl [(aX, .inr (3, [.int (-1), .int 0]))] H := hP
  have hD : va_D A [(aX, .inr (3, [.int (-1), .int 0]))] := hD
  have hP9 := hP.sub (ws' := [(aX, .inr (3, [.int (-1), .int 0]))]) [0] rfl
  have hD9 := hD.sub (ws' := [(aX, .inr (3, [.int (-1), .int 0]))]) [0] (by decide) rfl
  have hK9 := hK.sub (tys' := []) [] rfl
  exact W.vret hx hb hr (fun t ht hW => ⟨⟨(), rfl, trivial, by rw [ht]; exact hP9, va_K.moved hW.alike hK9, hD9⟩, hS.F ht⟩) hS.2.2 dc_P_init_14

set_option maxHeartbeats 1000000 in
set_option maxRecDepth 100000 in
theorem c_R_begin (l : Launch) (dC : Nat → ClassId) (dI : Nat → Nat → Nat) (sz : Nat) (aQ : Nat) (aT : Nat) (aK : Nat) (aV : Nat) (pl : Int32) (en : Int32) (so : Int32) (sa : Int32) (ti : Int64) : Met l my_R_begin (wB my_R_begin cd_R_begin 1 none) ({ frames := 0, cells := 0, slots := 0, locals := 0 }) (va_Pc [.ref aQ] (PcW (dC, dI) [(aQ, .inr (4, [.ref aT, .ref aK, .ref aV, .int pl, .int en, .int so, .int sa, .long ti]))] [] sz)) (va_Qv (fun (_ : Unit) => True) (fun _ => EnW (dC, dI) (va_A [(aQ, .inr (4, [.ref aT, .ref aK, .ref aV, .int pl, .int en, .int so, .int sa, .long ti]))] sz) [(aQ, .inr (4, [.ref aT, .ref aK, .ref aV, .int 61, .int en, .int so, .int sa, .long ti]))] []) (va_A [(aQ, .inr (4, [.ref aT, .ref aK, .ref aV, .int pl, .int en, .int so, .int sa, .long ti]))] sz)) 0 0 (va_A [(aQ, .inr (4, [.ref aT, .ref aK, .ref aV, .int pl, .int en, .int so, .int sa, .long ti]))] sz) := by
  refine Met.ofW (cc := cd_R_begin) (maxL := 1) (ret := none) (by decide) rfl ?_
  intro p e s m args below meth c s₁ B hml hv
  obtain ⟨rfl, hsz, hP, hK, hD0, hG⟩ := hv
  have hx := B.exec
  have hb := B.bytes
  have hr := B.returns
  have hts := fun (w : Cond) (h : w ∈ bigT) => atoms_spec (ws := (wB my_R_begin cd_R_begin 1 none)) B.pre w (List.mem_cons_of_mem _ h)
  have hown : s.vm.findClass rn_R = some m.cls := findClass_of_methodNamed B.named
  have hlocks := B.notSynchronized
  subst hsz
  have hD := hD0.self (sz := s.heap.size)
  generalize hAe : va_A [(aQ, .inr (4, [.ref aT, .ref aK, .ref aV, .int pl, .int en, .int so, .int sa, .long ti]))] s.heap.size = A at hD hG ⊢
  have hA : ∀ q : Nat, s.heap.size ≤ q → A q := fun q h => by rw [← hAe]; exact Or.inr h
  have hS : va_S A s.heap s.heap [] := va_S.rf
  have hP : va_P (dC, dI) vwCl [(aQ, .inr (4, [.ref aT, .ref aK, .ref aV, .int pl, .int en, .int so, .int sa, .long ti]))] s.heap := hP
  have hl := lv_entry ([.ref aQ]) (n := 1) (Nat.le_of_ble_eq_true rfl)
  rw [lg_entry_eq]
  generalize (lg_sl ([.ref aQ]) ++ List.replicate (1 - (lg_sl ([.ref aQ])).length) Slot.unset).toArray = ls at hl ⊢
  have hl : lv_has ls 1 [(0, .ref aQ)] := hl
  refine lv_aload_n hx hb dc_R_begin_0 rfl (lv_at hl 0 rfl) ?_
  refine lv_bipush (v := 61) hx hb dc_R_begin_1 (by decide) ?_
  refine va_put (D := (dC, dI)) (ci := 4) (v := .int 61) (ty := .int) (C := rn_R) (T := ft_R) (N := 8) hx hb hts fw_R fy_R fo_R fn_R hown hK hP hD hS 0 rfl rfl 3 (by decide) (hts _ bw1_126) (fun _ h9 => h9) rfl (by decide +kernel) rfl rfl (Nat.le_of_ble_eq_true rfl) dc_R_begin_3 (fun H locs hP hD hS => ?_)
  have hP : va_P (dC, dI) vwCl [(aQ, .inr (4, [.ref aT, .ref aK, .ref aV, .int 61, .int en, .int so, .int sa, .long ti]))] H := hP
  have hD : va_D A [(aQ, .inr (4, [.ref aT, .ref aK, .ref aV, .int 61, .int en, .int so, .int sa, .long ti]))] := hD
  have hP9 := hP.sub (ws' := [(aQ, .inr (4, [.ref aT, .ref aK, .ref aV, .int 61, .int en, .int so, .int sa, .long ti]))]) [0] rfl
  have hD9 := hD.sub (ws' := [(aQ, .inr (4, [.ref aT, .ref aK, .ref aV, .int 61, .int en, .int so, .int sa, .long ti]))]) [0] (by decide) rfl
  have hK9 := hK.sub (tys' := []) [] rfl
  exact W.vret hx hb hr (fun t ht hW => ⟨⟨(), rfl, trivial, by rw [ht]; exact hP9, va_K.moved hW.alike hK9, hD9⟩, hS.F ht⟩) hS.2.2 dc_R_begin_6

set_option maxHeartbeats 1000000 in
set_option maxRecDepth 100000 in
theorem c_R_expect (l : Launch) (dC : Nat → ClassId) (dI : Nat → Nat → Nat) (sz : Nat) (aQ : Nat) (aT : Nat) (aK : Nat) (aV : Nat) (pl : Int32) (en : Int32) (so : Int32) (sa : Int32) (ti : Int64) (hq : Int32) : Met l my_R_expect (wB my_R_expect cd_R_expect 2 none) ({ frames := 0, cells := 0, slots := 0, locals := 0 }) (va_Pc [.ref aQ, .int hq] (PcW (dC, dI) [(aQ, .inr (4, [.ref aT, .ref aK, .ref aV, .int pl, .int en, .int so, .int sa, .long ti]))] [] sz)) (va_Qv (fun (_ : Unit) => True) (fun _ => EnW (dC, dI) (va_A [(aQ, .inr (4, [.ref aT, .ref aK, .ref aV, .int pl, .int en, .int so, .int sa, .long ti]))] sz) [(aQ, .inr (4, [.ref aT, .ref aK, .ref aV, .int pl, .int en, .int (exC so hq), .int sa, .long ti]))] []) (va_A [(aQ, .inr (4, [.ref aT, .ref aK, .ref aV, .int pl, .int en, .int so, .int sa, .long ti]))] sz)) 0 0 (va_A [(aQ, .inr (4, [.ref aT, .ref aK, .ref aV, .int pl, .int en, .int so, .int sa, .long ti]))] sz) := by
  refine Met.ofW (cc := cd_R_expect) (maxL := 2) (ret := none) (by decide) rfl ?_
  intro p e s m args below meth c s₁ B hml hv
  obtain ⟨rfl, hsz, hP, hK, hD0, hG⟩ := hv
  have hx := B.exec
  have hb := B.bytes
  have hr := B.returns
  have hts := fun (w : Cond) (h : w ∈ bigT) => atoms_spec (ws := (wB my_R_expect cd_R_expect 2 none)) B.pre w (List.mem_cons_of_mem _ h)
  have hown : s.vm.findClass rn_R = some m.cls := findClass_of_methodNamed B.named
  have hlocks := B.notSynchronized
  subst hsz
  have hD := hD0.self (sz := s.heap.size)
  generalize hAe : va_A [(aQ, .inr (4, [.ref aT, .ref aK, .ref aV, .int pl, .int en, .int so, .int sa, .long ti]))] s.heap.size = A at hD hG ⊢
  have hA : ∀ q : Nat, s.heap.size ≤ q → A q := fun q h => by rw [← hAe]; exact Or.inr h
  have hS : va_S A s.heap s.heap [] := va_S.rf
  have hP : va_P (dC, dI) vwCl [(aQ, .inr (4, [.ref aT, .ref aK, .ref aV, .int pl, .int en, .int so, .int sa, .long ti]))] s.heap := hP
  have hl := lv_entry ([.ref aQ, .int hq]) (n := 2) (Nat.le_of_ble_eq_true rfl)
  rw [lg_entry_eq]
  generalize (lg_sl ([.ref aQ, .int hq]) ++ List.replicate (2 - (lg_sl ([.ref aQ, .int hq])).length) Slot.unset).toArray = ls at hl ⊢
  have hl : lv_has ls 2 [(0, .ref aQ), (1, .int hq)] := hl
  refine lv_aload_n hx hb dc_R_expect_0 rfl (lv_at hl 0 rfl) ?_
  refine lv_aload_n hx hb dc_R_expect_1 rfl (lv_at hl 0 rfl) ?_
  refine va_get (D := (dC, dI)) (ci := 4) (v := .int so) (C := rn_R) (T := ft_R) (N := 8) hx hb hts fw_R hown hK hP 0 rfl rfl 5 (by decide) (hts _ bw1_129) (fun _ h9 => h9) rfl dc_R_expect_2 ?_
  refine w_join (σ := Int32) (fun v17_0 H locs ls => v17_0 = (if so = 0 then 0 else if hq = 0 then 0 else 1) ∧ va_P (dC, dI) vwCl [(aQ, .inr (4, [.ref aT, .ref aK, .ref aV, .int pl, .int en, .int so, .int sa, .long ti]))] H ∧ va_D A [(aQ, .inr (4, [.ref aT, .ref aK, .ref aV, .int pl, .int en, .int so, .int sa, .long ti]))] ∧ va_S A s.heap H locs ∧ lv_has ls 2 [(0, .ref aQ), (1, .int hq)]) (fun v17_0 ls => F0 m 17 ls [.int v17_0, .ref aQ]) ?_ (fun hJ17 => ?_)
  · rintro v17_0 H locs ls ⟨ev17_0, hP, hD, hS, hl⟩
    have hP : va_P (dC, dI) vwCl [(aQ, .inr (4, [.ref aT, .ref aK, .ref aV, .int pl, .int en, .int so, .int sa, .long ti]))] H := hP
    have hD : va_D A [(aQ, .inr (4, [.ref aT, .ref aK, .ref aV, .int pl, .int en, .int so, .int sa, .long ti]))] := hD
    have hl : lv_has ls 2 [(0, .ref aQ), (1, .int hq)] := hl
    show W _ _ _ _ _ _ _ _ _ _ _ _ _ _ _ (F0 m 17 ls [.int v17_0, .ref aQ])
    have h01v17_0 : v17_0 = 0 ∨ v17_0 = 1 := by rw [ev17_0]; exact i01 (Or.inl rfl) (i01 (Or.inl rfl) (Or.inr rfl))
    refine va_put (D := (dC, dI)) (ci := 4) (v := .int v17_0) (ty := .boolean) (C := rn_R) (T := ft_R) (N := 8) hx hb hts fw_R fy_R fo_R fn_R hown hK hP hD hS 0 rfl rfl 5 (by decide) (hts _ bw1_129) (fun _ h9 => h9) rfl (by decide +kernel) (by rcases h01v17_0 with h | h <;> rw [h] <;> rfl) (by rcases h01v17_0 with h | h <;> rw [h] <;> rfl) (Nat.le_of_ble_eq_true rfl) dc_R_expect_17 (fun H locs hP hD hS => ?_)
    have hP : va_P (dC, dI) vwCl [(aQ, .inr (4, [.ref aT, .ref aK, .ref aV, .int pl, .int en, .int v17_0, .int sa, .long ti]))] H := hP
    have hD : va_D A [(aQ, .inr (4, [.ref aT, .ref aK, .ref aV, .int pl, .int en, .int v17_0, .int sa, .long ti]))] := hD
    have e_1 : v17_0 = (exC so hq) := by exact ev17_0.trans rfl
    have hP := wP_eq (ws' := [(aQ, .inr (4, [.ref aT, .ref aK, .ref aV, .int pl, .int en, .int (exC so hq), .int sa, .long ti]))]) hP (cg1 (fun y0 => ([(aQ, .inr (4, [.ref aT, .ref aK, .ref aV, .int pl, .int en, .int y0, .int sa, .long ti]))] : va_W)) e_1)
    have hD := wD_eq (ws' := [(aQ, .inr (4, [.ref aT, .ref aK, .ref aV, .int pl, .int en, .int (exC so hq), .int sa, .long ti]))]) hD (cg1 (fun y0 => ([(aQ, .inr (4, [.ref aT, .ref aK, .ref aV, .int pl, .int en, .int y0, .int sa, .long ti]))] : va_W)) e_1)
    have hP9 := hP.sub (ws' := [(aQ, .inr (4, [.ref aT, .ref aK, .ref aV, .int pl, .int en, .int (exC so hq), .int sa, .long ti]))]) [0] rfl
    have hD9 := hD.sub (ws' := [(aQ, .inr (4, [.ref aT, .ref aK, .ref aV, .int pl, .int en, .int (exC so hq), .int sa, .long ti]))]) [0] (by decide) rfl
    have hK9 := hK.sub (tys' := []) [] rfl
    exact W.vret hx hb hr (fun t ht hW => ⟨⟨(), rfl, trivial, by rw [ht]; exact hP9, va_K.moved hW.alike hK9, hD9⟩, hS.F ht⟩) hS.2.2 dc_R_expect_20
  · refine lv_if_eq (tgt := 16) hx hb dc_R_expect_5 (by decide) (fun c_2 => ?_) (fun c_2 => ?_)
    · refine lv_iconst (v := 0) hx hb dc_R_expect_16 (by decide) ?_
      exact hJ17 0 _ _ _ ⟨by rw [if_pos c_2], hP.sub [0] rfl, hD.sub [0] (by decide) rfl, hS, lv_sub hl [0, 1] rfl⟩
    · refine lv_iload_n hx hb dc_R_expect_8 rfl (lv_at hl 1 rfl) ?_
      refine lv_if_eq (tgt := 16) hx hb dc_R_expect_9 (by decide) (fun c_3 => ?_) (fun c_3 => ?_)
      · refine lv_iconst (v := 0) hx hb dc_R_expect_16 (by decide) ?_
        exact hJ17 0 _ _ _ ⟨by rw [if_neg c_2, if_pos c_3], hP.sub [0] rfl, hD.sub [0] (by decide) rfl, hS, lv_sub hl [0, 1] rfl⟩
      · refine lv_iconst (v := 1) hx hb dc_R_expect_12 (by decide) ?_
        refine lv_goto (tgt := 17) hx hb dc_R_expect_13 (by decide) ?_
        exact hJ17 1 _ _ _ ⟨by rw [if_neg c_2, if_neg c_3], hP.sub [0] rfl, hD.sub [0] (by decide) rfl, hS, lv_sub hl [0, 1] rfl⟩

set_option maxHeartbeats 1000000 in
set_option maxRecDepth 100000 in
theorem c_R_readByte (l : Launch) (dC : Nat → ClassId) (dI : Nat → Nat → Nat) (sz : Nat) (aQ : Nat) (aT : Nat) (aK : Nat) (aV : Nat) (pl : Int32) (en : Int32) (so : Int32) (sa : Int32) (ti : Int64) (aR : Nat) (cA : ClassId) (n : Nat) (f : Nat → Int32) (k : Nat) (ch : Int32) (hk : k ≤ n) (hn : n ≤ 16384) : Met l my_R_readByte (wB my_R_readByte cd_R_readByte 2 (some .int)) ({ frames := 1, cells := 0, slots := 0, locals := 21 }) (va_Pc [.ref aQ] (PcW (dC, dI) [(aQ, .inr (4, [.ref aT, .ref aK, .ref aV, .int pl, .int en, .int so, .int sa, .long ti])), (aT, .inr (5, [.ref aR, .int (nI k), .int ch])), (aR, .inl (cA, n, .inl f))] [(cA, .byte)] sz)) (va_Qi (fun (r : Int32) => fun (_ : Unit) => r = (rbC (tb f k) en pl so).1) (fun _ => EnW (dC, dI) (va_A [(aQ, .inr (4, [.ref aT, .ref aK, .ref aV, .int pl, .int en, .int so, .int sa, .long ti])), (aT, .inr (5, [.ref aR, .int (nI k), .int ch])), (aR, .inl (cA, n, .inl f))] sz) [(aQ, .inr (4, [.ref aT, .ref aK, .ref aV, .int ((rbC (tb f k) en pl so).2.1), .int en, .int ((rbC (tb f k) en pl so).2.2), .int sa, .long ti])), (aT, .inr (5, [.ref aR, .int (nI k), .int ch])), (aR, .inl (cA, n, .inl f))] [(cA, .byte)]) (va_A [(aQ, .inr (4, [.ref aT, .ref aK, .ref aV, .int pl, .int en, .int so, .int sa, .long ti])), (aT, .inr (5, [.ref aR, .int (nI k), .int ch])), (aR, .inl (cA, n, .inl f))] sz)) 0 0 (va_A [(aQ, .inr (4, [.ref aT, .ref aK, .ref aV, .int pl, .int en, .int so, .int sa, .long ti])), (aT, .inr (5, [.ref aR, .int (nI k), .int ch])), (aR, .inl (cA, n, .inl f))] sz) := by
  refine Met.ofW (cc := cd_R_readByte) (maxL := 2) (ret := (some .int)) (by decide) rfl ?_
  intro p e s m args below meth c s₁ B hml hv
  obtain ⟨rfl, hsz, hP, hK, hD0, hG⟩ := hv
  have hx := B.exec
  have hb := B.bytes
  have hr := B.returns
  have hts := fun (w : Cond) (h : w ∈ bigT) => atoms_spec (ws := (wB my_R_readByte cd_R_readByte 2 (some .int))) B.pre w (List.mem_cons_of_mem _ h)
  have hown : s.vm.findClass rn_R = some m.cls := findClass_of_methodNamed B.named
  have hlocks := B.notSynchronized
  subst hsz
  have hD := hD0.self (sz := s.heap.size)
  generalize hAe : va_A [(aQ, .inr (4, [.ref aT, .ref aK, .ref aV, .int pl, .int en, .int so, .int sa, .long ti])), (aT, .inr (5, [.ref aR, .int (nI k), .int ch])), (aR, .inl (cA, n, .inl f))] s.heap.size = A at hD hG ⊢
  have hA : ∀ q : Nat, s.heap.size ≤ q → A q := fun q h => by rw [← hAe]; exact Or.inr h
  have hS : va_S A s.heap s.heap [] := va_S.rf
  have hP : va_P (dC, dI) vwCl [(aQ, .inr (4, [.ref aT, .ref aK, .ref aV, .int pl, .int en, .int so, .int sa, .long ti])), (aT, .inr (5, [.ref aR, .int (nI k), .int ch])), (aR, .inl (cA, n, .inl f))] s.heap := hP
  have hl := lv_entry ([.ref aQ]) (n := 2) (Nat.le_of_ble_eq_true rfl)
  rw [lg_entry_eq]
  generalize (lg_sl ([.ref aQ]) ++ List.replicate (2 - (lg_sl ([.ref aQ])).length) Slot.unset).toArray = ls at hl ⊢
  have hl : lv_has ls 2 [(0, .ref aQ)] := hl
  refine lv_aload_n hx hb dc_R_readByte_0 rfl (lv_at hl 0 rfl) ?_
  refine va_get (D := (dC, dI)) (ci := 4) (v := .int pl) (C := rn_R) (T := ft_R) (N := 8) hx hb hts fw_R hown hK hP 0 rfl rfl 3 (by decide) (hts _ bw1_126) (fun _ h9 => h9) rfl dc_R_readByte_1 ?_
  refine lv_aload_n hx hb dc_R_readByte_4 rfl (lv_at hl 0 rfl) ?_
  refine va_get (D := (dC, dI)) (ci := 4) (v := .int en) (C := rn_R) (T := ft_R) (N := 8) hx hb hts fw_R hown hK hP 0 rfl rfl 4 (by decide) (hts _ bw1_128) (fun _ h9 => h9) rfl dc_R_readByte_5 ?_
  refine lv_icmp_lt (tgt := 18) hx hb dc_R_readByte_8 (by decide) (fun c_1 => ?_) (fun c_1 => ?_)
  · have hrb : rbC (tb f k) en pl so = (tb f k pl, pl + 1, so) := by unfold rbC; rw [if_pos c_1]
    refine lv_aload_n hx hb dc_R_readByte_18 rfl (lv_at hl 0 rfl) ?_
    refine va_get (D := (dC, dI)) (ci := 4) (v := .ref aT) (C := rn_R) (T := ft_R) (N := 8) hx hb hts fw_R hown hK hP 0 rfl rfl 0 (by decide) (hts _ bw1_121) (fun _ h9 => h9) rfl dc_R_readByte_19 ?_
    refine lv_aload_n hx hb dc_R_readByte_22 rfl (lv_at hl 0 rfl) ?_
    refine va_get (D := (dC, dI)) (ci := 4) (v := .int pl) (C := rn_R) (T := ft_R) (N := 8) hx hb hts fw_R hown hK hP 0 rfl rfl 3 (by decide) (hts _ bw1_126) (fun _ h9 => h9) rfl dc_R_readByte_23 ?_
    refine kc_i (wc := [(aT, .inr (5, [.ref aR, .int (nI k), .int ch])), (aR, .inl (cA, n, .inl f))]) (wr := [(aQ, .inr (4, [.ref aT, .ref aK, .ref aV, .int pl, .int en, .int so, .int sa, .long ti]))]) hP hD hS hA [1, 2] [0] rfl rfl (by decide) (by decide) (va_runV (As := [.int pl]) (rest := []) ⟨hx, hb, hml, hown, hts⟩ (c_T_get l dC dI _ aT aR cA n f k ch pl (by omega) (by omega)) (kw_V 1 hts bw3_107 bw2_111 bw2_112 bw1_2 bw2_113 rfl rfl (by decide +kernel) ⟨Nat.le_of_ble_eq_true rfl, Nat.le_of_ble_eq_true rfl⟩) (kp_V (wc := [(aT, .inr (5, [.ref aR, .int (nI k), .int ch])), (aR, .inl (cA, n, .inl f))]) (tc := [(cA, .byte)]) (As := [.int pl]) hG hS hA hP hD hK [1, 2] rfl (by decide) rfl [0] rfl (ci := 5) (q0 := 1) rfl rfl) rfl rfl hl.1 rfl (lv_room (Nat.le_of_ble_eq_true rfl)) dc_R_readByte_26 ⟨Nat.zero_le _, Nat.zero_le _⟩) (fun r_2 _ H locs hw hP hD hK1 hS => ?_)
    subst hw
    have hP : va_P (dC, dI) vwCl [(aQ, .inr (4, [.ref aT, .ref aK, .ref aV, .int pl, .int en, .int so, .int sa, .long ti])), (aT, .inr (5, [.ref aR, .int (nI k), .int ch])), (aR, .inl (cA, n, .inl f))] H := hP
    have hD : va_D A [(aQ, .inr (4, [.ref aT, .ref aK, .ref aV, .int pl, .int en, .int so, .int sa, .long ti])), (aT, .inr (5, [.ref aR, .int (nI k), .int ch])), (aR, .inl (cA, n, .inl f))] := hD
    refine lv_istore_n (lv' := [(1, .int (tb f k pl)), (0, .ref aQ)]) hx hb dc_R_readByte_29 rfl hl (by decide) rfl (fun ls hl => ?_)
    refine lv_aload_n hx hb dc_R_readByte_30 rfl (lv_at hl 1 rfl) ?_
    refine lv_dup hx hb dc_R_readByte_31 rfl ?_
    refine va_get (D := (dC, dI)) (ci := 4) (v := .int pl) (C := rn_R) (T := ft_R) (N := 8) hx hb hts fw_R hown hK hP 0 rfl rfl 3 (by decide) (hts _ bw1_126) (fun _ h9 => h9) rfl dc_R_readByte_32 ?_
    refine lv_iconst (v := 1) hx hb dc_R_readByte_35 (by decide) ?_
    refine lv_iadd hx hb dc_R_readByte_36 ?_
    refine va_put (D := (dC, dI)) (ci := 4) (v := .int (pl + 1)) (ty := .int) (C := rn_R) (T := ft_R) (N := 8) hx hb hts fw_R fy_R fo_R fn_R hown hK hP hD hS 0 rfl rfl 3 (by decide) (hts _ bw1_126) (fun _ h9 => h9) rfl (by decide +kernel) rfl rfl (Nat.le_of_ble_eq_true rfl) dc_R_readByte_37 (fun H locs hP hD hS => ?_)
    have hP : va_P (dC, dI) vwCl [(aQ, .inr (4, [.ref aT, .ref aK, .ref aV, .int (pl + 1), .int en, .int so, .int sa, .long ti])), (aT, .inr (5, [.ref aR, .int (nI k), .int ch])), (aR, .inl (cA, n, .inl f))] H := hP
    have hD : va_D A [(aQ, .inr (4, [.ref aT, .ref aK, .ref aV, .int (pl + 1), .int en, .int so, .int sa, .long ti])), (aT, .inr (5, [.ref aR, .int (nI k), .int ch])), (aR, .inl (cA, n, .inl f))] := hD
    refine lv_iload_n hx hb dc_R_readByte_40 rfl (lv_at hl 0 rfl) ?_
    have e_3 : (pl + 1) = ((rbC (tb f k) en pl so).2.1) := by rw [hrb]
    have e_4 : so = ((rbC (tb f k) en pl so).2.2) := by rw [hrb]
    have hP := wP_eq (ws' := [(aQ, .inr (4, [.ref aT, .ref aK, .ref aV, .int ((rbC (tb f k) en pl so).2.1), .int en, .int ((rbC (tb f k) en pl so).2.2), .int sa, .long ti])), (aT, .inr (5, [.ref aR, .int (nI k), .int ch])), (aR, .inl (cA, n, .inl f))]) hP (cg2 (fun y0 y1 => ([(aQ, .inr (4, [.ref aT, .ref aK, .ref aV, .int y0, .int en, .int y1, .int sa, .long ti])), (aT, .inr (5, [.ref aR, .int (nI k), .int ch])), (aR, .inl (cA, n, .inl f))] : va_W)) e_3 e_4)
    have hD := wD_eq (ws' := [(aQ, .inr (4, [.ref aT, .ref aK, .ref aV, .int ((rbC (tb f k) en pl so).2.1), .int en, .int ((rbC (tb f k) en pl so).2.2), .int sa, .long ti])), (aT, .inr (5, [.ref aR, .int (nI k), .int ch])), (aR, .inl (cA, n, .inl f))]) hD (cg2 (fun y0 y1 => ([(aQ, .inr (4, [.ref aT, .ref aK, .ref aV, .int y0, .int en, .int y1, .int sa, .long ti])), (aT, .inr (5, [.ref aR, .int (nI k), .int ch])), (aR, .inl (cA, n, .inl f))] : va_W)) e_3 e_4)
    have hP9 := hP.sub (ws' := [(aQ, .inr (4, [.ref aT, .ref aK, .ref aV, .int ((rbC (tb f k) en pl so).2.1), .int en, .int ((rbC (tb f k) en pl so).2.2), .int sa, .long ti])), (aT, .inr (5, [.ref aR, .int (nI k), .int ch])), (aR, .inl (cA, n, .inl f))]) [0, 1, 2] rfl
    have hD9 := hD.sub (ws' := [(aQ, .inr (4, [.ref aT, .ref aK, .ref aV, .int ((rbC (tb f k) en pl so).2.1), .int en, .int ((rbC (tb f k) en pl so).2.2), .int sa, .long ti])), (aT, .inr (5, [.ref aR, .int (nI k), .int ch])), (aR, .inl (cA, n, .inl f))]) [0, 1, 2] (by decide) rfl
    have hK9 := hK.sub (tys' := [(cA, .byte)]) [0] rfl
    exact W.iret (v := (tb f k pl)) hx hb hr (fun t ht hW => ⟨⟨(tb f k pl), (), rfl, by rw [hrb], by rw [ht]; exact hP9, va_K.moved hW.alike hK9, hD9⟩, hS.F ht⟩) hS.2.2 dc_R_readByte_41
  · have hrb : rbC (tb f k) en pl so = (0, pl, 0) := by unfold rbC; rw [if_neg c_1]
    refine lv_aload_n hx hb dc_R_readByte_11 rfl (lv_at hl 0 rfl) ?_
    refine lv_iconst (v := 0) hx hb dc_R_readByte_12 (by decide) ?_
    refine va_put (D := (dC, dI)) (ci := 4) (v := .int 0) (ty := .boolean) (C := rn_R) (T := ft_R) (N := 8) hx hb hts fw_R fy_R fo_R fn_R hown hK hP hD hS 0 rfl rfl 5 (by decide) (hts _ bw1_129) (fun _ h9 => h9) rfl (by decide +kernel) rfl rfl (Nat.le_of_ble_eq_true rfl) dc_R_readByte_13 (fun H locs hP hD hS => ?_)
    have hP : va_P (dC, dI) vwCl [(aQ, .inr (4, [.ref aT, .ref aK, .ref aV, .int pl, .int en, .int 0, .int sa, .long ti])), (aT, .inr (5, [.ref aR, .int (nI k), .int ch])), (aR, .inl (cA, n, .inl f))] H := hP
    have hD : va_D A [(aQ, .inr (4, [.ref aT, .ref aK, .ref aV, .int pl, .int en, .int 0, .int sa, .long ti])), (aT, .inr (5, [.ref aR, .int (nI k), .int ch])), (aR, .inl (cA, n, .inl f))] := hD
    refine lv_iconst (v := 0) hx hb dc_R_readByte_16 (by decide) ?_
    have e_5 : pl = ((rbC (tb f k) en pl so).2.1) := by rw [hrb]
    have e_6 : 0 = ((rbC (tb f k) en pl so).2.2) := by rw [hrb]
    have hP := wP_eq (ws' := [(aQ, .inr (4, [.ref aT, .ref aK, .ref aV, .int ((rbC (tb f k) en pl so).2.1), .int en, .int ((rbC (tb f k) en pl so).2.2), .int sa, .long ti])), (aT, .inr (5, [.ref aR, .int (nI k), .int ch])), (aR, .inl (cA, n, .inl f))]) hP (cg2 (fun y0 y1 => ([(aQ, .inr (4, [.ref aT, .ref aK, .ref aV, .int y0, .int en, .int y1, .int sa, .long ti])), (aT, .inr (5, [.ref aR, .int (nI k), .int ch])), (aR, .inl (cA, n, .inl f))] : va_W)) e_5 e_6)
    have hD := wD_eq (ws' := [(aQ, .inr (4, [.ref aT, .ref aK, .ref aV, .int ((rbC (tb f k) en pl so).2.1), .int en, .int ((rbC (tb f k) en pl so).2.2), .int sa, .long ti])), (aT, .inr (5, [.ref aR, .int (nI k), .int ch])), (aR, .inl (cA, n, .inl f))]) hD (cg2 (fun y0 y1 => ([(aQ, .inr (4, [.ref aT, .ref aK, .ref aV, .int y0, .int en, .int y1, .int sa, .long ti])), (aT, .inr (5, [.ref aR, .int (nI k), .int ch])), (aR, .inl (cA, n, .inl f))] : va_W)) e_5 e_6)
    have hP9 := hP.sub (ws' := [(aQ, .inr (4, [.ref aT, .ref aK, .ref aV, .int ((rbC (tb f k) en pl so).2.1), .int en, .int ((rbC (tb f k) en pl so).2.2), .int sa, .long ti])), (aT, .inr (5, [.ref aR, .int (nI k), .int ch])), (aR, .inl (cA, n, .inl f))]) [0, 1, 2] rfl
    have hD9 := hD.sub (ws' := [(aQ, .inr (4, [.ref aT, .ref aK, .ref aV, .int ((rbC (tb f k) en pl so).2.1), .int en, .int ((rbC (tb f k) en pl so).2.2), .int sa, .long ti])), (aT, .inr (5, [.ref aR, .int (nI k), .int ch])), (aR, .inl (cA, n, .inl f))]) [0, 1, 2] (by decide) rfl
    have hK9 := hK.sub (tys' := [(cA, .byte)]) [0] rfl
    exact W.iret (v := 0) hx hb hr (fun t ht hW => ⟨⟨0, (), rfl, by rw [hrb], by rw [ht]; exact hP9, va_K.moved hW.alike hK9, hD9⟩, hS.F ht⟩) hS.2.2 dc_R_readByte_17
