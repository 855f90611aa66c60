set_option maxHeartbeats 1000000 in
set_option maxRecDepth 100000 in
theorem c_D_init (l : Launch) (dC : Nat → ClassId) (dI : Nat → Nat → Nat) (sz : Nat) (eE : Nat) (aF : Nat) : Met l my_D_init (wB my_D_init cd_D_init 1 none) ({ frames := 4, cells := 1, slots := 3, locals := 72 }) (va_Pc [.ref aF] (PcE (dC, dI) eE [(aF, .inr (1, [.null, .int 0, .int 0, .int 0]))] [] sz)) (va_Qv (fun (aL : Nat) => True) (fun aL => EnW (dC, dI) (va_A [(aF, .inr (1, [.null, .int 0, .int 0, .int 0]))] sz) [(aF, .inr (1, [.ref aL, .int (nI 0), .int (nI 0), .int 0])), (aL, .inr (0, [.int 0, .ref eE, .int (nI 0)]))] []) (va_A [(aF, .inr (1, [.null, .int 0, .int 0, .int 0]))] sz)) 1 3 (va_A [(aF, .inr (1, [.null, .int 0, .int 0, .int 0]))] sz) := by
  refine Met.ofW (cc := cd_D_init) (maxL := 1) (ret := none) (by decide) rfl ?_
  intro p e s m args below meth c s₁ B hml hv
  obtain ⟨rfl, ⟨hsz, hP, hK, hD0, hG⟩, hE⟩ := hv
  have hx := B.exec
  have hb := B.bytes
  have hr := B.returns
  have hts := fun (w : Cond) (h : w ∈ bigT) => atoms_spec (ws := (wB my_D_init cd_D_init 1 none)) B.pre w (List.mem_cons_of_mem _ h)
  have hown : s.vm.findClass rn_D = some m.cls := findClass_of_methodNamed B.named
  have hlocks := B.notSynchronized
  have hin : meth.name = "<init>" := (name_of_methodNamed B.named B.method).1
  subst hsz
  have hD := hD0.self (sz := s.heap.size)
  generalize hAe : va_A [(aF, .inr (1, [.null, .int 0, .int 0, .int 0]))] s.heap.size = A at hD hG hE ⊢
  have gE1 := hE.1
  have gE2 := hE.2
  have hA : ∀ q : Nat, s.heap.size ≤ q → A q := fun q h => by rw [← hAe]; exact Or.inr h
  have hS : va_S A s.heap s.heap [] := va_S.rf
  have hP : va_P (dC, dI) vwCl [(aF, .inr (1, [.null, .int 0, .int 0, .int 0]))] s.heap := hP
  have hl := lv_entry ([.ref aF]) (n := 1) (Nat.le_of_ble_eq_true rfl)
  rw [lg_entry_eq]
  generalize (lg_sl ([.ref aF]) ++ List.replicate (1 - (lg_sl ([.ref aF])).length) Slot.unset).toArray = ls at hl ⊢
  have hl : lv_has ls 1 [(0, .ref aF)] := hl
  refine lv_aload_n hx hb dc_D_init_0 rfl (lv_at hl 0 rfl) ?_
  refine W.objInit hx hb hown (hts _ bw1_55) (hts _ bw1_28) (hts _ bw1_29) rfl (by rw [hml]; exact hl.1) rfl dc_D_init_1 (Nat.le_of_ble_eq_true rfl) (Nat.le_of_ble_eq_true rfl) ?_
  refine W.eq (g2 := F0 m 4 ls []) rfl ?_
  refine lv_aload_n hx hb dc_D_init_4 rfl (lv_at hl 0 rfl) ?_
  refine va_new (ci := 0) (fs := [.int 0, .null, .int 0]) (C := rn_A) (T := ft_A) (N := 3) hx hb hts fw_A fy_A fo_A hown (hts _ bw1_56) (hts _ bw1_57) (hts _ bw1_6) hK hP hD hS hA rfl (fun j hj => by rcases (show j = 0 ∨ j = 1 ∨ j = 2 by omega) with rfl | rfl | rfl <;> rfl) (by show _ ≤ 1; omega) (by show _ ≤ 3; omega) dc_D_init_5 (fun q_1 H hP hD hS => ?_)
  have hP : va_P (dC, dI) vwCl [(aF, .inr (1, [.null, .int 0, .int 0, .int 0])), (q_1, .inr (0, [.int 0, .null, .int 0]))] H := hP
  have hD : va_D A [(aF, .inr (1, [.null, .int 0, .int 0, .int 0])), (q_1, .inr (0, [.int 0, .null, .int 0]))] := hD
  refine lv_dup hx hb dc_D_init_8 rfl ?_
  refine kc_v (wc := [(q_1, .inr (0, [.int 0, .null, .int 0]))]) (wr := [(aF, .inr (1, [.null, .int 0, .int 0, .int 0]))]) hP hD hS hA [1] [0] rfl rfl (by decide) (by decide) (va_runI (As := []) (rest := [.ref q_1, .ref aF]) ⟨hx, hb, hml, hown, hts⟩ (c_A_init l dC dI _ eE q_1 ) (kw_I 0 hts bw1_58 bw1_59 bw1_6 bw1_60 rfl rfl rfl (by decide +kernel) ⟨Nat.le_of_ble_eq_true rfl, Nat.le_of_ble_eq_true rfl⟩) (kp_SE (wc := [(q_1, .inr (0, [.int 0, .null, .int 0]))]) (tc := []) (av := [.ref q_1]) hE hG hS hA hP hD hK [1] rfl (by decide) rfl [] rfl) rfl rfl hl.1 rfl (lv_room (Nat.le_of_ble_eq_true rfl)) dc_D_init_9 ⟨by show _ ≤ 1; omega, by show _ ≤ 3; omega⟩) (fun _ H locs hw hP hD hK1 hS => ?_)
  have hP : va_P (dC, dI) vwCl [(aF, .inr (1, [.null, .int 0, .int 0, .int 0])), (q_1, .inr (0, [.int 0, .ref eE, .int 0]))] H := hP
  have hD : va_D A [(aF, .inr (1, [.null, .int 0, .int 0, .int 0])), (q_1, .inr (0, [.int 0, .ref eE, .int 0]))] := hD
  refine va_putF (D := (dC, dI)) (ci := 1) (v := .ref q_1) (ty := .object "java/util/ArrayList") (C := rn_D) (T := ft_D) (N := 4) hx hb hts fw_D fy_D fo_D fn_D hown hK hP hD hS 0 rfl rfl 0 (by decide) (hts _ bw1_82) (fun _ h9 => h9) rfl hin rfl (by decide +kernel) rfl rfl (Nat.le_of_ble_eq_true rfl) dc_D_init_12 (fun H locs hP hD hS => ?_)
  have hP : va_P (dC, dI) vwCl [(aF, .inr (1, [.ref q_1, .int 0, .int 0, .int 0])), (q_1, .inr (0, [.int 0, .ref eE, .int 0]))] H := hP
  have hD : va_D A [(aF, .inr (1, [.ref q_1, .int 0, .int 0, .int 0])), (q_1, .inr (0, [.int 0, .ref eE, .int 0]))] := hD
  refine lv_aload_n hx hb dc_D_init_15 rfl (lv_at hl 0 rfl) ?_
  refine lv_iconst (v := 0) hx hb dc_D_init_16 (by decide) ?_
  refine va_put (D := (dC, dI)) (ci := 1) (v := .int 0) (ty := .int) (C := rn_D) (T := ft_D) (N := 4) hx hb hts fw_D fy_D fo_D fn_D hown hK hP hD hS 0 rfl rfl 1 (by decide) (hts _ bw1_83) (fun _ h9 => h9) rfl (by decide +kernel) rfl rfl (Nat.le_of_ble_eq_true rfl) dc_D_init_17 (fun H locs hP hD hS => ?_)
  have hP : va_P (dC, dI) vwCl [(aF, .inr (1, [.ref q_1, .int 0, .int 0, .int 0])), (q_1, .inr (0, [.int 0, .ref eE, .int 0]))] H := hP
  have hD : va_D A [(aF, .inr (1, [.ref q_1, .int 0, .int 0, .int 0])), (q_1, .inr (0, [.int 0, .ref eE, .int 0]))] := hD
  refine lv_aload_n hx hb dc_D_init_20 rfl (lv_at hl 0 rfl) ?_
  refine lv_iconst (v := 0) hx hb dc_D_init_21 (by decide) ?_
  refine va_put (D := (dC, dI)) (ci := 1) (v := .int 0) (ty := .int) (C := rn_D) (T := ft_D) (N := 4) hx hb hts fw_D fy_D fo_D fn_D hown hK hP hD hS 0 rfl rfl 2 (by decide) (hts _ bw1_85) (fun _ h9 => h9) rfl (by decide +kernel) rfl rfl (Nat.le_of_ble_eq_true rfl) dc_D_init_22 (fun H locs hP hD hS => ?_)
  have hP : va_P (dC, dI) vwCl [(aF, .inr (1, [.ref q_1, .int 0, .int 0, .int 0])), (q_1, .inr (0, [.int 0, .ref eE, .int 0]))] H := hP
  have hD : va_D A [(aF, .inr (1, [.ref q_1, .int 0, .int 0, .int 0])), (q_1, .inr (0, [.int 0, .ref eE, .int 0]))] := hD
  refine lv_aload_n hx hb dc_D_init_25 rfl (lv_at hl 0 rfl) ?_
  refine lv_iconst (v := 0) hx hb dc_D_init_26 (by decide) ?_
  refine va_put (D := (dC, dI)) (ci := 1) (v := .int 0) (ty := .int) (C := rn_D) (T := ft_D) (N := 4) hx hb hts fw_D fy_D fo_D fn_D hown hK hP hD hS 0 rfl rfl 3 (by decide) (hts _ bw1_87) (fun _ h9 => h9) rfl (by decide +kernel) rfl rfl (Nat.le_of_ble_eq_true rfl) dc_D_init_27 (fun H locs hP hD hS => ?_)
  have hP : va_P (dC, dI) vwCl [(aF, .inr (1, [.ref q_1, .int 0, .int 0, .int 0])), (q_1, .inr (0, [.int 0, .ref eE, .int 0]))] H := hP
  have hD : va_D A [(aF, .inr (1, [.ref q_1, .int 0, .int 0, .int 0])), (q_1, .inr (0, [.int 0, .ref eE, .int 0]))] := hD
  have hP9 := hP.sub (ws' := [(aF, .inr (1, [.ref q_1, .int (nI 0), .int (nI 0), .int 0])), (q_1, .inr (0, [.int 0, .ref eE, .int (nI 0)]))]) [0, 1] rfl
  have hD9 := hD.sub (ws' := [(aF, .inr (1, [.ref q_1, .int (nI 0), .int (nI 0), .int 0])), (q_1, .inr (0, [.int 0, .ref eE, .int (nI 0)]))]) [0, 1] (by decide) rfl
  have hK9 := hK.sub (tys' := []) [] rfl
  refine W.widen (k := 1) (n := 3) (by omega) (by omega) ?_
  exact W.vret hx hb hr (fun t ht hW => ⟨⟨q_1, rfl, trivial, by rw [ht]; exact hP9, va_K.moved hW.alike hK9, hD9⟩, hS.F ht⟩) hS.2.2 dc_D_init_30

set_option maxHeartbeats 4000000 in
set_option maxRecDepth 100000 in
theorem c_D_drop (l : Launch) (dC : Nat → ClassId) (dI : Nat → Nat → Nat) (sz : Nat) (eE : Nat) (aF : Nat) (aL : Nat) (dn : Nat) (wt : Nat) (lt : Int32) (md : Int32) (ea : Nat) (N : Nat) (cO : ClassId) (ln : Nat) (gs : Nat → GR) (pl : va_W) (hls : LSx eE pl ea N ln cO gs) (hln : ln < 2 ^ 30) : Met l my_D_drop (wB my_D_drop cd_D_drop 1 none) ({ frames := 1, cells := 0, slots := 0, locals := 23 }) (va_Pc [.ref aF] (PcW (dC, dI) ([(aF, .inr (1, [.ref aL, .int (nI dn), .int (nI wt), .int lt])), (aL, .inr (0, [.int md, .ref ea, .int (nI N)]))] ++ pl) [(cO, .object "java/lang/Object")] sz)) (va_Qv (fun (pl1 : va_W) => LSx eE pl1 ea 0 ln cO gs) (fun pl1 => EnW (dC, dI) (va_A ([(aF, .inr (1, [.ref aL, .int (nI dn), .int (nI wt), .int lt])), (aL, .inr (0, [.int md, .ref ea, .int (nI N)]))] ++ pl) sz) ([(aF, .inr (1, [.ref aL, .int (nI 0), .int (nI 0), .int 0])), (aL, .inr (0, [.int (md + 1), .ref ea, .int (nI 0)]))] ++ pl1) [(cO, .object "java/lang/Object")]) (va_A ([(aF, .inr (1, [.ref aL, .int (nI dn), .int (nI wt), .int lt])), (aL, .inr (0, [.int md, .ref ea, .int (nI N)]))] ++ pl) sz)) 0 0 (va_A ([(aF, .inr (1, [.ref aL, .int (nI dn), .int (nI wt), .int lt])), (aL, .inr (0, [.int md, .ref ea, .int (nI N)]))] ++ pl) sz) := by
  rcases hls with ⟨h1, h2, h3⟩ | ⟨fa, gr, h1, h10, hNl, hel⟩
  · show Met l my_D_drop (wB my_D_drop cd_D_drop 1 none) ({ frames := 1, cells := 0, slots := 0, locals := 23 }) (va_Pc [.ref aF] (PcW (dC, dI) ([(aF, .inr (1, [.ref aL, .int (nI dn), .int (nI wt), .int lt])), (aL, .inr (0, [.int md, .ref ea, .int (nI N)]))] ++ pl) [(cO, .object "java/lang/Object")] sz)) (va_Qv (fun (pl1 : va_W) => LSx eE pl1 ea 0 ln cO gs) (fun pl1 => EnW (dC, dI) (va_A ([(aF, .inr (1, [.ref aL, .int (nI dn), .int (nI wt), .int lt])), (aL, .inr (0, [.int md, .ref ea, .int (nI N)]))] ++ pl) sz) ([(aF, .inr (1, [.ref aL, .int (nI 0), .int (nI 0), .int 0])), (aL, .inr (0, [.int (md + 1), .ref ea, .int (nI 0)]))] ++ pl1) [(cO, .object "java/lang/Object")]) (va_A ([(aF, .inr (1, [.ref aL, .int (nI dn), .int (nI wt), .int lt])), (aL, .inr (0, [.int md, .ref ea, .int (nI N)]))] ++ pl) sz)) 0 0 (va_A ([(aF, .inr (1, [.ref aL, .int (nI dn), .int (nI wt), .int lt])), (aL, .inr (0, [.int md, .ref ea, .int (nI N)]))] ++ pl) sz)
    refine Met.ofW (cc := cd_D_drop) (maxL := 1) (ret := none) (by decide) rfl ?_
    intro p e s m args below meth c s₁ B hml hv
    obtain ⟨rfl, hsz, hP, hK, hD0, hG⟩ := hv
    have hx := B.exec
    have hb := B.bytes
    have hr := B.returns
    have hts := fun (w : Cond) (h : w ∈ bigT) => atoms_spec (ws := (wB my_D_drop cd_D_drop 1 none)) B.pre w (List.mem_cons_of_mem _ h)
    have hown : s.vm.findClass rn_D = some m.cls := findClass_of_methodNamed B.named
    have hlocks := B.notSynchronized
    subst hsz
    have hD := hD0.self (sz := s.heap.size)
    generalize hAe : va_A ([(aF, .inr (1, [.ref aL, .int (nI dn), .int (nI wt), .int lt])), (aL, .inr (0, [.int md, .ref ea, .int (nI N)]))] ++ pl) s.heap.size = A at hD hG ⊢
    have hA : ∀ q : Nat, s.heap.size ≤ q → A q := fun q h => by rw [← hAe]; exact Or.inr h
    have hS : va_S A s.heap s.heap [] := va_S.rf
    have hP : va_P (dC, dI) vwCl ([(aF, .inr (1, [.ref aL, .int (nI dn), .int (nI wt), .int lt])), (aL, .inr (0, [.int md, .ref ea, .int (nI N)]))] ++ pl) s.heap := hP
    have hl := lv_entry ([.ref aF]) (n := 1) (Nat.le_of_ble_eq_true rfl)
    rw [lg_entry_eq]
    generalize (lg_sl ([.ref aF]) ++ List.replicate (1 - (lg_sl ([.ref aF])).length) Slot.unset).toArray = ls at hl ⊢
    have hl : lv_has ls 1 [(0, .ref aF)] := hl
    refine lv_aload_n hx hb dc_D_drop_0 rfl (lv_at hl 0 rfl) ?_
    refine va_get (D := (dC, dI)) (ci := 1) (v := .ref aL) (C := rn_D) (T := ft_D) (N := 4) hx hb hts fw_D hown hK hP 0 rfl rfl 0 (by decide) (hts _ bw1_82) (fun _ h9 => h9) rfl dc_D_drop_1 ?_
    refine kc_vQ (X := [(aF, .inr (1, [.ref aL, .int (nI dn), .int (nI wt), .int lt])), (aL, .inr (0, [.int md, .ref ea, .int (nI N)]))]) (cx := [(aL, .inr (0, [.int md, .ref ea, .int (nI N)]))]) (wr := [(aF, .inr (1, [.ref aL, .int (nI dn), .int (nI wt), .int lt]))]) (pl := pl) hP hD hS hA [1] [0] rfl rfl rfl (by decide) (by decide) (va_runV (As := []) (rest := []) ⟨hx, hb, hml, hown, hts⟩ (c_A_clear0 l dC dI _ aL md ea N (by omega)) (kw_V 0 hts bw1_197 bw1_198 bw1_199 bw1_6 bw1_200 rfl rfl (by decide +kernel) ⟨Nat.le_of_ble_eq_true rfl, Nat.le_of_ble_eq_true rfl⟩) (kp_V (wc := [(aL, .inr (0, [.int md, .ref ea, .int (nI N)]))]) (tc := []) (As := []) hG hS hA hP hD hK [1] rfl (by decide) rfl [] rfl (ci := 0) (q0 := 1) rfl rfl) rfl rfl hl.1 rfl (lv_room (Nat.le_of_ble_eq_true rfl)) dc_D_drop_4 ⟨Nat.zero_le _, Nat.zero_le _⟩) (fun _ H locs hw hP hD hK1 hS => ?_)
    have hP : va_P (dC, dI) vwCl ([(aF, .inr (1, [.ref aL, .int (nI dn), .int (nI wt), .int lt])), (aL, .inr (0, [.int (md + 1), .ref ea, .int (nI 0)]))] ++ pl) H := hP
    have hD : va_D A ([(aF, .inr (1, [.ref aL, .int (nI dn), .int (nI wt), .int lt])), (aL, .inr (0, [.int (md + 1), .ref ea, .int (nI 0)]))] ++ pl) := hD
    refine lv_aload_n hx hb dc_D_drop_7 rfl (lv_at hl 0 rfl) ?_
    refine lv_iconst (v := 0) hx hb dc_D_drop_8 (by decide) ?_
    refine va_put (D := (dC, dI)) (ci := 1) (v := .int 0) (ty := .int) (C := rn_D) (T := ft_D) (N := 4) hx hb hts fw_D fy_D fo_D fn_D hown hK hP hD hS 0 rfl rfl 1 (by decide) (hts _ bw1_83) (fun _ h9 => h9) rfl (by decide +kernel) rfl rfl (Nat.le_of_ble_eq_true rfl) dc_D_drop_9 (fun H locs hP hD hS => ?_)
    have hP : va_P (dC, dI) vwCl ([(aF, .inr (1, [.ref aL, .int 0, .int (nI wt), .int lt])), (aL, .inr (0, [.int (md + 1), .ref ea, .int (nI 0)]))] ++ pl) H := hP
    have hD : va_D A ([(aF, .inr (1, [.ref aL, .int 0, .int (nI wt), .int lt])), (aL, .inr (0, [.int (md + 1), .ref ea, .int (nI 0)]))] ++ pl) := hD
    refine lv_aload_n hx hb dc_D_drop_12 rfl (lv_at hl 0 rfl) ?_
    refine lv_iconst (v := 0) hx hb dc_D_drop_13 (by decide) ?_
    refine va_put (D := (dC, dI)) (ci := 1) (v := .int 0) (ty := .int) (C := rn_D) (T := ft_D) (N := 4) hx hb hts fw_D fy_D fo_D fn_D hown hK hP hD hS 0 rfl rfl 2 (by decide) (hts _ bw1_85) (fun _ h9 => h9) rfl (by decide +kernel) rfl rfl (Nat.le_of_ble_eq_true rfl) dc_D_drop_14 (fun H locs hP hD hS => ?_)
    have hP : va_P (dC, dI) vwCl ([(aF, .inr (1, [.ref aL, .int 0, .int 0, .int lt])), (aL, .inr (0, [.int (md + 1), .ref ea, .int (nI 0)]))] ++ pl) H := hP
    have hD : va_D A ([(aF, .inr (1, [.ref aL, .int 0, .int 0, .int lt])), (aL, .inr (0, [.int (md + 1), .ref ea, .int (nI 0)]))] ++ pl) := hD
    refine lv_aload_n hx hb dc_D_drop_17 rfl (lv_at hl 0 rfl) ?_
    refine lv_iconst (v := 0) hx hb dc_D_drop_18 (by decide) ?_
    refine va_put (D := (dC, dI)) (ci := 1) (v := .int 0) (ty := .int) (C := rn_D) (T := ft_D) (N := 4) hx hb hts fw_D fy_D fo_D fn_D hown hK hP hD hS 0 rfl rfl 3 (by decide) (hts _ bw1_87) (fun _ h9 => h9) rfl (by decide +kernel) rfl rfl (Nat.le_of_ble_eq_true rfl) dc_D_drop_19 (fun H locs hP hD hS => ?_)
    have hP : va_P (dC, dI) vwCl ([(aF, .inr (1, [.ref aL, .int 0, .int 0, .int 0])), (aL, .inr (0, [.int (md + 1), .ref ea, .int (nI 0)]))] ++ pl) H := hP
    have hD : va_D A ([(aF, .inr (1, [.ref aL, .int 0, .int 0, .int 0])), (aL, .inr (0, [.int (md + 1), .ref ea, .int (nI 0)]))] ++ pl) := hD
    have hP9 : va_P (dC, dI) vwCl ([(aF, .inr (1, [.ref aL, .int (nI 0), .int (nI 0), .int 0])), (aL, .inr (0, [.int (md + 1), .ref ea, .int (nI 0)]))] ++ pl) H := hP.part (cx := [(aF, .inr (1, [.ref aL, .int (nI 0), .int (nI 0), .int 0])), (aL, .inr (0, [.int (md + 1), .ref ea, .int (nI 0)]))]) (pl := pl) [0, 1] rfl
    have hD9 : va_D A ([(aF, .inr (1, [.ref aL, .int (nI 0), .int (nI 0), .int 0])), (aL, .inr (0, [.int (md + 1), .ref ea, .int (nI 0)]))] ++ pl) := hD.part (cx := [(aF, .inr (1, [.ref aL, .int (nI 0), .int (nI 0), .int 0])), (aL, .inr (0, [.int (md + 1), .ref ea, .int (nI 0)]))]) (pl := pl) [0, 1] (by decide) rfl
    have hK9 := hK.sub (tys' := [(cO, .object "java/lang/Object")]) [0] rfl
    exact W.vret hx hb hr (fun t ht hW => ⟨⟨pl, rfl, Or.inl ⟨h1, rfl, h3⟩, by rw [ht]; exact hP9, va_K.moved hW.alike hK9, hD9⟩, hS.F ht⟩) hS.2.2 dc_D_drop_22
  · subst h1
    show Met l my_D_drop (wB my_D_drop cd_D_drop 1 none) ({ frames := 1, cells := 0, slots := 0, locals := 23 }) (va_Pc [.ref aF] (PcW (dC, dI) ([(aF, .inr (1, [.ref aL, .int (nI dn), .int (nI wt), .int lt])), (aL, .inr (0, [.int md, .ref ea, .int (nI N)])), (ea, .inl (cO, ln, .inr (.inr (.inr (.inr fa)))))] ++ gr) [(cO, .object "java/lang/Object")] sz)) (va_Qv (fun (pl1 : va_W) => LSx eE pl1 ea 0 ln cO gs) (fun pl1 => EnW (dC, dI) (va_A ([(aF, .inr (1, [.ref aL, .int (nI dn), .int (nI wt), .int lt])), (aL, .inr (0, [.int md, .ref ea, .int (nI N)])), (ea, .inl (cO, ln, .inr (.inr (.inr (.inr fa)))))] ++ gr) sz) ([(aF, .inr (1, [.ref aL, .int (nI 0), .int (nI 0), .int 0])), (aL, .inr (0, [.int (md + 1), .ref ea, .int (nI 0)]))] ++ pl1) [(cO, .object "java/lang/Object")]) (va_A ([(aF, .inr (1, [.ref aL, .int (nI dn), .int (nI wt), .int lt])), (aL, .inr (0, [.int md, .ref ea, .int (nI N)])), (ea, .inl (cO, ln, .inr (.inr (.inr (.inr fa)))))] ++ gr) sz)) 0 0 (va_A ([(aF, .inr (1, [.ref aL, .int (nI dn), .int (nI wt), .int lt])), (aL, .inr (0, [.int md, .ref ea, .int (nI N)])), (ea, .inl (cO, ln, .inr (.inr (.inr (.inr fa)))))] ++ gr) sz)
    refine Met.ofW (cc := cd_D_drop) (maxL := 1) (ret := none) (by decide) rfl ?_
    intro p e s m args below meth c s₁ B hml hv
    obtain ⟨rfl, hsz, hP, hK, hD0, hG⟩ := hv
    have hx := B.exec
    have hb := B.bytes
    have hr := B.returns
    have hts := fun (w : Cond) (h : w ∈ bigT) => atoms_spec (ws := (wB my_D_drop cd_D_drop 1 none)) B.pre w (List.mem_cons_of_mem _ h)
    have hown : s.vm.findClass rn_D = some m.cls := findClass_of_methodNamed B.named
    have hlocks := B.notSynchronized
    subst hsz
    have hD := hD0.self (sz := s.heap.size)
    generalize hAe : va_A ([(aF, .inr (1, [.ref aL, .int (nI dn), .int (nI wt), .int lt])), (aL, .inr (0, [.int md, .ref ea, .int (nI N)])), (ea, .inl (cO, ln, .inr (.inr (.inr (.inr fa)))))] ++ gr) s.heap.size = A at hD hG ⊢
    have hA : ∀ q : Nat, s.heap.size ≤ q → A q := fun q h => by rw [← hAe]; exact Or.inr h
    have hS : va_S A s.heap s.heap [] := va_S.rf
    have hP : va_P (dC, dI) vwCl ([(aF, .inr (1, [.ref aL, .int (nI dn), .int (nI wt), .int lt])), (aL, .inr (0, [.int md, .ref ea, .int (nI N)])), (ea, .inl (cO, ln, .inr (.inr (.inr (.inr fa)))))] ++ gr) s.heap := hP
    have hl := lv_entry ([.ref aF]) (n := 1) (Nat.le_of_ble_eq_true rfl)
    rw [lg_entry_eq]
    generalize (lg_sl ([.ref aF]) ++ List.replicate (1 - (lg_sl ([.ref aF])).length) Slot.unset).toArray = ls at hl ⊢
    have hl : lv_has ls 1 [(0, .ref aF)] := hl
    refine lv_aload_n hx hb dc_D_drop_0 rfl (lv_at hl 0 rfl) ?_
    refine va_get (D := (dC, dI)) (ci := 1) (v := .ref aL) (C := rn_D) (T := ft_D) (N := 4) hx hb hts fw_D hown hK hP 0 rfl rfl 0 (by decide) (hts _ bw1_82) (fun _ h9 => h9) rfl dc_D_drop_1 ?_
    refine kc_vQ (X := [(aF, .inr (1, [.ref aL, .int (nI dn), .int (nI wt), .int lt])), (aL, .inr (0, [.int md, .ref ea, .int (nI N)])), (ea, .inl (cO, ln, .inr (.inr (.inr (.inr fa)))))]) (cx := [(aL, .inr (0, [.int md, .ref ea, .int (nI N)])), (ea, .inl (cO, ln, .inr (.inr (.inr (.inr fa)))))]) (wr := [(aF, .inr (1, [.ref aL, .int (nI dn), .int (nI wt), .int lt]))]) (pl := gr) hP hD hS hA [1, 2] [0] rfl rfl rfl (by decide) (by decide) (va_runV (As := []) (rest := []) ⟨hx, hb, hml, hown, hts⟩ (c_A_clear l dC dI _ aL md ea N cO ln fa (by omega) (by omega)) (kw_V 0 hts bw1_197 bw1_198 bw1_199 bw1_6 bw1_200 rfl rfl (by decide +kernel) ⟨Nat.le_of_ble_eq_true rfl, Nat.le_of_ble_eq_true rfl⟩) (kp_V (wc := [(aL, .inr (0, [.int md, .ref ea, .int (nI N)])), (ea, .inl (cO, ln, .inr (.inr (.inr (.inr fa)))))]) (tc := [(cO, .object "java/lang/Object")]) (As := []) hG hS hA hP hD hK [1, 2] rfl (by decide) rfl [0] rfl (ci := 0) (q0 := 1) rfl rfl) rfl rfl hl.1 rfl (lv_room (Nat.le_of_ble_eq_true rfl)) dc_D_drop_4 ⟨Nat.zero_le _, Nat.zero_le _⟩) (fun fa1_1 H locs hw hP hD hK1 hS => ?_)
    have hP : va_P (dC, dI) vwCl ([(aF, .inr (1, [.ref aL, .int (nI dn), .int (nI wt), .int lt])), (aL, .inr (0, [.int (md + 1), .ref ea, .int (nI 0)])), (ea, .inl (cO, ln, .inr (.inr (.inr (.inr fa1_1)))))] ++ gr) H := hP
    have hD : va_D A ([(aF, .inr (1, [.ref aL, .int (nI dn), .int (nI wt), .int lt])), (aL, .inr (0, [.int (md + 1), .ref ea, .int (nI 0)])), (ea, .inl (cO, ln, .inr (.inr (.inr (.inr fa1_1)))))] ++ gr) := hD
    refine lv_aload_n hx hb dc_D_drop_7 rfl (lv_at hl 0 rfl) ?_
    refine lv_iconst (v := 0) hx hb dc_D_drop_8 (by decide) ?_
    refine va_put (D := (dC, dI)) (ci := 1) (v := .int 0) (ty := .int) (C := rn_D) (T := ft_D) (N := 4) hx hb hts fw_D fy_D fo_D fn_D hown hK hP hD hS 0 rfl rfl 1 (by decide) (hts _ bw1_83) (fun _ h9 => h9) rfl (by decide +kernel) rfl rfl (Nat.le_of_ble_eq_true rfl) dc_D_drop_9 (fun H locs hP hD hS => ?_)
    have hP : va_P (dC, dI) vwCl ([(aF, .inr (1, [.ref aL, .int 0, .int (nI wt), .int lt])), (aL, .inr (0, [.int (md + 1), .ref ea, .int (nI 0)])), (ea, .inl (cO, ln, .inr (.inr (.inr (.inr fa1_1)))))] ++ gr) H := hP
    have hD : va_D A ([(aF, .inr (1, [.ref aL, .int 0, .int (nI wt), .int lt])), (aL, .inr (0, [.int (md + 1), .ref ea, .int (nI 0)])), (ea, .inl (cO, ln, .inr (.inr (.inr (.inr fa1_1)))))] ++ gr) := hD
    refine lv_aload_n hx hb dc_D_drop_12 rfl (lv_at hl 0 rfl) ?_
    refine lv_iconst (v := 0) hx hb dc_D_drop_13 (by decide) ?_
    refine va_put (D := (dC, dI)) (ci := 1) (v := .int 0) (ty := .int) (C := rn_D) (T := ft_D) (N := 4) hx hb hts fw_D fy_D fo_D fn_D hown hK hP hD hS 0 rfl rfl 2 (by decide) (hts _ bw1_85) (fun _ h9 => h9) rfl (by decide +kernel) rfl rfl (Nat.le_of_ble_eq_true rfl) dc_D_drop_14 (fun H locs hP hD hS => ?_)
    have hP : va_P (dC, dI) vwCl ([(aF, .inr (1, [.ref aL, .int 0, .int 0, .int lt])), (aL, .inr (0, [.int (md + 1), .ref ea, .int (nI 0)])), (ea, .inl (cO, ln, .inr (.inr (.inr (.inr fa1_1)))))] ++ gr) H := hP
    have hD : va_D A ([(aF, .inr (1, [.ref aL, .int 0, .int 0, .int lt])), (aL, .inr (0, [.int (md + 1), .ref ea, .int (nI 0)])), (ea, .inl (cO, ln, .inr (.inr (.inr (.inr fa1_1)))))] ++ gr) := hD
    refine lv_aload_n hx hb dc_D_drop_17 rfl (lv_at hl 0 rfl) ?_
    refine lv_iconst (v := 0) hx hb dc_D_drop_18 (by decide) ?_
    refine va_put (D := (dC, dI)) (ci := 1) (v := .int 0) (ty := .int) (C := rn_D) (T := ft_D) (N := 4) hx hb hts fw_D fy_D fo_D fn_D hown hK hP hD hS 0 rfl rfl 3 (by decide) (hts _ bw1_87) (fun _ h9 => h9) rfl (by decide +kernel) rfl rfl (Nat.le_of_ble_eq_true rfl) dc_D_drop_19 (fun H locs hP hD hS => ?_)
    have hP : va_P (dC, dI) vwCl ([(aF, .inr (1, [.ref aL, .int 0, .int 0, .int 0])), (aL, .inr (0, [.int (md + 1), .ref ea, .int (nI 0)])), (ea, .inl (cO, ln, .inr (.inr (.inr (.inr fa1_1)))))] ++ gr) H := hP
    have hD : va_D A ([(aF, .inr (1, [.ref aL, .int 0, .int 0, .int 0])), (aL, .inr (0, [.int (md + 1), .ref ea, .int (nI 0)])), (ea, .inl (cO, ln, .inr (.inr (.inr (.inr fa1_1)))))] ++ gr) := hD
    have hP9 : va_P (dC, dI) vwCl ([(aF, .inr (1, [.ref aL, .int (nI 0), .int (nI 0), .int 0])), (aL, .inr (0, [.int (md + 1), .ref ea, .int (nI 0)]))] ++ ((ea, .inl (cO, ln, .inr (.inr (.inr (.inr fa1_1))))) :: gr)) H := hP.part (cx := [(aF, .inr (1, [.ref aL, .int (nI 0), .int (nI 0), .int 0])), (aL, .inr (0, [.int (md + 1), .ref ea, .int (nI 0)])), (ea, .inl (cO, ln, .inr (.inr (.inr (.inr fa1_1)))))]) (pl := gr) [0, 1, 2] rfl
    have hD9 : va_D A ([(aF, .inr (1, [.ref aL, .int (nI 0), .int (nI 0), .int 0])), (aL, .inr (0, [.int (md + 1), .ref ea, .int (nI 0)]))] ++ ((ea, .inl (cO, ln, .inr (.inr (.inr (.inr fa1_1))))) :: gr)) := hD.part (cx := [(aF, .inr (1, [.ref aL, .int (nI 0), .int (nI 0), .int 0])), (aL, .inr (0, [.int (md + 1), .ref ea, .int (nI 0)])), (ea, .inl (cO, ln, .inr (.inr (.inr (.inr fa1_1)))))]) (pl := gr) [0, 1, 2] (by decide) rfl
    have hK9 := hK.sub (tys' := [(cO, .object "java/lang/Object")]) [0] rfl
    exact W.vret hx hb hr (fun t ht hW => ⟨⟨(ea, .inl (cO, ln, .inr (.inr (.inr (.inr fa1_1))))) :: gr, rfl, Or.inr ⟨_, gr, rfl, h10, Nat.zero_le _, fun i hi => absurd hi (Nat.not_lt_zero _)⟩, by rw [ht]; exact hP9, va_K.moved hW.alike hK9, hD9⟩, hS.F ht⟩) hS.2.2 dc_D_drop_22

set_option maxHeartbeats 4000000 in
set_option maxRecDepth 100000 in
theorem c_D_add (l : Launch) (dC : Nat → ClassId) (dI : Nat → Nat → Nat) (sz : Nat) (eE : Nat) (aF : Nat) (aL : Nat) (dn : Nat) (wt : Nat) (lt : Int32) (md : Int32) (ea : Nat) (N : Nat) (cO : ClassId) (ln : Nat) (gs : Nat → GR) (pl : va_W) (aG : Nat) (gn : Nat) (gy : Int64) (kb : Int32) (gx : Int64) (vb : Int32) (la : Int32) (mo : Nat) (hls : LSx eE pl ea N ln cO gs) (hln : ln ≤ 40000) : Met l my_D_add (wB my_D_add cd_D_add 3 none) ({ frames := 7, cells := lgC N ln, slots := lgS N ln, locals := 160 }) (va_Pc [.ref aF, .ref aG, .int (nI mo)] (PcE (dC, dI) eE ([(aF, .inr (1, [.ref aL, .int (nI dn), .int (nI wt), .int lt])), (aL, .inr (0, [.int md, .ref ea, .int (nI N)])), (aG, .inr (2, [.int (nI gn), .long gy, .int kb, .long gx, .int vb, .int la]))] ++ pl) [(cO, .object "java/lang/Object")] sz)) (va_Qv (fun (u : va_W × Nat) => LSx eE u.1 u.2 (N + 1) (lgN N ln) cO (va_up gs N (gn, gy, kb, gx, vb, la))) (fun u => EnW (dC, dI) (va_A ([(aF, .inr (1, [.ref aL, .int (nI dn), .int (nI wt), .int lt])), (aL, .inr (0, [.int md, .ref ea, .int (nI N)])), (aG, .inr (2, [.int (nI gn), .long gy, .int kb, .long gx, .int vb, .int la]))] ++ pl) sz) ([(aF, .inr (1, [.ref aL, .int (nI (dn + gn)), .int (nI (wt + mo)), .int (if lt < la + nI gn - 1 then la + nI gn - 1 else lt)])), (aL, .inr (0, [.int (md + 1), .ref u.2, .int (nI (N + 1))]))] ++ u.1) [(cO, .object "java/lang/Object")]) (va_A ([(aF, .inr (1, [.ref aL, .int (nI dn), .int (nI wt), .int lt])), (aL, .inr (0, [.int md, .ref ea, .int (nI N)])), (aG, .inr (2, [.int (nI gn), .long gy, .int kb, .long gx, .int vb, .int la]))] ++ pl) sz)) (lgC N ln) (lgS N ln) (va_A ([(aF, .inr (1, [.ref aL, .int (nI dn), .int (nI wt), .int lt])), (aL, .inr (0, [.int md, .ref ea, .int (nI N)])), (aG, .inr (2, [.int (nI gn), .long gy, .int kb, .long gx, .int vb, .int la]))] ++ pl) sz) := by
  rcases hls with ⟨h1, h2, h3⟩ | ⟨fa, gr, h1, h10, hNl, hel⟩
  rotate_left
  rcases Nat.lt_or_ge N ln with hr | hr
  · subst h1
    have hg := lg_room hr
    obtain ⟨hg1, hg2, hg3⟩ := lg_room hr
    show Met l my_D_add (wB my_D_add cd_D_add 3 none) ({ frames := 7, cells := lgC N ln, slots := lgS N ln, locals := 160 }) (va_Pc [.ref aF, .ref aG, .int (nI mo)] (PcE (dC, dI) eE ([(aF, .inr (1, [.ref aL, .int (nI dn), .int (nI wt), .int lt])), (aL, .inr (0, [.int md, .ref ea, .int (nI N)])), (aG, .inr (2, [.int (nI gn), .long gy, .int kb, .long gx, .int vb, .int la])), (ea, .inl (cO, ln, .inr (.inr (.inr (.inr fa)))))] ++ gr) [(cO, .object "java/lang/Object")] sz)) (va_Qv (fun (u : va_W × Nat) => LSx eE u.1 u.2 (N + 1) (lgN N ln) cO (va_up gs N (gn, gy, kb, gx, vb, la))) (fun u => EnW (dC, dI) (va_A ([(aF, .inr (1, [.ref aL, .int (nI dn), .int (nI wt), .int lt])), (aL, .inr (0, [.int md, .ref ea, .int (nI N)])), (aG, .inr (2, [.int (nI gn), .long gy, .int kb, .long gx, .int vb, .int la])), (ea, .inl (cO, ln, .inr (.inr (.inr (.inr fa)))))] ++ gr) sz) ([(aF, .inr (1, [.ref aL, .int (nI (dn + gn)), .int (nI (wt + mo)), .int (if lt < la + nI gn - 1 then la + nI gn - 1 else lt)])), (aL, .inr (0, [.int (md + 1), .ref u.2, .int (nI (N + 1))]))] ++ u.1) [(cO, .object "java/lang/Object")]) (va_A ([(aF, .inr (1, [.ref aL, .int (nI dn), .int (nI wt), .int lt])), (aL, .inr (0, [.int md, .ref ea, .int (nI N)])), (aG, .inr (2, [.int (nI gn), .long gy, .int kb, .long gx, .int vb, .int la])), (ea, .inl (cO, ln, .inr (.inr (.inr (.inr fa)))))] ++ gr) sz)) (lgC N ln) (lgS N ln) (va_A ([(aF, .inr (1, [.ref aL, .int (nI dn), .int (nI wt), .int lt])), (aL, .inr (0, [.int md, .ref ea, .int (nI N)])), (aG, .inr (2, [.int (nI gn), .long gy, .int kb, .long gx, .int vb, .int la])), (ea, .inl (cO, ln, .inr (.inr (.inr (.inr fa)))))] ++ gr) sz)
    refine Met.ofW (cc := cd_D_add) (maxL := 3) (ret := none) (by decide) rfl ?_
    intro p e s m args below meth c s₁ B hml hv
    obtain ⟨rfl, ⟨hsz, hP, hK, hD0, hG⟩, hE⟩ := hv
    have hx := B.exec
    have hb := B.bytes
    have hr := B.returns
    have hts := fun (w : Cond) (h : w ∈ bigT) => atoms_spec (ws := (wB my_D_add cd_D_add 3 none)) B.pre w (List.mem_cons_of_mem _ h)
    have hown : s.vm.findClass rn_D = some m.cls := findClass_of_methodNamed B.named
    have hlocks := B.notSynchronized
    subst hsz
    have hD := hD0.self (sz := s.heap.size)
    generalize hAe : va_A ([(aF, .inr (1, [.ref aL, .int (nI dn), .int (nI wt), .int lt])), (aL, .inr (0, [.int md, .ref ea, .int (nI N)])), (aG, .inr (2, [.int (nI gn), .long gy, .int kb, .long gx, .int vb, .int la])), (ea, .inl (cO, ln, .inr (.inr (.inr (.inr fa)))))] ++ gr) s.heap.size = A at hD hG hE ⊢
    have gE1 := hE.1
    have gE2 := hE.2
    have hA : ∀ q : Nat, s.heap.size ≤ q → A q := fun q h => by rw [← hAe]; exact Or.inr h
    have hS : va_S A s.heap s.heap [] := va_S.rf
    have hP : va_P (dC, dI) vwCl ([(aF, .inr (1, [.ref aL, .int (nI dn), .int (nI wt), .int lt])), (aL, .inr (0, [.int md, .ref ea, .int (nI N)])), (aG, .inr (2, [.int (nI gn), .long gy, .int kb, .long gx, .int vb, .int la])), (ea, .inl (cO, ln, .inr (.inr (.inr (.inr fa)))))] ++ gr) s.heap := hP
    have hl := lv_entry ([.ref aF, .ref aG, .int (nI mo)]) (n := 3) (Nat.le_of_ble_eq_true rfl)
    rw [lg_entry_eq]
    generalize (lg_sl ([.ref aF, .ref aG, .int (nI mo)]) ++ List.replicate (3 - (lg_sl ([.ref aF, .ref aG, .int (nI mo)])).length) Slot.unset).toArray = ls at hl ⊢
    have hl : lv_has ls 3 [(0, .ref aF), (1, .ref aG), (2, .int (nI mo))] := hl
    refine lv_aload_n hx hb dc_D_add_0 rfl (lv_at hl 0 rfl) ?_
    refine va_get (D := (dC, dI)) (ci := 1) (v := .ref aL) (C := rn_D) (T := ft_D) (N := 4) hx hb hts fw_D hown hK hP 0 rfl rfl 0 (by decide) (hts _ bw1_82) (fun _ h9 => h9) rfl dc_D_add_1 ?_
    refine lv_aload_n hx hb dc_D_add_4 rfl (lv_at hl 1 rfl) ?_
    refine kc_iQ (X := [(aF, .inr (1, [.ref aL, .int (nI dn), .int (nI wt), .int lt])), (aL, .inr (0, [.int md, .ref ea, .int (nI N)])), (aG, .inr (2, [.int (nI gn), .long gy, .int kb, .long gx, .int vb, .int la])), (ea, .inl (cO, ln, .inr (.inr (.inr (.inr fa)))))]) (cx := [(aL, .inr (0, [.int md, .ref ea, .int (nI N)])), (ea, .inl (cO, ln, .inr (.inr (.inr (.inr fa))))), (aG, .inr (2, [.int (nI gn), .long gy, .int kb, .long gx, .int vb, .int la]))]) (wr := [(aF, .inr (1, [.ref aL, .int (nI dn), .int (nI wt), .int lt]))]) (pl := gr) hP hD hS hA [1, 3, 2] [0] rfl rfl rfl (by decide) (by decide) (va_runV (As := [.ref aG]) (rest := []) ⟨hx, hb, hml, hown, hts⟩ (c_A_add_room l dC dI _ aL md ea N cO ln fa aG gn gy kb gx vb la (by omega) (by omega)) (kw_V 1 hts bw2_178 bw2_179 bw2_180 bw1_6 bw2_181 rfl rfl (by decide +kernel) ⟨Nat.le_of_ble_eq_true rfl, Nat.le_of_ble_eq_true rfl⟩) (kp_V (wc := [(aL, .inr (0, [.int md, .ref ea, .int (nI N)])), (ea, .inl (cO, ln, .inr (.inr (.inr (.inr fa))))), (aG, .inr (2, [.int (nI gn), .long gy, .int kb, .long gx, .int vb, .int la]))]) (tc := [(cO, .object "java/lang/Object")]) (As := [.ref aG]) hG hS hA hP hD hK [1, 3, 2] rfl (by decide) rfl [0] rfl (ci := 0) (q0 := 1) rfl rfl) rfl rfl hl.1 rfl (lv_room (Nat.le_of_ble_eq_true rfl)) dc_D_add_5 ⟨Nat.zero_le _, Nat.zero_le _⟩) (fun r_1 _ H locs hw hP hD hK1 hS => ?_)
    have hw : 1 = r_1 := hw.symm
    subst hw
    have hP : va_P (dC, dI) vwCl ([(aF, .inr (1, [.ref aL, .int (nI dn), .int (nI wt), .int lt])), (aL, .inr (0, [.int (md + 1), .ref ea, .int (nI (N + 1))])), (ea, .inl (cO, ln, .inr (.inr (.inr (.inr (va_up (fa) N (some aG))))))), (aG, .inr (2, [.int (nI gn), .long gy, .int kb, .long gx, .int vb, .int la]))] ++ gr) H := hP
    have hD : va_D A ([(aF, .inr (1, [.ref aL, .int (nI dn), .int (nI wt), .int lt])), (aL, .inr (0, [.int (md + 1), .ref ea, .int (nI (N + 1))])), (ea, .inl (cO, ln, .inr (.inr (.inr (.inr (va_up (fa) N (some aG))))))), (aG, .inr (2, [.int (nI gn), .long gy, .int kb, .long gx, .int vb, .int la]))] ++ gr) := hD
    refine lv_pop hx hb dc_D_add_8 rfl ?_
    refine lv_aload_n hx hb dc_D_add_9 rfl (lv_at hl 0 rfl) ?_
    refine lv_dup hx hb dc_D_add_10 rfl ?_
    refine va_get (D := (dC, dI)) (ci := 1) (v := .int (nI dn)) (C := rn_D) (T := ft_D) (N := 4) hx hb hts fw_D hown hK hP 0 rfl rfl 1 (by decide) (hts _ bw1_83) (fun _ h9 => h9) rfl dc_D_add_11 ?_
    refine lv_aload_n hx hb dc_D_add_14 rfl (lv_at hl 1 rfl) ?_
    refine va_get (D := (dC, dI)) (ci := 2) (v := .int (nI gn)) (C := rn_G) (T := ft_G) (N := 6) hx hb hts fw_G hown hK hP 3 rfl rfl 0 (by decide) (hts _ bw2_134) (fun _ h9 => h9) rfl dc_D_add_15 ?_
    refine lv_iadd hx hb dc_D_add_18 ?_
    refine va_put (D := (dC, dI)) (ci := 1) (v := .int ((nI dn) + (nI gn))) (ty := .int) (C := rn_D) (T := ft_D) (N := 4) hx hb hts fw_D fy_D fo_D fn_D hown hK hP hD hS 0 rfl rfl 1 (by decide) (hts _ bw1_83) (fun _ h9 => h9) rfl (by decide +kernel) rfl rfl (Nat.le_of_ble_eq_true rfl) dc_D_add_19 (fun H locs hP hD hS => ?_)
    have hP : va_P (dC, dI) vwCl ([(aF, .inr (1, [.ref aL, .int ((nI dn) + (nI gn)), .int (nI wt), .int lt])), (aL, .inr (0, [.int (md + 1), .ref ea, .int (nI (N + 1))])), (ea, .inl (cO, ln, .inr (.inr (.inr (.inr (va_up (fa) N (some aG))))))), (aG, .inr (2, [.int (nI gn), .long gy, .int kb, .long gx, .int vb, .int la]))] ++ gr) H := hP
    have hD : va_D A ([(aF, .inr (1, [.ref aL, .int ((nI dn) + (nI gn)), .int (nI wt), .int lt])), (aL, .inr (0, [.int (md + 1), .ref ea, .int (nI (N + 1))])), (ea, .inl (cO, ln, .inr (.inr (.inr (.inr (va_up (fa) N (some aG))))))), (aG, .inr (2, [.int (nI gn), .long gy, .int kb, .long gx, .int vb, .int la]))] ++ gr) := hD
    refine lv_aload_n hx hb dc_D_add_22 rfl (lv_at hl 0 rfl) ?_
    refine lv_dup hx hb dc_D_add_23 rfl ?_
    refine va_get (D := (dC, dI)) (ci := 1) (v := .int (nI wt)) (C := rn_D) (T := ft_D) (N := 4) hx hb hts fw_D hown hK hP 0 rfl rfl 2 (by decide) (hts _ bw1_85) (fun _ h9 => h9) rfl dc_D_add_24 ?_
    refine lv_iload_n hx hb dc_D_add_27 rfl (lv_at hl 2 rfl) ?_
    refine lv_iadd hx hb dc_D_add_28 ?_
    refine va_put (D := (dC, dI)) (ci := 1) (v := .int ((nI wt) + (nI mo))) (ty := .int) (C := rn_D) (T := ft_D) (N := 4) hx hb hts fw_D fy_D fo_D fn_D hown hK hP hD hS 0 rfl rfl 2 (by decide) (hts _ bw1_85) (fun _ h9 => h9) rfl (by decide +kernel) rfl rfl (Nat.le_of_ble_eq_true rfl) dc_D_add_29 (fun H locs hP hD hS => ?_)
    have hP : va_P (dC, dI) vwCl ([(aF, .inr (1, [.ref aL, .int ((nI dn) + (nI gn)), .int ((nI wt) + (nI mo)), .int lt])), (aL, .inr (0, [.int (md + 1), .ref ea, .int (nI (N + 1))])), (ea, .inl (cO, ln, .inr (.inr (.inr (.inr (va_up (fa) N (some aG))))))), (aG, .inr (2, [.int (nI gn), .long gy, .int kb, .long gx, .int vb, .int la]))] ++ gr) H := hP
    have hD : va_D A ([(aF, .inr (1, [.ref aL, .int ((nI dn) + (nI gn)), .int ((nI wt) + (nI mo)), .int lt])), (aL, .inr (0, [.int (md + 1), .ref ea, .int (nI (N + 1))])), (ea, .inl (cO, ln, .inr (.inr (.inr (.inr (va_up (fa) N (some aG))))))), (aG, .inr (2, [.int (nI gn), .long gy, .int kb, .long gx, .int vb, .int la]))] ++ gr) := hD
    refine lv_aload_n hx hb dc_D_add_32 rfl (lv_at hl 0 rfl) ?_
    refine lv_aload_n hx hb dc_D_add_33 rfl (lv_at hl 0 rfl) ?_
    refine va_get (D := (dC, dI)) (ci := 1) (v := .int lt) (C := rn_D) (T := ft_D) (N := 4) hx hb hts fw_D hown hK hP 0 rfl rfl 3 (by decide) (hts _ bw1_87) (fun _ h9 => h9) rfl dc_D_add_34 ?_
    refine lv_aload_n hx hb dc_D_add_37 rfl (lv_at hl 1 rfl) ?_
    refine va_get (D := (dC, dI)) (ci := 2) (v := .int la) (C := rn_G) (T := ft_G) (N := 6) hx hb hts fw_G hown hK hP 3 rfl rfl 5 (by decide) (hts _ bw2_140) (fun _ h9 => h9) rfl dc_D_add_38 ?_
    refine lv_aload_n hx hb dc_D_add_41 rfl (lv_at hl 1 rfl) ?_
    refine va_get (D := (dC, dI)) (ci := 2) (v := .int (nI gn)) (C := rn_G) (T := ft_G) (N := 6) hx hb hts fw_G hown hK hP 3 rfl rfl 0 (by decide) (hts _ bw2_134) (fun _ h9 => h9) rfl dc_D_add_42 ?_
    refine lv_iadd hx hb dc_D_add_45 ?_
    refine lv_iconst (v := 1) hx hb dc_D_add_46 (by decide) ?_
    refine lv_isub hx hb dc_D_add_47 ?_
    refine va_mmax hx hb (hml.trans hl.1.symm) hown (hts _ bw2_227) (hts _ bw2_47) (hts _ bw1_14) (hts _ bw2_48) (Nat.le_of_ble_eq_true rfl) (Nat.le_of_ble_eq_true rfl) (by show _ ≤ lgC N ln; omega) (by show _ ≤ lgS N ln; omega) dc_D_add_48 ?_
    refine va_put (D := (dC, dI)) (ci := 1) (v := .int (if lt < ((la + (nI gn)) - 1) then ((la + (nI gn)) - 1) else lt)) (ty := .int) (C := rn_D) (T := ft_D) (N := 4) hx hb hts fw_D fy_D fo_D fn_D hown hK hP hD hS 0 rfl rfl 3 (by decide) (hts _ bw1_87) (fun _ h9 => h9) rfl (by decide +kernel) rfl rfl (Nat.le_of_ble_eq_true rfl) dc_D_add_51 (fun H locs hP hD hS => ?_)
    have hP : va_P (dC, dI) vwCl ([(aF, .inr (1, [.ref aL, .int ((nI dn) + (nI gn)), .int ((nI wt) + (nI mo)), .int (if lt < ((la + (nI gn)) - 1) then ((la + (nI gn)) - 1) else lt)])), (aL, .inr (0, [.int (md + 1), .ref ea, .int (nI (N + 1))])), (ea, .inl (cO, ln, .inr (.inr (.inr (.inr (va_up (fa) N (some aG))))))), (aG, .inr (2, [.int (nI gn), .long gy, .int kb, .long gx, .int vb, .int la]))] ++ gr) H := hP
    have hD : va_D A ([(aF, .inr (1, [.ref aL, .int ((nI dn) + (nI gn)), .int ((nI wt) + (nI mo)), .int (if lt < ((la + (nI gn)) - 1) then ((la + (nI gn)) - 1) else lt)])), (aL, .inr (0, [.int (md + 1), .ref ea, .int (nI (N + 1))])), (ea, .inl (cO, ln, .inr (.inr (.inr (.inr (va_up (fa) N (some aG))))))), (aG, .inr (2, [.int (nI gn), .long gy, .int kb, .long gx, .int vb, .int la]))] ++ gr) := hD
    have e_2 : ((nI dn) + (nI gn)) = (nI (dn + gn)) := by first | exact nI_add _ _ | with_reducible rfl
    have e_3 : ((nI wt) + (nI mo)) = (nI (wt + mo)) := by first | exact nI_add _ _ | with_reducible rfl
    have e_4 : (if lt < ((la + (nI gn)) - 1) then ((la + (nI gn)) - 1) else lt) = (if lt < la + nI gn - 1 then la + nI gn - 1 else lt) := by first | exact nI_add _ _ | with_reducible rfl
    have hP := wP_eq (ws' := ([(aF, .inr (1, [.ref aL, .int (nI (dn + gn)), .int (nI (wt + mo)), .int (if lt < la + nI gn - 1 then la + nI gn - 1 else lt)])), (aL, .inr (0, [.int (md + 1), .ref ea, .int (nI (N + 1))])), (ea, .inl (cO, ln, .inr (.inr (.inr (.inr (va_up (fa) N (some aG))))))), (aG, .inr (2, [.int (nI gn), .long gy, .int kb, .long gx, .int vb, .int la]))] ++ gr)) hP (cg3 (fun y0 y1 y2 => (([(aF, .inr (1, [.ref aL, .int y0, .int y1, .int y2])), (aL, .inr (0, [.int (md + 1), .ref ea, .int (nI (N + 1))])), (ea, .inl (cO, ln, .inr (.inr (.inr (.inr (va_up (fa) N (some aG))))))), (aG, .inr (2, [.int (nI gn), .long gy, .int kb, .long gx, .int vb, .int la]))] ++ gr) : va_W)) e_2 e_3 e_4)
    have hD := wD_eq (ws' := ([(aF, .inr (1, [.ref aL, .int (nI (dn + gn)), .int (nI (wt + mo)), .int (if lt < la + nI gn - 1 then la + nI gn - 1 else lt)])), (aL, .inr (0, [.int (md + 1), .ref ea, .int (nI (N + 1))])), (ea, .inl (cO, ln, .inr (.inr (.inr (.inr (va_up (fa) N (some aG))))))), (aG, .inr (2, [.int (nI gn), .long gy, .int kb, .long gx, .int vb, .int la]))] ++ gr)) hD (cg3 (fun y0 y1 y2 => (([(aF, .inr (1, [.ref aL, .int y0, .int y1, .int y2])), (aL, .inr (0, [.int (md + 1), .ref ea, .int (nI (N + 1))])), (ea, .inl (cO, ln, .inr (.inr (.inr (.inr (va_up (fa) N (some aG))))))), (aG, .inr (2, [.int (nI gn), .long gy, .int kb, .long gx, .int vb, .int la]))] ++ gr) : va_W)) e_2 e_3 e_4)
    have hP9 : va_P (dC, dI) vwCl ([(aF, .inr (1, [.ref aL, .int (nI (dn + gn)), .int (nI (wt + mo)), .int (if lt < la + nI gn - 1 then la + nI gn - 1 else lt)])), (aL, .inr (0, [.int (md + 1), .ref ea, .int (nI (N + 1))]))] ++ ((ea, .inl (cO, ln, .inr (.inr (.inr (.inr (va_up (fa) N (some aG))))))) :: (aG, .inr (2, [.int (nI gn), .long gy, .int kb, .long gx, .int vb, .int la])) :: gr)) H := hP.part (cx := [(aF, .inr (1, [.ref aL, .int (nI (dn + gn)), .int (nI (wt + mo)), .int (if lt < la + nI gn - 1 then la + nI gn - 1 else lt)])), (aL, .inr (0, [.int (md + 1), .ref ea, .int (nI (N + 1))])), (ea, .inl (cO, ln, .inr (.inr (.inr (.inr (va_up (fa) N (some aG))))))), (aG, .inr (2, [.int (nI gn), .long gy, .int kb, .long gx, .int vb, .int la]))]) (pl := gr) [0, 1, 2, 3] rfl
    have hD9 : va_D A ([(aF, .inr (1, [.ref aL, .int (nI (dn + gn)), .int (nI (wt + mo)), .int (if lt < la + nI gn - 1 then la + nI gn - 1 else lt)])), (aL, .inr (0, [.int (md + 1), .ref ea, .int (nI (N + 1))]))] ++ ((ea, .inl (cO, ln, .inr (.inr (.inr (.inr (va_up (fa) N (some aG))))))) :: (aG, .inr (2, [.int (nI gn), .long gy, .int kb, .long gx, .int vb, .int la])) :: gr)) := hD.part (cx := [(aF, .inr (1, [.ref aL, .int (nI (dn + gn)), .int (nI (wt + mo)), .int (if lt < la + nI gn - 1 then la + nI gn - 1 else lt)])), (aL, .inr (0, [.int (md + 1), .ref ea, .int (nI (N + 1))])), (ea, .inl (cO, ln, .inr (.inr (.inr (.inr (va_up (fa) N (some aG))))))), (aG, .inr (2, [.int (nI gn), .long gy, .int kb, .long gx, .int vb, .int la]))]) (pl := gr) [0, 1, 2, 3] (by decide) rfl
    have hK9 := hK.sub (tys' := [(cO, .object "java/lang/Object")]) [0] rfl
    refine W.widen (k := lgC N ln) (n := lgS N ln) (by omega) (by omega) ?_
    exact W.vret hx hb hr (fun t ht hW => ⟨⟨((ea, .inl (cO, ln, .inr (.inr (.inr (.inr (va_up (fa) N (some aG))))))) :: (aG, .inr (2, [.int (nI gn), .long gy, .int kb, .long gx, .int vb, .int la])) :: gr, ea), rfl, by rw [hg.2.1]; exact Or.inr ⟨_, _, rfl, by omega, by omega, ls_room hel⟩, by rw [ht]; exact hP9, va_K.moved hW.alike hK9, hD9⟩, hS.F ht⟩) hS.2.2 dc_D_add_54
  · subst h1
    have hNe : N = ln := by omega
    have hg := lg_full hNe h10
    obtain ⟨hg1, hg2, hg3⟩ := lg_full hNe h10
    show Met l my_D_add (wB my_D_add cd_D_add 3 none) ({ frames := 7, cells := lgC N ln, slots := lgS N ln, locals := 160 }) (va_Pc [.ref aF, .ref aG, .int (nI mo)] (PcE (dC, dI) eE ([(aF, .inr (1, [.ref aL, .int (nI dn), .int (nI wt), .int lt])), (aL, .inr (0, [.int md, .ref ea, .int (nI N)])), (aG, .inr (2, [.int (nI gn), .long gy, .int kb, .long gx, .int vb, .int la])), (ea, .inl (cO, ln, .inr (.inr (.inr (.inr fa)))))] ++ gr) [(cO, .object "java/lang/Object")] sz)) (va_Qv (fun (u : va_W × Nat) => LSx eE u.1 u.2 (N + 1) (lgN N ln) cO (va_up gs N (gn, gy, kb, gx, vb, la))) (fun u => EnW (dC, dI) (va_A ([(aF, .inr (1, [.ref aL, .int (nI dn), .int (nI wt), .int lt])), (aL, .inr (0, [.int md, .ref ea, .int (nI N)])), (aG, .inr (2, [.int (nI gn), .long gy, .int kb, .long gx, .int vb, .int la])), (ea, .inl (cO, ln, .inr (.inr (.inr (.inr fa)))))] ++ gr) sz) ([(aF, .inr (1, [.ref aL, .int (nI (dn + gn)), .int (nI (wt + mo)), .int (if lt < la + nI gn - 1 then la + nI gn - 1 else lt)])), (aL, .inr (0, [.int (md + 1), .ref u.2, .int (nI (N + 1))]))] ++ u.1) [(cO, .object "java/lang/Object")]) (va_A ([(aF, .inr (1, [.ref aL, .int (nI dn), .int (nI wt), .int lt])), (aL, .inr (0, [.int md, .ref ea, .int (nI N)])), (aG, .inr (2, [.int (nI gn), .long gy, .int kb, .long gx, .int vb, .int la])), (ea, .inl (cO, ln, .inr (.inr (.inr (.inr fa)))))] ++ gr) sz)) (lgC N ln) (lgS N ln) (va_A ([(aF, .inr (1, [.ref aL, .int (nI dn), .int (nI wt), .int lt])), (aL, .inr (0, [.int md, .ref ea, .int (nI N)])), (aG, .inr (2, [.int (nI gn), .long gy, .int kb, .long gx, .int vb, .int la])), (ea, .inl (cO, ln, .inr (.inr (.inr (.inr fa)))))] ++ gr) sz)
    refine Met.ofW (cc := cd_D_add) (maxL := 3) (ret := none) (by decide) rfl ?_
    intro p e s m args below meth c s₁ B hml hv
    obtain ⟨rfl, ⟨hsz, hP, hK, hD0, hG⟩, hE⟩ := hv
    have hx := B.exec
    have hb := B.bytes
    have hr := B.returns
    have hts := fun (w : Cond) (h : w ∈ bigT) => atoms_spec (ws := (wB my_D_add cd_D_add 3 none)) B.pre w (List.mem_cons_of_mem _ h)
    have hown : s.vm.findClass rn_D = some m.cls := findClass_of_methodNamed B.named
    have hlocks := B.notSynchronized
    subst hsz
    have hD := hD0.self (sz := s.heap.size)
    generalize hAe : va_A ([(aF, .inr (1, [.ref aL, .int (nI dn), .int (nI wt), .int lt])), (aL, .inr (0, [.int md, .ref ea, .int (nI N)])), (aG, .inr (2, [.int (nI gn), .long gy, .int kb, .long gx, .int vb, .int la])), (ea, .inl (cO, ln, .inr (.inr (.inr (.inr fa)))))] ++ gr) s.heap.size = A at hD hG hE ⊢
    have gE1 := hE.1
    have gE2 := hE.2
    have hA : ∀ q : Nat, s.heap.size ≤ q → A q := fun q h => by rw [← hAe]; exact Or.inr h
    have hS : va_S A s.heap s.heap [] := va_S.rf
    have hP : va_P (dC, dI) vwCl ([(aF, .inr (1, [.ref aL, .int (nI dn), .int (nI wt), .int lt])), (aL, .inr (0, [.int md, .ref ea, .int (nI N)])), (aG, .inr (2, [.int (nI gn), .long gy, .int kb, .long gx, .int vb, .int la])), (ea, .inl (cO, ln, .inr (.inr (.inr (.inr fa)))))] ++ gr) s.heap := hP
    have hl := lv_entry ([.ref aF, .ref aG, .int (nI mo)]) (n := 3) (Nat.le_of_ble_eq_true rfl)
    rw [lg_entry_eq]
    generalize (lg_sl ([.ref aF, .ref aG, .int (nI mo)]) ++ List.replicate (3 - (lg_sl ([.ref aF, .ref aG, .int (nI mo)])).length) Slot.unset).toArray = ls at hl ⊢
    have hl : lv_has ls 3 [(0, .ref aF), (1, .ref aG), (2, .int (nI mo))] := hl
    refine lv_aload_n hx hb dc_D_add_0 rfl (lv_at hl 0 rfl) ?_
    refine va_get (D := (dC, dI)) (ci := 1) (v := .ref aL) (C := rn_D) (T := ft_D) (N := 4) hx hb hts fw_D hown hK hP 0 rfl rfl 0 (by decide) (hts _ bw1_82) (fun _ h9 => h9) rfl dc_D_add_1 ?_
    refine lv_aload_n hx hb dc_D_add_4 rfl (lv_at hl 1 rfl) ?_
    refine kc_iP (X := [(aF, .inr (1, [.ref aL, .int (nI dn), .int (nI wt), .int lt])), (aL, .inr (0, [.int md, .ref ea, .int (nI N)])), (aG, .inr (2, [.int (nI gn), .long gy, .int kb, .long gx, .int vb, .int la])), (ea, .inl (cO, ln, .inr (.inr (.inr (.inr fa)))))]) (cx := [(aL, .inr (0, [.int md, .ref ea, .int (nI N)])), (ea, .inl (cO, ln, .inr (.inr (.inr (.inr fa))))), (aG, .inr (2, [.int (nI gn), .long gy, .int kb, .long gx, .int vb, .int la]))]) (wr := [(aF, .inr (1, [.ref aL, .int (nI dn), .int (nI wt), .int lt]))]) (pl := gr) hP hD hS hA [1, 3, 2] [0] rfl rfl (by decide) (by decide) (va_runV (As := [.ref aG]) (rest := []) ⟨hx, hb, hml, hown, hts⟩ (c_A_add_full l dC dI _ aL md ea N cO ln fa aG gn gy kb gx vb la gr (by omega) (by omega) (by omega) (hel_any hNe hel)) (kw_V 1 hts bw2_178 bw2_179 bw2_180 bw1_6 bw2_181 rfl rfl (by decide +kernel) ⟨Nat.le_of_ble_eq_true rfl, Nat.le_of_ble_eq_true rfl⟩) (kp_VP (cx := [(aL, .inr (0, [.int md, .ref ea, .int (nI N)])), (ea, .inl (cO, ln, .inr (.inr (.inr (.inr fa))))), (aG, .inr (2, [.int (nI gn), .long gy, .int kb, .long gx, .int vb, .int la]))]) (pl := gr) (tc := [(cO, .object "java/lang/Object")]) (As := [.ref aG]) hG hS hA hP hD hK [1, 3, 2] (by decide) rfl [0] rfl (ci := 0) (q0 := 1) rfl rfl) rfl rfl hl.1 rfl (lv_room (Nat.le_of_ble_eq_true rfl)) dc_D_add_5 ⟨by show _ ≤ lgC N ln; omega, by show _ ≤ lgS N ln; omega⟩) (fun r_2 q1_1 H locs hw hP hD hK1 hS => ?_)
    have hw : 1 = r_2 := hw.symm
    subst hw
    have hP : va_P (dC, dI) vwCl ([(aF, .inr (1, [.ref aL, .int (nI dn), .int (nI wt), .int lt])), (aL, .inr (0, [.int (md + 1), .ref q1_1, .int (nI (N + 1))])), (q1_1, .inl (cO, ln + ln / 2, .inr (.inr (.inr (.inr (va_up (va_cpy fa (fun _ => none) 0 0 ln) N (some aG))))))), (aG, .inr (2, [.int (nI gn), .long gy, .int kb, .long gx, .int vb, .int la]))] ++ gr) H := hP
    have hD : va_D A ([(aF, .inr (1, [.ref aL, .int (nI dn), .int (nI wt), .int lt])), (aL, .inr (0, [.int (md + 1), .ref q1_1, .int (nI (N + 1))])), (q1_1, .inl (cO, ln + ln / 2, .inr (.inr (.inr (.inr (va_up (va_cpy fa (fun _ => none) 0 0 ln) N (some aG))))))), (aG, .inr (2, [.int (nI gn), .long gy, .int kb, .long gx, .int vb, .int la]))] ++ gr) := hD
    refine lv_pop hx hb dc_D_add_8 rfl ?_
    refine lv_aload_n hx hb dc_D_add_9 rfl (lv_at hl 0 rfl) ?_
    refine lv_dup hx hb dc_D_add_10 rfl ?_
    refine va_get (D := (dC, dI)) (ci := 1) (v := .int (nI dn)) (C := rn_D) (T := ft_D) (N := 4) hx hb hts fw_D hown hK hP 0 rfl rfl 1 (by decide) (hts _ bw1_83) (fun _ h9 => h9) rfl dc_D_add_11 ?_
    refine lv_aload_n hx hb dc_D_add_14 rfl (lv_at hl 1 rfl) ?_
    refine va_get (D := (dC, dI)) (ci := 2) (v := .int (nI gn)) (C := rn_G) (T := ft_G) (N := 6) hx hb hts fw_G hown hK hP 3 rfl rfl 0 (by decide) (hts _ bw2_134) (fun _ h9 => h9) rfl dc_D_add_15 ?_
    refine lv_iadd hx hb dc_D_add_18 ?_
    refine va_put (D := (dC, dI)) (ci := 1) (v := .int ((nI dn) + (nI gn))) (ty := .int) (C := rn_D) (T := ft_D) (N := 4) hx hb hts fw_D fy_D fo_D fn_D hown hK hP hD hS 0 rfl rfl 1 (by decide) (hts _ bw1_83) (fun _ h9 => h9) rfl (by decide +kernel) rfl rfl (Nat.le_of_ble_eq_true rfl) dc_D_add_19 (fun H locs hP hD hS => ?_)
    have hP : va_P (dC, dI) vwCl ([(aF, .inr (1, [.ref aL, .int ((nI dn) + (nI gn)), .int (nI wt), .int lt])), (aL, .inr (0, [.int (md + 1), .ref q1_1, .int (nI (N + 1))])), (q1_1, .inl (cO, ln + ln / 2, .inr (.inr (.inr (.inr (va_up (va_cpy fa (fun _ => none) 0 0 ln) N (some aG))))))), (aG, .inr (2, [.int (nI gn), .long gy, .int kb, .long gx, .int vb, .int la]))] ++ gr) H := hP
    have hD : va_D A ([(aF, .inr (1, [.ref aL, .int ((nI dn) + (nI gn)), .int (nI wt), .int lt])), (aL, .inr (0, [.int (md + 1), .ref q1_1, .int (nI (N + 1))])), (q1_1, .inl (cO, ln + ln / 2, .inr (.inr (.inr (.inr (va_up (va_cpy fa (fun _ => none) 0 0 ln) N (some aG))))))), (aG, .inr (2, [.int (nI gn), .long gy, .int kb, .long gx, .int vb, .int la]))] ++ gr) := hD
    refine lv_aload_n hx hb dc_D_add_22 rfl (lv_at hl 0 rfl) ?_
    refine lv_dup hx hb dc_D_add_23 rfl ?_
    refine va_get (D := (dC, dI)) (ci := 1) (v := .int (nI wt)) (C := rn_D) (T := ft_D) (N := 4) hx hb hts fw_D hown hK hP 0 rfl rfl 2 (by decide) (hts _ bw1_85) (fun _ h9 => h9) rfl dc_D_add_24 ?_
    refine lv_iload_n hx hb dc_D_add_27 rfl (lv_at hl 2 rfl) ?_
    refine lv_iadd hx hb dc_D_add_28 ?_
    refine va_put (D := (dC, dI)) (ci := 1) (v := .int ((nI wt) + (nI mo))) (ty := .int) (C := rn_D) (T := ft_D) (N := 4) hx hb hts fw_D fy_D fo_D fn_D hown hK hP hD hS 0 rfl rfl 2 (by decide) (hts _ bw1_85) (fun _ h9 => h9) rfl (by decide +kernel) rfl rfl (Nat.le_of_ble_eq_true rfl) dc_D_add_29 (fun H locs hP hD hS => ?_)
    have hP : va_P (dC, dI) vwCl ([(aF, .inr (1, [.ref aL, .int ((nI dn) + (nI gn)), .int ((nI wt) + (nI mo)), .int lt])), (aL, .inr (0, [.int (md + 1), .ref q1_1, .int (nI (N + 1))])), (q1_1, .inl (cO, ln + ln / 2, .inr (.inr (.inr (.inr (va_up (va_cpy fa (fun _ => none) 0 0 ln) N (some aG))))))), (aG, .inr (2, [.int (nI gn), .long gy, .int kb, .long gx, .int vb, .int la]))] ++ gr) H := hP
    have hD : va_D A ([(aF, .inr (1, [.ref aL, .int ((nI dn) + (nI gn)), .int ((nI wt) + (nI mo)), .int lt])), (aL, .inr (0, [.int (md + 1), .ref q1_1, .int (nI (N + 1))])), (q1_1, .inl (cO, ln + ln / 2, .inr (.inr (.inr (.inr (va_up (va_cpy fa (fun _ => none) 0 0 ln) N (some aG))))))), (aG, .inr (2, [.int (nI gn), .long gy, .int kb, .long gx, .int vb, .int la]))] ++ gr) := hD
    refine lv_aload_n hx hb dc_D_add_32 rfl (lv_at hl 0 rfl) ?_
    refine lv_aload_n hx hb dc_D_add_33 rfl (lv_at hl 0 rfl) ?_
    refine va_get (D := (dC, dI)) (ci := 1) (v := .int lt) (C := rn_D) (T := ft_D) (N := 4) hx hb hts fw_D hown hK hP 0 rfl rfl 3 (by decide) (hts _ bw1_87) (fun _ h9 => h9) rfl dc_D_add_34 ?_
    refine lv_aload_n hx hb dc_D_add_37 rfl (lv_at hl 1 rfl) ?_
    refine va_get (D := (dC, dI)) (ci := 2) (v := .int la) (C := rn_G) (T := ft_G) (N := 6) hx hb hts fw_G hown hK hP 3 rfl rfl 5 (by decide) (hts _ bw2_140) (fun _ h9 => h9) rfl dc_D_add_38 ?_
    refine lv_aload_n hx hb dc_D_add_41 rfl (lv_at hl 1 rfl) ?_
    refine va_get (D := (dC, dI)) (ci := 2) (v := .int (nI gn)) (C := rn_G) (T := ft_G) (N := 6) hx hb hts fw_G hown hK hP 3 rfl rfl 0 (by decide) (hts _ bw2_134) (fun _ h9 => h9) rfl dc_D_add_42 ?_
    refine lv_iadd hx hb dc_D_add_45 ?_
    refine lv_iconst (v := 1) hx hb dc_D_add_46 (by decide) ?_
    refine lv_isub hx hb dc_D_add_47 ?_
    refine va_mmax hx hb (hml.trans hl.1.symm) hown (hts _ bw2_227) (hts _ bw2_47) (hts _ bw1_14) (hts _ bw2_48) (Nat.le_of_ble_eq_true rfl) (Nat.le_of_ble_eq_true rfl) (by show _ ≤ lgC N ln; omega) (by show _ ≤ lgS N ln; omega) dc_D_add_48 ?_
    refine va_put (D := (dC, dI)) (ci := 1) (v := .int (if lt < ((la + (nI gn)) - 1) then ((la + (nI gn)) - 1) else lt)) (ty := .int) (C := rn_D) (T := ft_D) (N := 4) hx hb hts fw_D fy_D fo_D fn_D hown hK hP hD hS 0 rfl rfl 3 (by decide) (hts _ bw1_87) (fun _ h9 => h9) rfl (by decide +kernel) rfl rfl (Nat.le_of_ble_eq_true rfl) dc_D_add_51 (fun H locs hP hD hS => ?_)
    have hP : va_P (dC, dI) vwCl ([(aF, .inr (1, [.ref aL, .int ((nI dn) + (nI gn)), .int ((nI wt) + (nI mo)), .int (if lt < ((la + (nI gn)) - 1) then ((la + (nI gn)) - 1) else lt)])), (aL, .inr (0, [.int (md + 1), .ref q1_1, .int (nI (N + 1))])), (q1_1, .inl (cO, ln + ln / 2, .inr (.inr (.inr (.inr (va_up (va_cpy fa (fun _ => none) 0 0 ln) N (some aG))))))), (aG, .inr (2, [.int (nI gn), .long gy, .int kb, .long gx, .int vb, .int la]))] ++ gr) H := hP
    have hD : va_D A ([(aF, .inr (1, [.ref aL, .int ((nI dn) + (nI gn)), .int ((nI wt) + (nI mo)), .int (if lt < ((la + (nI gn)) - 1) then ((la + (nI gn)) - 1) else lt)])), (aL, .inr (0, [.int (md + 1), .ref q1_1, .int (nI (N + 1))])), (q1_1, .inl (cO, ln + ln / 2, .inr (.inr (.inr (.inr (va_up (va_cpy fa (fun _ => none) 0 0 ln) N (some aG))))))), (aG, .inr (2, [.int (nI gn), .long gy, .int kb, .long gx, .int vb, .int la]))] ++ gr) := hD
    have e_3 : ((nI dn) + (nI gn)) = (nI (dn + gn)) := by first | exact nI_add _ _ | with_reducible rfl
    have e_4 : ((nI wt) + (nI mo)) = (nI (wt + mo)) := by first | exact nI_add _ _ | with_reducible rfl
    have e_5 : (if lt < ((la + (nI gn)) - 1) then ((la + (nI gn)) - 1) else lt) = (if lt < la + nI gn - 1 then la + nI gn - 1 else lt) := by first | exact nI_add _ _ | with_reducible rfl
    have hP := wP_eq (ws' := ([(aF, .inr (1, [.ref aL, .int (nI (dn + gn)), .int (nI (wt + mo)), .int (if lt < la + nI gn - 1 then la + nI gn - 1 else lt)])), (aL, .inr (0, [.int (md + 1), .ref q1_1, .int (nI (N + 1))])), (q1_1, .inl (cO, ln + ln / 2, .inr (.inr (.inr (.inr (va_up (va_cpy fa (fun _ => none) 0 0 ln) N (some aG))))))), (aG, .inr (2, [.int (nI gn), .long gy, .int kb, .long gx, .int vb, .int la]))] ++ gr)) hP (cg3 (fun y0 y1 y2 => (([(aF, .inr (1, [.ref aL, .int y0, .int y1, .int y2])), (aL, .inr (0, [.int (md + 1), .ref q1_1, .int (nI (N + 1))])), (q1_1, .inl (cO, ln + ln / 2, .inr (.inr (.inr (.inr (va_up (va_cpy fa (fun _ => none) 0 0 ln) N (some aG))))))), (aG, .inr (2, [.int (nI gn), .long gy, .int kb, .long gx, .int vb, .int la]))] ++ gr) : va_W)) e_3 e_4 e_5)
    have hD := wD_eq (ws' := ([(aF, .inr (1, [.ref aL, .int (nI (dn + gn)), .int (nI (wt + mo)), .int (if lt < la + nI gn - 1 then la + nI gn - 1 else lt)])), (aL, .inr (0, [.int (md + 1), .ref q1_1, .int (nI (N + 1))])), (q1_1, .inl (cO, ln + ln / 2, .inr (.inr (.inr (.inr (va_up (va_cpy fa (fun _ => none) 0 0 ln) N (some aG))))))), (aG, .inr (2, [.int (nI gn), .long gy, .int kb, .long gx, .int vb, .int la]))] ++ gr)) hD (cg3 (fun y0 y1 y2 => (([(aF, .inr (1, [.ref aL, .int y0, .int y1, .int y2])), (aL, .inr (0, [.int (md + 1), .ref q1_1, .int (nI (N + 1))])), (q1_1, .inl (cO, ln + ln / 2, .inr (.inr (.inr (.inr (va_up (va_cpy fa (fun _ => none) 0 0 ln) N (some aG))))))), (aG, .inr (2, [.int (nI gn), .long gy, .int kb, .long gx, .int vb, .int la]))] ++ gr) : va_W)) e_3 e_4 e_5)
    have hP9 : va_P (dC, dI) vwCl ([(aF, .inr (1, [.ref aL, .int (nI (dn + gn)), .int (nI (wt + mo)), .int (if lt < la + nI gn - 1 then la + nI gn - 1 else lt)])), (aL, .inr (0, [.int (md + 1), .ref q1_1, .int (nI (N + 1))]))] ++ ((q1_1, .inl (cO, ln + ln / 2, .inr (.inr (.inr (.inr (va_up (va_cpy fa (fun _ => none) 0 0 ln) N (some aG))))))) :: (aG, .inr (2, [.int (nI gn), .long gy, .int kb, .long gx, .int vb, .int la])) :: gr)) H := hP.part (cx := [(aF, .inr (1, [.ref aL, .int (nI (dn + gn)), .int (nI (wt + mo)), .int (if lt < la + nI gn - 1 then la + nI gn - 1 else lt)])), (aL, .inr (0, [.int (md + 1), .ref q1_1, .int (nI (N + 1))])), (q1_1, .inl (cO, ln + ln / 2, .inr (.inr (.inr (.inr (va_up (va_cpy fa (fun _ => none) 0 0 ln) N (some aG))))))), (aG, .inr (2, [.int (nI gn), .long gy, .int kb, .long gx, .int vb, .int la]))]) (pl := gr) [0, 1, 2, 3] rfl
    have hD9 : va_D A ([(aF, .inr (1, [.ref aL, .int (nI (dn + gn)), .int (nI (wt + mo)), .int (if lt < la + nI gn - 1 then la + nI gn - 1 else lt)])), (aL, .inr (0, [.int (md + 1), .ref q1_1, .int (nI (N + 1))]))] ++ ((q1_1, .inl (cO, ln + ln / 2, .inr (.inr (.inr (.inr (va_up (va_cpy fa (fun _ => none) 0 0 ln) N (some aG))))))) :: (aG, .inr (2, [.int (nI gn), .long gy, .int kb, .long gx, .int vb, .int la])) :: gr)) := hD.part (cx := [(aF, .inr (1, [.ref aL, .int (nI (dn + gn)), .int (nI (wt + mo)), .int (if lt < la + nI gn - 1 then la + nI gn - 1 else lt)])), (aL, .inr (0, [.int (md + 1), .ref q1_1, .int (nI (N + 1))])), (q1_1, .inl (cO, ln + ln / 2, .inr (.inr (.inr (.inr (va_up (va_cpy fa (fun _ => none) 0 0 ln) N (some aG))))))), (aG, .inr (2, [.int (nI gn), .long gy, .int kb, .long gx, .int vb, .int la]))]) (pl := gr) [0, 1, 2, 3] (by decide) rfl
    have hK9 := hK.sub (tys' := [(cO, .object "java/lang/Object")]) [0] rfl
    refine W.widen (k := lgC N ln) (n := lgS N ln) (by omega) (by omega) ?_
    exact W.vret hx hb hr (fun t ht hW => ⟨⟨((q1_1, .inl (cO, ln + ln / 2, .inr (.inr (.inr (.inr (va_up (va_cpy fa (fun _ => none) 0 0 ln) N (some aG))))))) :: (aG, .inr (2, [.int (nI gn), .long gy, .int kb, .long gx, .int vb, .int la])) :: gr, q1_1), rfl, by rw [hg.2.1]; exact Or.inr ⟨_, _, rfl, by omega, by omega, ls_full hNe hel⟩, by rw [ht]; exact hP9, va_K.moved hW.alike hK9, hD9⟩, hS.F ht⟩) hS.2.2 dc_D_add_54
  · have h1 := h1.symm
    subst h1
    have hg := lg_first h2 h3
    obtain ⟨hg1, hg2, hg3⟩ := lg_first h2 h3
    show Met l my_D_add (wB my_D_add cd_D_add 3 none) ({ frames := 7, cells := lgC N ln, slots := lgS N ln, locals := 160 }) (va_Pc [.ref aF, .ref aG, .int (nI mo)] (PcE (dC, dI) eE ([(aF, .inr (1, [.ref aL, .int (nI dn), .int (nI wt), .int lt])), (aL, .inr (0, [.int md, .ref eE, .int (nI N)])), (aG, .inr (2, [.int (nI gn), .long gy, .int kb, .long gx, .int vb, .int la]))] ++ pl) [(cO, .object "java/lang/Object")] sz)) (va_Qv (fun (u : va_W × Nat) => LSx eE u.1 u.2 (N + 1) (lgN N ln) cO (va_up gs N (gn, gy, kb, gx, vb, la))) (fun u => EnW (dC, dI) (va_A ([(aF, .inr (1, [.ref aL, .int (nI dn), .int (nI wt), .int lt])), (aL, .inr (0, [.int md, .ref eE, .int (nI N)])), (aG, .inr (2, [.int (nI gn), .long gy, .int kb, .long gx, .int vb, .int la]))] ++ pl) sz) ([(aF, .inr (1, [.ref aL, .int (nI (dn + gn)), .int (nI (wt + mo)), .int (if lt < la + nI gn - 1 then la + nI gn - 1 else lt)])), (aL, .inr (0, [.int (md + 1), .ref u.2, .int (nI (N + 1))]))] ++ u.1) [(cO, .object "java/lang/Object")]) (va_A ([(aF, .inr (1, [.ref aL, .int (nI dn), .int (nI wt), .int lt])), (aL, .inr (0, [.int md, .ref eE, .int (nI N)])), (aG, .inr (2, [.int (nI gn), .long gy, .int kb, .long gx, .int vb, .int la]))] ++ pl) sz)) (lgC N ln) (lgS N ln) (va_A ([(aF, .inr (1, [.ref aL, .int (nI dn), .int (nI wt), .int lt])), (aL, .inr (0, [.int md, .ref eE, .int (nI N)])), (aG, .inr (2, [.int (nI gn), .long gy, .int kb, .long gx, .int vb, .int la]))] ++ pl) sz)
    refine Met.ofW (cc := cd_D_add) (maxL := 3) (ret := none) (by decide) rfl ?_
    intro p e s m args below meth c s₁ B hml hv
    obtain ⟨rfl, ⟨hsz, hP, hK, hD0, hG⟩, hE⟩ := hv
    have hx := B.exec
    have hb := B.bytes
    have hr := B.returns
    have hts := fun (w : Cond) (h : w ∈ bigT) => atoms_spec (ws := (wB my_D_add cd_D_add 3 none)) B.pre w (List.mem_cons_of_mem _ h)
    have hown : s.vm.findClass rn_D = some m.cls := findClass_of_methodNamed B.named
    have hlocks := B.notSynchronized
    subst hsz
    have hD := hD0.self (sz := s.heap.size)
    generalize hAe : va_A ([(aF, .inr (1, [.ref aL, .int (nI dn), .int (nI wt), .int lt])), (aL, .inr (0, [.int md, .ref eE, .int (nI N)])), (aG, .inr (2, [.int (nI gn), .long gy, .int kb, .long gx, .int vb, .int la]))] ++ pl) s.heap.size = A at hD hG hE ⊢
    have gE1 := hE.1
    have gE2 := hE.2
    have hA : ∀ q : Nat, s.heap.size ≤ q → A q := fun q h => by rw [← hAe]; exact Or.inr h
    have hS : va_S A s.heap s.heap [] := va_S.rf
    have hP : va_P (dC, dI) vwCl ([(aF, .inr (1, [.ref aL, .int (nI dn), .int (nI wt), .int lt])), (aL, .inr (0, [.int md, .ref eE, .int (nI N)])), (aG, .inr (2, [.int (nI gn), .long gy, .int kb, .long gx, .int vb, .int la]))] ++ pl) s.heap := hP
    have hl := lv_entry ([.ref aF, .ref aG, .int (nI mo)]) (n := 3) (Nat.le_of_ble_eq_true rfl)
    rw [lg_entry_eq]
    generalize (lg_sl ([.ref aF, .ref aG, .int (nI mo)]) ++ List.replicate (3 - (lg_sl ([.ref aF, .ref aG, .int (nI mo)])).length) Slot.unset).toArray = ls at hl ⊢
    have hl : lv_has ls 3 [(0, .ref aF), (1, .ref aG), (2, .int (nI mo))] := hl
    refine lv_aload_n hx hb dc_D_add_0 rfl (lv_at hl 0 rfl) ?_
    refine va_get (D := (dC, dI)) (ci := 1) (v := .ref aL) (C := rn_D) (T := ft_D) (N := 4) hx hb hts fw_D hown hK hP 0 rfl rfl 0 (by decide) (hts _ bw1_82) (fun _ h9 => h9) rfl dc_D_add_1 ?_
    refine lv_aload_n hx hb dc_D_add_4 rfl (lv_at hl 1 rfl) ?_
    refine kc_iQ (X := [(aF, .inr (1, [.ref aL, .int (nI dn), .int (nI wt), .int lt])), (aL, .inr (0, [.int md, .ref eE, .int (nI N)])), (aG, .inr (2, [.int (nI gn), .long gy, .int kb, .long gx, .int vb, .int la]))]) (cx := [(aL, .inr (0, [.int md, .ref eE, .int (nI N)])), (aG, .inr (2, [.int (nI gn), .long gy, .int kb, .long gx, .int vb, .int la]))]) (wr := [(aF, .inr (1, [.ref aL, .int (nI dn), .int (nI wt), .int lt]))]) (pl := pl) hP hD hS hA [1, 2] [0] rfl rfl rfl (by decide) (by decide) (va_runV (As := [.ref aG]) (rest := []) ⟨hx, hb, hml, hown, hts⟩ (c_A_add_first l dC dI _ eE aL md N cO aG gn gy kb gx vb la (by omega)) (kw_V 1 hts bw2_178 bw2_179 bw2_180 bw1_6 bw2_181 rfl rfl (by decide +kernel) ⟨Nat.le_of_ble_eq_true rfl, Nat.le_of_ble_eq_true rfl⟩) (kp_VE (wc := [(aL, .inr (0, [.int md, .ref eE, .int (nI N)])), (aG, .inr (2, [.int (nI gn), .long gy, .int kb, .long gx, .int vb, .int la]))]) (tc := [(cO, .object "java/lang/Object")]) (As := [.ref aG]) hE hG hS hA hP hD hK [1, 2] rfl (by decide) rfl [0] rfl (ci := 0) (q0 := 1) rfl rfl) rfl rfl hl.1 rfl (lv_room (Nat.le_of_ble_eq_true rfl)) dc_D_add_5 ⟨by show _ ≤ lgC N ln; omega, by show _ ≤ lgS N ln; omega⟩) (fun r_2 q1_1 H locs hw hP hD hK1 hS => ?_)
    have hw : 1 = r_2 := hw.symm
    subst hw
    have hP : va_P (dC, dI) vwCl ([(aF, .inr (1, [.ref aL, .int (nI dn), .int (nI wt), .int lt])), (aL, .inr (0, [.int (md + 1), .ref q1_1, .int (nI (N + 1))])), (q1_1, .inl (cO, 10, .inr (.inr (.inr (.inr (va_up (fun _ => none) N (some aG))))))), (aG, .inr (2, [.int (nI gn), .long gy, .int kb, .long gx, .int vb, .int la]))] ++ pl) H := hP
    have hD : va_D A ([(aF, .inr (1, [.ref aL, .int (nI dn), .int (nI wt), .int lt])), (aL, .inr (0, [.int (md + 1), .ref q1_1, .int (nI (N + 1))])), (q1_1, .inl (cO, 10, .inr (.inr (.inr (.inr (va_up (fun _ => none) N (some aG))))))), (aG, .inr (2, [.int (nI gn), .long gy, .int kb, .long gx, .int vb, .int la]))] ++ pl) := hD
    refine lv_pop hx hb dc_D_add_8 rfl ?_
    refine lv_aload_n hx hb dc_D_add_9 rfl (lv_at hl 0 rfl) ?_
    refine lv_dup hx hb dc_D_add_10 rfl ?_
    refine va_get (D := (dC, dI)) (ci := 1) (v := .int (nI dn)) (C := rn_D) (T := ft_D) (N := 4) hx hb hts fw_D hown hK hP 0 rfl rfl 1 (by decide) (hts _ bw1_83) (fun _ h9 => h9) rfl dc_D_add_11 ?_
    refine lv_aload_n hx hb dc_D_add_14 rfl (lv_at hl 1 rfl) ?_
    refine va_get (D := (dC, dI)) (ci := 2) (v := .int (nI gn)) (C := rn_G) (T := ft_G) (N := 6) hx hb hts fw_G hown hK hP 3 rfl rfl 0 (by decide) (hts _ bw2_134) (fun _ h9 => h9) rfl dc_D_add_15 ?_
    refine lv_iadd hx hb dc_D_add_18 ?_
    refine va_put (D := (dC, dI)) (ci := 1) (v := .int ((nI dn) + (nI gn))) (ty := .int) (C := rn_D) (T := ft_D) (N := 4) hx hb hts fw_D fy_D fo_D fn_D hown hK hP hD hS 0 rfl rfl 1 (by decide) (hts _ bw1_83) (fun _ h9 => h9) rfl (by decide +kernel) rfl rfl (Nat.le_of_ble_eq_true rfl) dc_D_add_19 (fun H locs hP hD hS => ?_)
    have hP : va_P (dC, dI) vwCl ([(aF, .inr (1, [.ref aL, .int ((nI dn) + (nI gn)), .int (nI wt), .int lt])), (aL, .inr (0, [.int (md + 1), .ref q1_1, .int (nI (N + 1))])), (q1_1, .inl (cO, 10, .inr (.inr (.inr (.inr (va_up (fun _ => none) N (some aG))))))), (aG, .inr (2, [.int (nI gn), .long gy, .int kb, .long gx, .int vb, .int la]))] ++ pl) H := hP
    have hD : va_D A ([(aF, .inr (1, [.ref aL, .int ((nI dn) + (nI gn)), .int (nI wt), .int lt])), (aL, .inr (0, [.int (md + 1), .ref q1_1, .int (nI (N + 1))])), (q1_1, .inl (cO, 10, .inr (.inr (.inr (.inr (va_up (fun _ => none) N (some aG))))))), (aG, .inr (2, [.int (nI gn), .long gy, .int kb, .long gx, .int vb, .int la]))] ++ pl) := hD
    refine lv_aload_n hx hb dc_D_add_22 rfl (lv_at hl 0 rfl) ?_
    refine lv_dup hx hb dc_D_add_23 rfl ?_
    refine va_get (D := (dC, dI)) (ci := 1) (v := .int (nI wt)) (C := rn_D) (T := ft_D) (N := 4) hx hb hts fw_D hown hK hP 0 rfl rfl 2 (by decide) (hts _ bw1_85) (fun _ h9 => h9) rfl dc_D_add_24 ?_
    refine lv_iload_n hx hb dc_D_add_27 rfl (lv_at hl 2 rfl) ?_
    refine lv_iadd hx hb dc_D_add_28 ?_
    refine va_put (D := (dC, dI)) (ci := 1) (v := .int ((nI wt) + (nI mo))) (ty := .int) (C := rn_D) (T := ft_D) (N := 4) hx hb hts fw_D fy_D fo_D fn_D hown hK hP hD hS 0 rfl rfl 2 (by decide) (hts _ bw1_85) (fun _ h9 => h9) rfl (by decide +kernel) rfl rfl (Nat.le_of_ble_eq_true rfl) dc_D_add_29 (fun H locs hP hD hS => ?_)
    have hP : va_P (dC, dI) vwCl ([(aF, .inr (1, [.ref aL, .int ((nI dn) + (nI gn)), .int ((nI wt) + (nI mo)), .int lt])), (aL, .inr (0, [.int (md + 1), .ref q1_1, .int (nI (N + 1))])), (q1_1, .inl (cO, 10, .inr (.inr (.inr (.inr (va_up (fun _ => none) N (some aG))))))), (aG, .inr (2, [.int (nI gn), .long gy, .int kb, .long gx, .int vb, .int la]))] ++ pl) H := hP
    have hD : va_D A ([(aF, .inr (1, [.ref aL, .int ((nI dn) + (nI gn)), .int ((nI wt) + (nI mo)), .int lt])), (aL, .inr (0, [.int (md + 1), .ref q1_1, .int (nI (N + 1))])), (q1_1, .inl (cO, 10, .inr (.inr (.inr (.inr (va_up (fun _ => none) N (some aG))))))), (aG, .inr (2, [.int (nI gn), .long gy, .int kb, .long gx, .int vb, .int la]))] ++ pl) := hD
    refine lv_aload_n hx hb dc_D_add_32 rfl (lv_at hl 0 rfl) ?_
    refine lv_aload_n hx hb dc_D_add_33 rfl (lv_at hl 0 rfl) ?_
    refine va_get (D := (dC, dI)) (ci := 1) (v := .int lt) (C := rn_D) (T := ft_D) (N := 4) hx hb hts fw_D hown hK hP 0 rfl rfl 3 (by decide) (hts _ bw1_87) (fun _ h9 => h9) rfl dc_D_add_34 ?_
    refine lv_aload_n hx hb dc_D_add_37 rfl (lv_at hl 1 rfl) ?_
    refine va_get (D := (dC, dI)) (ci := 2) (v := .int la) (C := rn_G) (T := ft_G) (N := 6) hx hb hts fw_G hown hK hP 3 rfl rfl 5 (by decide) (hts _ bw2_140) (fun _ h9 => h9) rfl dc_D_add_38 ?_
    refine lv_aload_n hx hb dc_D_add_41 rfl (lv_at hl 1 rfl) ?_
    refine va_get (D := (dC, dI)) (ci := 2) (v := .int (nI gn)) (C := rn_G) (T := ft_G) (N := 6) hx hb hts fw_G hown hK hP 3 rfl rfl 0 (by decide) (hts _ bw2_134) (fun _ h9 => h9) rfl dc_D_add_42 ?_
    refine lv_iadd hx hb dc_D_add_45 ?_
    refine lv_iconst (v := 1) hx hb dc_D_add_46 (by decide) ?_
    refine lv_isub hx hb dc_D_add_47 ?_
    refine va_mmax hx hb (hml.trans hl.1.symm) hown (hts _ bw2_227) (hts _ bw2_47) (hts _ bw1_14) (hts _ bw2_48) (Nat.le_of_ble_eq_true rfl) (Nat.le_of_ble_eq_true rfl) (by show _ ≤ lgC N ln; omega) (by show _ ≤ lgS N ln; omega) dc_D_add_48 ?_
    refine va_put (D := (dC, dI)) (ci := 1) (v := .int (if lt < ((la + (nI gn)) - 1) then ((la + (nI gn)) - 1) else lt)) (ty := .int) (C := rn_D) (T := ft_D) (N := 4) hx hb hts fw_D fy_D fo_D fn_D hown hK hP hD hS 0 rfl rfl 3 (by decide) (hts _ bw1_87) (fun _ h9 => h9) rfl (by decide +kernel) rfl rfl (Nat.le_of_ble_eq_true rfl) dc_D_add_51 (fun H locs hP hD hS => ?_)
    have hP : va_P (dC, dI) vwCl ([(aF, .inr (1, [.ref aL, .int ((nI dn) + (nI gn)), .int ((nI wt) + (nI mo)), .int (if lt < ((la + (nI gn)) - 1) then ((la + (nI gn)) - 1) else lt)])), (aL, .inr (0, [.int (md + 1), .ref q1_1, .int (nI (N + 1))])), (q1_1, .inl (cO, 10, .inr (.inr (.inr (.inr (va_up (fun _ => none) N (some aG))))))), (aG, .inr (2, [.int (nI gn), .long gy, .int kb, .long gx, .int vb, .int la]))] ++ pl) H := hP
    have hD : va_D A ([(aF, .inr (1, [.ref aL, .int ((nI dn) + (nI gn)), .int ((nI wt) + (nI mo)), .int (if lt < ((la + (nI gn)) - 1) then ((la + (nI gn)) - 1) else lt)])), (aL, .inr (0, [.int (md + 1), .ref q1_1, .int (nI (N + 1))])), (q1_1, .inl (cO, 10, .inr (.inr (.inr (.inr (va_up (fun _ => none) N (some aG))))))), (aG, .inr (2, [.int (nI gn), .long gy, .int kb, .long gx, .int vb, .int la]))] ++ pl) := hD
    have e_3 : ((nI dn) + (nI gn)) = (nI (dn + gn)) := by first | exact nI_add _ _ | with_reducible rfl
    have e_4 : ((nI wt) + (nI mo)) = (nI (wt + mo)) := by first | exact nI_add _ _ | with_reducible rfl
    have e_5 : (if lt < ((la + (nI gn)) - 1) then ((la + (nI gn)) - 1) else lt) = (if lt < la + nI gn - 1 then la + nI gn - 1 else lt) := by first | exact nI_add _ _ | with_reducible rfl
    have hP := wP_eq (ws' := ([(aF, .inr (1, [.ref aL, .int (nI (dn + gn)), .int (nI (wt + mo)), .int (if lt < la + nI gn - 1 then la + nI gn - 1 else lt)])), (aL, .inr (0, [.int (md + 1), .ref q1_1, .int (nI (N + 1))])), (q1_1, .inl (cO, 10, .inr (.inr (.inr (.inr (va_up (fun _ => none) N (some aG))))))), (aG, .inr (2, [.int (nI gn), .long gy, .int kb, .long gx, .int vb, .int la]))] ++ pl)) hP (cg3 (fun y0 y1 y2 => (([(aF, .inr (1, [.ref aL, .int y0, .int y1, .int y2])), (aL, .inr (0, [.int (md + 1), .ref q1_1, .int (nI (N + 1))])), (q1_1, .inl (cO, 10, .inr (.inr (.inr (.inr (va_up (fun _ => none) N (some aG))))))), (aG, .inr (2, [.int (nI gn), .long gy, .int kb, .long gx, .int vb, .int la]))] ++ pl) : va_W)) e_3 e_4 e_5)
    have hD := wD_eq (ws' := ([(aF, .inr (1, [.ref aL, .int (nI (dn + gn)), .int (nI (wt + mo)), .int (if lt < la + nI gn - 1 then la + nI gn - 1 else lt)])), (aL, .inr (0, [.int (md + 1), .ref q1_1, .int (nI (N + 1))])), (q1_1, .inl (cO, 10, .inr (.inr (.inr (.inr (va_up (fun _ => none) N (some aG))))))), (aG, .inr (2, [.int (nI gn), .long gy, .int kb, .long gx, .int vb, .int la]))] ++ pl)) hD (cg3 (fun y0 y1 y2 => (([(aF, .inr (1, [.ref aL, .int y0, .int y1, .int y2])), (aL, .inr (0, [.int (md + 1), .ref q1_1, .int (nI (N + 1))])), (q1_1, .inl (cO, 10, .inr (.inr (.inr (.inr (va_up (fun _ => none) N (some aG))))))), (aG, .inr (2, [.int (nI gn), .long gy, .int kb, .long gx, .int vb, .int la]))] ++ pl) : va_W)) e_3 e_4 e_5)
    have hP9 : va_P (dC, dI) vwCl ([(aF, .inr (1, [.ref aL, .int (nI (dn + gn)), .int (nI (wt + mo)), .int (if lt < la + nI gn - 1 then la + nI gn - 1 else lt)])), (aL, .inr (0, [.int (md + 1), .ref q1_1, .int (nI (N + 1))]))] ++ ((q1_1, .inl (cO, 10, .inr (.inr (.inr (.inr (va_up (fun _ => none) N (some aG))))))) :: (aG, .inr (2, [.int (nI gn), .long gy, .int kb, .long gx, .int vb, .int la])) :: pl)) H := hP.part (cx := [(aF, .inr (1, [.ref aL, .int (nI (dn + gn)), .int (nI (wt + mo)), .int (if lt < la + nI gn - 1 then la + nI gn - 1 else lt)])), (aL, .inr (0, [.int (md + 1), .ref q1_1, .int (nI (N + 1))])), (q1_1, .inl (cO, 10, .inr (.inr (.inr (.inr (va_up (fun _ => none) N (some aG))))))), (aG, .inr (2, [.int (nI gn), .long gy, .int kb, .long gx, .int vb, .int la]))]) (pl := pl) [0, 1, 2, 3] rfl
    have hD9 : va_D A ([(aF, .inr (1, [.ref aL, .int (nI (dn + gn)), .int (nI (wt + mo)), .int (if lt < la + nI gn - 1 then la + nI gn - 1 else lt)])), (aL, .inr (0, [.int (md + 1), .ref q1_1, .int (nI (N + 1))]))] ++ ((q1_1, .inl (cO, 10, .inr (.inr (.inr (.inr (va_up (fun _ => none) N (some aG))))))) :: (aG, .inr (2, [.int (nI gn), .long gy, .int kb, .long gx, .int vb, .int la])) :: pl)) := hD.part (cx := [(aF, .inr (1, [.ref aL, .int (nI (dn + gn)), .int (nI (wt + mo)), .int (if lt < la + nI gn - 1 then la + nI gn - 1 else lt)])), (aL, .inr (0, [.int (md + 1), .ref q1_1, .int (nI (N + 1))])), (q1_1, .inl (cO, 10, .inr (.inr (.inr (.inr (va_up (fun _ => none) N (some aG))))))), (aG, .inr (2, [.int (nI gn), .long gy, .int kb, .long gx, .int vb, .int la]))]) (pl := pl) [0, 1, 2, 3] (by decide) rfl
    have hK9 := hK.sub (tys' := [(cO, .object "java/lang/Object")]) [0] rfl
    refine W.widen (k := lgC N ln) (n := lgS N ln) (by omega) (by omega) ?_
    exact W.vret hx hb hr (fun t ht hW => ⟨⟨((q1_1, .inl (cO, 10, .inr (.inr (.inr (.inr (va_up (fun _ => none) N (some aG))))))) :: (aG, .inr (2, [.int (nI gn), .long gy, .int kb, .long gx, .int vb, .int la])) :: pl, q1_1), rfl, by rw [hg.2.1]; exact Or.inr ⟨_, _, rfl, by omega, by omega, ls_first h2⟩, by rw [ht]; exact hP9, va_K.moved hW.alike hK9, hD9⟩, hS.F ht⟩) hS.2.2 dc_D_add_54
