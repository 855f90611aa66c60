set_option maxHeartbeats 1000000 in
set_option maxRecDepth 100000 in
theorem c_AR_copyOf (l : Launch) (dC : Nat → ClassId) (dI : Nat → Nat → Nat) (sz : Nat) (aR : Nat) (cA : ClassId) (n : Nat) (f : Nat → Int32) (j : Nat) (hj : n < j) (hj2 : j ≤ 16384) (hfit : fitB f) : Met l my_AR_copyOf (wB my_AR_copyOf cd_AR_copyOf 3 (some (.array .byte))) ({ frames := 1, cells := 1, slots := j, locals := 29 }) (va_Pc [.ref aR, .int (nI j)] (PcW (dC, dI) [(aR, .inl (cA, n, .inl f))] [(cA, .byte)] sz)) (va_Qr (fun (u : Nat × ClassId) => True) (fun u => fun ra t => ra = u.1 ∧ EnW (dC, dI) (va_A [(aR, .inl (cA, n, .inl f))] sz) [(aR, .inl (cA, n, .inl f)), (u.1, .inl (u.2, j, .inl (va_cpy f (fun _ => 0) 0 0 n)))] [(cA, .byte), (u.2, .byte)] t) (va_A [(aR, .inl (cA, n, .inl f))] sz)) 1 j (va_A [(aR, .inl (cA, n, .inl f))] sz) := by
  refine Met.ofW (cc := cd_AR_copyOf) (maxL := 3) (ret := (some (.array .byte))) (by decide) rfl ?_
  intro p e s m args below meth c s₁ B hml hv
  obtain ⟨rfl, hsz, hP, hK, hD0, hG⟩ := hv
  have hx := B.exec
  have hb := B.bytes
  have hr := B.returns
  have hts := fun (w : Cond) (h : w ∈ bigT) => atoms_spec (ws := (wB my_AR_copyOf cd_AR_copyOf 3 (some (.array .byte)))) B.pre w (List.mem_cons_of_mem _ h)
  have hown : s.vm.findClass rn_AR = some m.cls := findClass_of_methodNamed B.named
  have hlocks := B.notSynchronized
  subst hsz
  have hD := hD0.self (sz := s.heap.size)
  generalize hAe : va_A [(aR, .inl (cA, n, .inl f))] s.heap.size = A at hD hG ⊢
  have hA : ∀ q : Nat, s.heap.size ≤ q → A q := fun q h => by rw [← hAe]; exact Or.inr h
  have hS : va_S A s.heap s.heap [] := va_S.rf
  have hP : va_P (dC, dI) vwCl [(aR, .inl (cA, n, .inl f))] s.heap := hP
  have hl := lv_entry ([.ref aR, .int (nI j)]) (n := 3) (Nat.le_of_ble_eq_true rfl)
  rw [lg_entry_eq]
  generalize (lg_sl ([.ref aR, .int (nI j)]) ++ List.replicate (3 - (lg_sl ([.ref aR, .int (nI j)])).length) Slot.unset).toArray = ls at hl ⊢
  have hl : lv_has ls 3 [(0, .ref aR), (1, .int (nI j))] := hl
  refine lv_iload_n hx hb dc_AR_copyOf_0 rfl (lv_at hl 1 rfl) ?_
  refine lv_aload_n hx hb dc_AR_copyOf_1 rfl (lv_at hl 0 rfl) ?_
  refine va_alen (v := nI n) hx hb hK hP 0 0 rfl rfl rfl dc_AR_copyOf_2 ?_
  refine lv_icmp_ne (tgt := 14) hx hb dc_AR_copyOf_3 (by decide) (fun c_1 => ?_) (fun c_1 => ?_)
  · refine lv_iload_n hx hb dc_AR_copyOf_14 rfl (lv_at hl 1 rfl) ?_
    refine va_newa (atype := .byte) (n := (nI j)) (N' := j) (a0 := (j, .inl (fun _ => 0))) (ty := .byte) hx hb (hts _ bw1_49) rfl hK hP hD hS hA (fun _ => rfl) (nI_pos (by omega)) (nI_clamp (by omega)) (by simp only [componentBytes]; omega) (by show _ ≤ 1; omega) (by show _ ≤ j; omega) dc_AR_copyOf_15 (fun q_2 k_3 H hK hP hD hS => ?_)
    have hK : va_K (dC, dI) vwCl [(cA, .byte), (k_3, .byte)] s := hK
    have hP : va_P (dC, dI) vwCl [(aR, .inl (cA, n, .inl f)), (q_2, .inl (k_3, j, .inl (fun _ => 0)))] H := hP
    have hD : va_D A [(aR, .inl (cA, n, .inl f)), (q_2, .inl (k_3, j, .inl (fun _ => 0)))] := hD
    refine lv_astore_n (lv' := [(2, .ref q_2), (0, .ref aR), (1, .int (nI j))]) hx hb dc_AR_copyOf_17 rfl hl (by decide) rfl (fun ls hl => ?_)
    refine lv_aload_n hx hb dc_AR_copyOf_18 rfl (lv_at hl 1 rfl) ?_
    refine lv_iconst (v := 0) hx hb dc_AR_copyOf_19 (by decide) ?_
    refine lv_aload_n hx hb dc_AR_copyOf_20 rfl (lv_at hl 0 rfl) ?_
    refine lv_iconst (v := 0) hx hb dc_AR_copyOf_21 (by decide) ?_
    refine lv_aload_n hx hb dc_AR_copyOf_22 rfl (lv_at hl 1 rfl) ?_
    refine va_alen (v := nI n) hx hb hK hP 0 0 rfl rfl rfl dc_AR_copyOf_23 ?_
    refine lv_iload_n hx hb dc_AR_copyOf_24 rfl (lv_at hl 2 rfl) ?_
    refine va_mmin hx hb (hml.trans hl.1.symm) hown (hts _ bw2_59) (hts _ bw2_44) (hts _ bw1_14) (hts _ bw2_45) (Nat.le_of_ble_eq_true rfl) (Nat.le_of_ble_eq_true rfl) (by show _ ≤ 1; omega) (by show _ ≤ j; omega) dc_AR_copyOf_25 ?_
    refine W.eq (g2 := F0 m 28 ls [.int (nI n), .int 0, .ref q_2, .int 0, .ref aR]) (by rw [show (if (nI j) < (nI n) then (nI j) else (nI n)) = (nI n) by exact if_neg (nI_nlt (by omega) (by omega))]) ?_
    refine va_copyi hx hb (hml.trans hl.1.symm) hown (hts _ bw2_60) (hts _ bw2_62) (hts _ bw2_61) (hts _ bw1_16) hK hP hD hS 0 1 0 1 rfl rfl rfl rfl rfl (by decide) (by decide) (nI_pos (by omega)) (by rw [nI_clamp (by omega), sb_cl0]; omega) (by rw [nI_clamp (by omega), sb_cl0]; omega) (fun i _ => hfit _) (Nat.le_of_ble_eq_true rfl) (Nat.le_of_ble_eq_true rfl) dc_AR_copyOf_28 (fun H locs hP hD hS => ?_)
    rw [nI_clamp (by omega), sb_cl0] at hP hD
    have hP : va_P (dC, dI) vwCl [(aR, .inl (cA, n, .inl f)), (q_2, .inl (k_3, j, .inl (va_cpy f (fun _ => 0) 0 0 n)))] H := hP
    have hD : va_D A [(aR, .inl (cA, n, .inl f)), (q_2, .inl (k_3, j, .inl (va_cpy f (fun _ => 0) 0 0 n)))] := hD
    refine lv_aload_n hx hb dc_AR_copyOf_31 rfl (lv_at hl 0 rfl) ?_
    have hP9 := hP.sub (ws' := [(aR, .inl (cA, n, .inl f)), (q_2, .inl (k_3, j, .inl (va_cpy f (fun _ => 0) 0 0 n)))]) [0, 1] rfl
    have hD9 := hD.sub (ws' := [(aR, .inl (cA, n, .inl f)), (q_2, .inl (k_3, j, .inl (va_cpy f (fun _ => 0) 0 0 n)))]) [0, 1] (by decide) rfl
    have hK9 := hK.sub (tys' := [(cA, .byte), (k_3, .byte)]) [0, 1] rfl
    refine W.widen (k := 1) (n := j) (by omega) (by omega) ?_
    exact W.aret (v := .ref q_2) hx hb hr (Or.inr ⟨_, rfl⟩) (Or.inr ⟨_, rfl⟩) (fun t ht hW => ⟨⟨(q_2, k_3), q_2, rfl, trivial, rfl, by rw [ht]; exact hP9, va_K.moved hW.alike hK9, hD9⟩, hS.F ht⟩) hS.2.2 dc_AR_copyOf_32
  · exfalso; exact absurd ((nI_eq (by omega) (by omega)).mp c_1) (by omega)

set_option maxHeartbeats 1000000 in
set_option maxRecDepth 100000 in
theorem c_T_makeRoom (l : Launch) (dC : Nat → ClassId) (dI : Nat → Nat → Nat) (sz : Nat) (aT : Nat) (aR : Nat) (cA : ClassId) (n : Nat) (f : Nat → Int32) (k : Nat) (ch : Int32) (j : Nat) (hk : k ≤ n) (hn : n ≤ 16384) (hm : k + j ≤ 16384) (hfit : fitB f) : Met l my_T_makeRoom (wB my_T_makeRoom cd_T_makeRoom 3 none) ({ frames := 2, cells := grC n (k + j), slots := grS n (k + j), locals := 51 }) (va_Pc [.ref aT, .int (nI j)] (PcW (dC, dI) [(aT, .inr (5, [.ref aR, .int (nI k), .int ch])), (aR, .inl (cA, n, .inl f))] [(cA, .byte)] sz)) (va_Qv (fun (u : Nat × ClassId × (Nat → Int32)) => (∀ i, i < k → u.2.2 i = f i) ∧ fitB u.2.2) (fun u => EnW (dC, dI) (va_A [(aT, .inr (5, [.ref aR, .int (nI k), .int ch])), (aR, .inl (cA, n, .inl f))] sz) [(aT, .inr (5, [.ref u.1, .int (nI k), .int ch])), (u.1, .inl (u.2.1, grN n (k + j), .inl u.2.2))] [(u.2.1, .byte)]) (va_A [(aT, .inr (5, [.ref aR, .int (nI k), .int ch])), (aR, .inl (cA, n, .inl f))] sz)) (grC n (k + j)) (grS n (k + j)) (va_A [(aT, .inr (5, [.ref aR, .int (nI k), .int ch])), (aR, .inl (cA, n, .inl f))] sz) := by
  refine Met.ofW (cc := cd_T_makeRoom) (maxL := 3) (ret := none) (by decide) rfl ?_
  intro p e s m args below meth c s₁ B hml hv
  obtain ⟨rfl, hsz, hP, hK, hD0, hG⟩ := hv
  have hx := B.exec
  have hb := B.bytes
  have hr := B.returns
  have hts := fun (w : Cond) (h : w ∈ bigT) => atoms_spec (ws := (wB my_T_makeRoom cd_T_makeRoom 3 none)) B.pre w (List.mem_cons_of_mem _ h)
  have hown : s.vm.findClass rn_T = some m.cls := findClass_of_methodNamed B.named
  have hlocks := B.notSynchronized
  subst hsz
  have hD := hD0.self (sz := s.heap.size)
  generalize hAe : va_A [(aT, .inr (5, [.ref aR, .int (nI k), .int ch])), (aR, .inl (cA, n, .inl f))] s.heap.size = A at hD hG ⊢
  have hA : ∀ q : Nat, s.heap.size ≤ q → A q := fun q h => by rw [← hAe]; exact Or.inr h
  have hS : va_S A s.heap s.heap [] := va_S.rf
  have hP : va_P (dC, dI) vwCl [(aT, .inr (5, [.ref aR, .int (nI k), .int ch])), (aR, .inl (cA, n, .inl f))] s.heap := hP
  have hl := lv_entry ([.ref aT, .int (nI j)]) (n := 3) (Nat.le_of_ble_eq_true rfl)
  rw [lg_entry_eq]
  generalize (lg_sl ([.ref aT, .int (nI j)]) ++ List.replicate (3 - (lg_sl ([.ref aT, .int (nI j)])).length) Slot.unset).toArray = ls at hl ⊢
  have hl : lv_has ls 3 [(0, .ref aT), (1, .int (nI j))] := hl
  refine lv_aload_n hx hb dc_T_makeRoom_0 rfl (lv_at hl 0 rfl) ?_
  refine va_get (D := (dC, dI)) (ci := 5) (v := .int (nI k)) (C := rn_T) (T := ft_T) (N := 3) hx hb hts fw_T hown hK hP 0 rfl rfl 1 (by decide) (hts _ bw1_37) (fun _ h9 => h9) rfl dc_T_makeRoom_1 ?_
  refine lv_iload_n hx hb dc_T_makeRoom_4 rfl (lv_at hl 1 rfl) ?_
  refine lv_iadd hx hb dc_T_makeRoom_5 ?_
  refine lv_aload_n hx hb dc_T_makeRoom_6 rfl (lv_at hl 0 rfl) ?_
  refine va_get (D := (dC, dI)) (ci := 5) (v := .ref aR) (C := rn_T) (T := ft_T) (N := 3) hx hb hts fw_T hown hK hP 0 rfl rfl 0 (by decide) (hts _ bw1_36) (fun _ h9 => h9) rfl dc_T_makeRoom_7 ?_
  refine va_alen (v := nI n) hx hb hK hP 1 0 rfl rfl rfl dc_T_makeRoom_10 ?_
  refine lv_icmp_le (tgt := 49) hx hb dc_T_makeRoom_11 (by decide) (fun c_1 => ?_) (fun c_1 => ?_)
  · have hle : k + j ≤ n := (nI_leI (by omega) (by omega)).mp (by rw [← nI_add]; exact c_1)
    obtain ⟨hg1, hg2, hg3⟩ := gr_no hle
    have e_2 : n = (grN n (k + j)) := by exact hg1.symm
    have hP := wP_eq (ws' := [(aT, .inr (5, [.ref aR, .int (nI k), .int ch])), (aR, .inl (cA, grN n (k + j), .inl f))]) hP (cg1 (fun y0 => ([(aT, .inr (5, [.ref aR, .int (nI k), .int ch])), (aR, .inl (cA, y0, .inl f))] : va_W)) e_2)
    have hD := wD_eq (ws' := [(aT, .inr (5, [.ref aR, .int (nI k), .int ch])), (aR, .inl (cA, grN n (k + j), .inl f))]) hD (cg1 (fun y0 => ([(aT, .inr (5, [.ref aR, .int (nI k), .int ch])), (aR, .inl (cA, y0, .inl f))] : va_W)) e_2)
    have hP9 := hP.sub (ws' := [(aT, .inr (5, [.ref aR, .int (nI k), .int ch])), (aR, .inl (cA, grN n (k + j), .inl f))]) [0, 1] rfl
    have hD9 := hD.sub (ws' := [(aT, .inr (5, [.ref aR, .int (nI k), .int ch])), (aR, .inl (cA, grN n (k + j), .inl f))]) [0, 1] (by decide) rfl
    have hK9 := hK.sub (tys' := [(cA, .byte)]) [0] rfl
    refine W.widen (k := grC n (k + j)) (n := grS n (k + j)) (by omega) (by omega) ?_
    exact W.vret hx hb hr (fun t ht hW => ⟨⟨(aR, cA, f), rfl, ⟨fun i _ => rfl, hfit⟩, by rw [ht]; exact hP9, va_K.moved hW.alike hK9, hD9⟩, hS.F ht⟩) hS.2.2 dc_T_makeRoom_49
  · have hgt : n < k + j := by rcases Nat.lt_or_ge n (k + j) with h | h; exact h; exact absurd (by rw [nI_add]; exact nI_le h (by omega)) c_1
    obtain ⟨hg0, hg1, hg2, hg3, hg4⟩ := gr_yes hgt hm
    refine lv_iconst (v := 2) hx hb dc_T_makeRoom_14 (by decide) ?_
    refine lv_aload_n hx hb dc_T_makeRoom_15 rfl (lv_at hl 0 rfl) ?_
    refine va_get (D := (dC, dI)) (ci := 5) (v := .ref aR) (C := rn_T) (T := ft_T) (N := 3) hx hb hts fw_T hown hK hP 0 rfl rfl 0 (by decide) (hts _ bw1_36) (fun _ h9 => h9) rfl dc_T_makeRoom_16 ?_
    refine va_alen (v := nI n) hx hb hK hP 1 0 rfl rfl rfl dc_T_makeRoom_19 ?_
    refine lv_imul hx hb dc_T_makeRoom_20 ?_
    refine lv_sipush (v := 16384) hx hb dc_T_makeRoom_21 (by decide) ?_
    refine va_mmin hx hb (hml.trans hl.1.symm) hown (hts _ bw2_43) (hts _ bw2_44) (hts _ bw1_14) (hts _ bw2_45) (Nat.le_of_ble_eq_true rfl) (Nat.le_of_ble_eq_true rfl) (Nat.zero_le _) (Nat.zero_le _) dc_T_makeRoom_24 ?_
    refine W.eq (g2 := F0 m 27 ls [.int (nI (min (2 * n) 16384))]) (by rw [show (if 16384 < (2 * (nI n)) then 16384 else (2 * (nI n))) = (nI (min (2 * n) 16384)) by exact mk_min hn]) ?_
    refine lv_istore_n (lv' := [(2, .int (nI (min (2 * n) 16384))), (0, .ref aT), (1, .int (nI j))]) hx hb dc_T_makeRoom_27 rfl hl (by decide) rfl (fun ls hl => ?_)
    refine lv_aload_n hx hb dc_T_makeRoom_28 rfl (lv_at hl 1 rfl) ?_
    refine lv_aload_n hx hb dc_T_makeRoom_29 rfl (lv_at hl 1 rfl) ?_
    refine va_get (D := (dC, dI)) (ci := 5) (v := .ref aR) (C := rn_T) (T := ft_T) (N := 3) hx hb hts fw_T hown hK hP 0 rfl rfl 0 (by decide) (hts _ bw1_36) (fun _ h9 => h9) rfl dc_T_makeRoom_30 ?_
    refine lv_aload_n hx hb dc_T_makeRoom_33 rfl (lv_at hl 1 rfl) ?_
    refine va_get (D := (dC, dI)) (ci := 5) (v := .int (nI k)) (C := rn_T) (T := ft_T) (N := 3) hx hb hts fw_T hown hK hP 0 rfl rfl 1 (by decide) (hts _ bw1_37) (fun _ h9 => h9) rfl dc_T_makeRoom_34 ?_
    refine lv_iload_n hx hb dc_T_makeRoom_37 rfl (lv_at hl 2 rfl) ?_
    refine lv_iadd hx hb dc_T_makeRoom_38 ?_
    refine lv_iload_n hx hb dc_T_makeRoom_39 rfl (lv_at hl 0 rfl) ?_
    refine va_mmax hx hb (hml.trans hl.1.symm) hown (hts _ bw2_46) (hts _ bw2_47) (hts _ bw1_14) (hts _ bw2_48) (Nat.le_of_ble_eq_true rfl) (Nat.le_of_ble_eq_true rfl) (Nat.zero_le _) (Nat.zero_le _) dc_T_makeRoom_40 ?_
    refine W.eq (g2 := F0 m 43 ls [.int (nI (grN n (k + j))), .ref aR, .ref aT]) (by rw [show (if ((nI k) + (nI j)) < (nI (min (2 * n) 16384)) then (nI (min (2 * n) 16384)) else ((nI k) + (nI j))) = (nI (grN n (k + j))) by exact mk_max hgt hm]) ?_
    refine kc_r (wc := [(aR, .inl (cA, n, .inl f))]) (wr := [(aT, .inr (5, [.ref aR, .int (nI k), .int ch]))]) hP hD hS hA [1] [0] rfl rfl (by decide) (by decide) (va_runS (As := [.ref aR, .int (nI (grN n (k + j)))]) (rest := [.ref aT]) ⟨hx, hb, hml, hown, hts⟩ (c_AR_copyOf l dC dI _ aR cA n f (grN n (k + j)) (by omega) (by omega) (hfit)) (kw_S 2 hts bw2_49 bw2_50 bw1_15 bw2_51 rfl rfl (by decide +kernel) ⟨Nat.le_of_ble_eq_true rfl, Nat.le_of_ble_eq_true rfl⟩) (kp_S (wc := [(aR, .inl (cA, n, .inl f))]) (tc := [(cA, .byte)]) (av := [.ref aR, .int (nI (grN n (k + j)))]) hG hS hA hP hD hK [1] rfl (by decide) rfl [0] rfl) rfl rfl hl.1 rfl (lv_room (Nat.le_of_ble_eq_true rfl)) dc_T_makeRoom_43 ⟨by show _ ≤ grC n (k + j); omega, by show _ ≤ grS n (k + j); omega⟩) (fun u_6 H locs hw hP hD hK1 hS => ?_)
    obtain ⟨q1_3, cB_4⟩ := u_6
    have hK := hK.app hK1
    have hK : va_K (dC, dI) vwCl [(cA, .byte), (cA, .byte), (cB_4, .byte)] s := hK
    have hP : va_P (dC, dI) vwCl [(aT, .inr (5, [.ref aR, .int (nI k), .int ch])), (aR, .inl (cA, n, .inl f)), (q1_3, .inl (cB_4, (grN n (k + j)), .inl (va_cpy f (fun _ => 0) 0 0 n)))] H := hP
    have hD : va_D A [(aT, .inr (5, [.ref aR, .int (nI k), .int ch])), (aR, .inl (cA, n, .inl f)), (q1_3, .inl (cB_4, (grN n (k + j)), .inl (va_cpy f (fun _ => 0) 0 0 n)))] := hD
    refine W.eq (g2 := F0 m 46 ls [.ref q1_3, .ref aT]) rfl ?_
    refine va_put (D := (dC, dI)) (ci := 5) (v := .ref q1_3) (ty := .array .byte) (C := rn_T) (T := ft_T) (N := 3) hx hb hts fw_T fy_T fo_T fn_T hown hK hP hD hS 0 rfl rfl 0 (by decide) (hts _ bw1_36) (fun _ h9 => h9) rfl (by decide +kernel) rfl rfl (Nat.le_of_ble_eq_true rfl) dc_T_makeRoom_46 (fun H locs hP hD hS => ?_)
    have hP : va_P (dC, dI) vwCl [(aT, .inr (5, [.ref q1_3, .int (nI k), .int ch])), (aR, .inl (cA, n, .inl f)), (q1_3, .inl (cB_4, (grN n (k + j)), .inl (va_cpy f (fun _ => 0) 0 0 n)))] H := hP
    have hD : va_D A [(aT, .inr (5, [.ref q1_3, .int (nI k), .int ch])), (aR, .inl (cA, n, .inl f)), (q1_3, .inl (cB_4, (grN n (k + j)), .inl (va_cpy f (fun _ => 0) 0 0 n)))] := hD
    obtain ⟨w_7, hw_7⟩ : ∃ y, y = (va_cpy f (fun _ => 0) 0 0 n) := ⟨_, rfl⟩
    have e_8 : (va_cpy f (fun _ => 0) 0 0 n) = w_7 := by exact hw_7.symm
    have hP := wP_eq (ws' := [(aT, .inr (5, [.ref q1_3, .int (nI k), .int ch])), (aR, .inl (cA, n, .inl f)), (q1_3, .inl (cB_4, (grN n (k + j)), .inl w_7))]) hP (cg1 (fun y0 => ([(aT, .inr (5, [.ref q1_3, .int (nI k), .int ch])), (aR, .inl (cA, n, .inl f)), (q1_3, .inl (cB_4, (grN n (k + j)), .inl y0))] : va_W)) e_8)
    have hD := wD_eq (ws' := [(aT, .inr (5, [.ref q1_3, .int (nI k), .int ch])), (aR, .inl (cA, n, .inl f)), (q1_3, .inl (cB_4, (grN n (k + j)), .inl w_7))]) hD (cg1 (fun y0 => ([(aT, .inr (5, [.ref q1_3, .int (nI k), .int ch])), (aR, .inl (cA, n, .inl f)), (q1_3, .inl (cB_4, (grN n (k + j)), .inl y0))] : va_W)) e_8)
    have hP9 := hP.sub (ws' := [(aT, .inr (5, [.ref q1_3, .int (nI k), .int ch])), (q1_3, .inl (cB_4, grN n (k + j), .inl w_7))]) [0, 2] rfl
    have hD9 := hD.sub (ws' := [(aT, .inr (5, [.ref q1_3, .int (nI k), .int ch])), (q1_3, .inl (cB_4, grN n (k + j), .inl w_7))]) [0, 2] (by decide) rfl
    have hK9 := hK.sub (tys' := [(cB_4, .byte)]) [2] rfl
    refine W.widen (k := grC n (k + j)) (n := grS n (k + j)) (by omega) (by omega) ?_
    exact W.vret hx hb hr (fun t ht hW => ⟨⟨(q1_3, cB_4, w_7), rfl, ⟨fun i hi => (congrFun hw_7 i).trans (sb_cpy0 (by omega)), by show fitB w_7; rw [hw_7]; exact fitB_c hfit⟩, by rw [ht]; exact hP9, va_K.moved hW.alike hK9, hD9⟩, hS.F ht⟩) hS.2.2 dc_T_makeRoom_49
