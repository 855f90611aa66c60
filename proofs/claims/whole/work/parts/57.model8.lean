set_option maxHeartbeats 1000000 in
set_option maxRecDepth 100000 in
theorem c_M_fault_ok (l : Launch) (dC : Nat → ClassId) (dI : Nat → Nat → Nat) (sz : Nat) (aM : Nat) (co : Int32) (a1 : Nat) (ks : Nat) (dn : Nat) (a2 : Nat) (a3 : Nat) (a4 : Nat) (a5 : Nat) (a6 : Nat) (xa : Nat) (ri : Int32) (fa : Int32) (fq : Int32) (bg : Int32) (tm : Int64) (ka : Int32) (kb : Int64) (va : Int32) (vb : Int64) (c1_ : ClassId) (tp : Nat → Int32) (x : Int32) (hk : ks ≤ 16384) (hx1 : x = 0 ∨ x = 1) : Met l my_M_fault (wB my_M_fault cd_M_fault 2 (some .int)) ({ frames := 4, cells := 0, slots := 0, locals := 99 }) (va_Pc [.ref aM, .int x] (PcW (dC, dI) [(aM, .inr (7, [.int co, .ref a1, .int (nI ks), .int (nI dn), .ref a2, .ref a3, .ref a4, .ref a5, .ref a6, .int (nI xa), .int ri, .int fa, .int fq, .int bg, .long tm, .int ka, .long kb, .int va, .long vb])), (a1, .inl (c1_, 16384, .inl tp))] [(c1_, .int)] sz)) (va_Qi (fun (r : Int32) => fun (u : Nat × Int32 × Int32 × Int64 × Int32 × Int64 × Int32 × Int64) => r = if x = 0 then (mrd tp ks).1 else (mrd tp ks).2) (fun u => EnW (dC, dI) (va_A [(aM, .inr (7, [.int co, .ref a1, .int (nI ks), .int (nI dn), .ref a2, .ref a3, .ref a4, .ref a5, .ref a6, .int (nI xa), .int ri, .int fa, .int fq, .int bg, .long tm, .int ka, .long kb, .int va, .long vb])), (a1, .inl (c1_, 16384, .inl tp))] sz) [(aM, .inr (7, [.int 0, .ref a1, .int (nI ks), .int (nI dn), .ref a2, .ref a3, .ref a4, .ref a5, .ref a6, .int (nI u.1), .int u.2.1, .int ((mrd tp ks).1), .int ((mrd tp ks).2), .int u.2.2.1, .long u.2.2.2.1, .int u.2.2.2.2.1, .long u.2.2.2.2.2.1, .int u.2.2.2.2.2.2.1, .long u.2.2.2.2.2.2.2])), (a1, .inl (c1_, 16384, .inl tp))] [(c1_, .int)]) (va_A [(aM, .inr (7, [.int co, .ref a1, .int (nI ks), .int (nI dn), .ref a2, .ref a3, .ref a4, .ref a5, .ref a6, .int (nI xa), .int ri, .int fa, .int fq, .int bg, .long tm, .int ka, .long kb, .int va, .long vb])), (a1, .inl (c1_, 16384, .inl tp))] sz)) 0 0 (va_A [(aM, .inr (7, [.int co, .ref a1, .int (nI ks), .int (nI dn), .ref a2, .ref a3, .ref a4, .ref a5, .ref a6, .int (nI xa), .int ri, .int fa, .int fq, .int bg, .long tm, .int ka, .long kb, .int va, .long vb])), (a1, .inl (c1_, 16384, .inl tp))] sz) := by
  refine Met.ofW (cc := cd_M_fault) (maxL := 2) (ret := (some .int)) (by decide) rfl ?_
  intro p e s m args below meth c s₁ B hml hv
  obtain ⟨rfl, hsz, hP, hK, hD0, hG⟩ := hv
  have hx := B.exec
  have hb := B.bytes
  have hr := B.returns
  have hts := fun (w : Cond) (h : w ∈ bigT) => atoms_spec (ws := (wB my_M_fault cd_M_fault 2 (some .int))) B.pre w (List.mem_cons_of_mem _ h)
  have hown : s.vm.findClass rn_M = some m.cls := findClass_of_methodNamed B.named
  have hlocks := B.notSynchronized
  subst hsz
  have hD := hD0.self (sz := s.heap.size)
  generalize hAe : va_A [(aM, .inr (7, [.int co, .ref a1, .int (nI ks), .int (nI dn), .ref a2, .ref a3, .ref a4, .ref a5, .ref a6, .int (nI xa), .int ri, .int fa, .int fq, .int bg, .long tm, .int ka, .long kb, .int va, .long vb])), (a1, .inl (c1_, 16384, .inl tp))] s.heap.size = A at hD hG ⊢
  have hA : ∀ q : Nat, s.heap.size ≤ q → A q := fun q h => by rw [← hAe]; exact Or.inr h
  have hS : va_S A s.heap s.heap [] := va_S.rf
  have hP : va_P (dC, dI) vwCl [(aM, .inr (7, [.int co, .ref a1, .int (nI ks), .int (nI dn), .ref a2, .ref a3, .ref a4, .ref a5, .ref a6, .int (nI xa), .int ri, .int fa, .int fq, .int bg, .long tm, .int ka, .long kb, .int va, .long vb])), (a1, .inl (c1_, 16384, .inl tp))] s.heap := hP
  have hl := lv_entry ([.ref aM, .int x]) (n := 2) (Nat.le_of_ble_eq_true rfl)
  rw [lg_entry_eq]
  generalize (lg_sl ([.ref aM, .int x]) ++ List.replicate (2 - (lg_sl ([.ref aM, .int x])).length) Slot.unset).toArray = ls at hl ⊢
  have hl : lv_has ls 2 [(0, .ref aM), (1, .int x)] := hl
  refine lv_aload_n hx hb dc_M_fault_0 rfl (lv_at hl 0 rfl) ?_
  refine lv_iload_n hx hb dc_M_fault_1 rfl (lv_at hl 1 rfl) ?_
  refine w_join (σ := Unit) (fun v15_ H locs ls => va_P (dC, dI) vwCl [(aM, .inr (7, [.int co, .ref a1, .int (nI ks), .int (nI dn), .ref a2, .ref a3, .ref a4, .ref a5, .ref a6, .int (nI xa), .int ri, .int fa, .int fq, .int bg, .long tm, .int ka, .long kb, .int va, .long vb])), (a1, .inl (c1_, 16384, .inl tp))] H ∧ va_D A [(aM, .inr (7, [.int co, .ref a1, .int (nI ks), .int (nI dn), .ref a2, .ref a3, .ref a4, .ref a5, .ref a6, .int (nI xa), .int ri, .int fa, .int fq, .int bg, .long tm, .int ka, .long kb, .int va, .long vb])), (a1, .inl (c1_, 16384, .inl tp))] ∧ va_S A s.heap H locs ∧ lv_has ls 2 [(0, .ref aM), (1, .int x)]) (fun v15_ ls => F0 m 15 ls [.int 0, .ref aM]) ?_ (fun hJ15 => ?_)
  · rintro v15_ H locs ls ⟨hP, hD, hS, hl⟩
    have hP : va_P (dC, dI) vwCl [(aM, .inr (7, [.int co, .ref a1, .int (nI ks), .int (nI dn), .ref a2, .ref a3, .ref a4, .ref a5, .ref a6, .int (nI xa), .int ri, .int fa, .int fq, .int bg, .long tm, .int ka, .long kb, .int va, .long vb])), (a1, .inl (c1_, 16384, .inl tp))] H := hP
    have hD : va_D A [(aM, .inr (7, [.int co, .ref a1, .int (nI ks), .int (nI dn), .ref a2, .ref a3, .ref a4, .ref a5, .ref a6, .int (nI xa), .int ri, .int fa, .int fq, .int bg, .long tm, .int ka, .long kb, .int va, .long vb])), (a1, .inl (c1_, 16384, .inl tp))] := hD
    have hl : lv_has ls 2 [(0, .ref aM), (1, .int x)] := hl
    show W _ _ _ _ _ _ _ _ _ _ _ _ _ _ _ (F0 m 15 ls [.int 0, .ref aM])
    refine va_put (D := (dC, dI)) (ci := 7) (v := .int 0) (ty := .int) (C := rn_M) (T := ft_M) (N := 19) hx hb hts fw_M fy_M fo_M fn_M hown hK hP hD hS 0 rfl rfl 0 (by decide) (hts _ bw3_159) (fun _ h9 => h9) rfl (by decide +kernel) rfl rfl (Nat.le_of_ble_eq_true rfl) dc_M_fault_15 (fun H locs hP hD hS => ?_)
    have hP : va_P (dC, dI) vwCl [(aM, .inr (7, [.int 0, .ref a1, .int (nI ks), .int (nI dn), .ref a2, .ref a3, .ref a4, .ref a5, .ref a6, .int (nI xa), .int ri, .int fa, .int fq, .int bg, .long tm, .int ka, .long kb, .int va, .long vb])), (a1, .inl (c1_, 16384, .inl tp))] H := hP
    have hD : va_D A [(aM, .inr (7, [.int 0, .ref a1, .int (nI ks), .int (nI dn), .ref a2, .ref a3, .ref a4, .ref a5, .ref a6, .int (nI xa), .int ri, .int fa, .int fq, .int bg, .long tm, .int ka, .long kb, .int va, .long vb])), (a1, .inl (c1_, 16384, .inl tp))] := hD
    refine lv_aload_n hx hb dc_M_fault_18 rfl (lv_at hl 0 rfl) ?_
    refine va_get (D := (dC, dI)) (ci := 7) (v := .int 0) (C := rn_M) (T := ft_M) (N := 19) hx hb hts fw_M hown hK hP 0 rfl rfl 0 (by decide) (hts _ bw3_159) (fun _ h9 => h9) rfl dc_M_fault_19 ?_
    refine lv_if_le (tgt := 27) hx hb dc_M_fault_22 (by decide) (fun c_1 => ?_) (fun c_1 => ?_)
    · refine lv_aload_n hx hb dc_M_fault_27 rfl (lv_at hl 0 rfl) ?_
      refine kc_v (wc := [(aM, .inr (7, [.int 0, .ref a1, .int (nI ks), .int (nI dn), .ref a2, .ref a3, .ref a4, .ref a5, .ref a6, .int (nI xa), .int ri, .int fa, .int fq, .int bg, .long tm, .int ka, .long kb, .int va, .long vb])), (a1, .inl (c1_, 16384, .inl tp))]) (wr := []) hP hD hS hA [0, 1] [] rfl rfl (by decide) (by decide) (va_runV (As := []) (rest := []) ⟨hx, hb, hml, hown, hts⟩ (c_M_read l dC dI _ aM 0 a1 ks dn a2 a3 a4 a5 a6 xa ri fa fq bg tm ka kb va vb c1_ tp (by omega)) (kw_V 0 hts bw4_66 bw4_68 bws_20 bw1_9 bw4_69 rfl rfl (by decide +kernel) ⟨Nat.le_of_ble_eq_true rfl, Nat.le_of_ble_eq_true rfl⟩) (kp_V (wc := [(aM, .inr (7, [.int 0, .ref a1, .int (nI ks), .int (nI dn), .ref a2, .ref a3, .ref a4, .ref a5, .ref a6, .int (nI xa), .int ri, .int fa, .int fq, .int bg, .long tm, .int ka, .long kb, .int va, .long vb])), (a1, .inl (c1_, 16384, .inl tp))]) (tc := [(c1_, .int)]) (As := []) hG hS hA hP hD hK [0, 1] rfl (by decide) rfl [0] rfl (ci := 7) (q0 := 0) rfl rfl) rfl rfl hl.1 rfl (lv_room (Nat.le_of_ble_eq_true rfl)) dc_M_fault_28 ⟨Nat.zero_le _, Nat.zero_le _⟩) (fun u_11 H locs hw hP hD hK1 hS => ?_)
      obtain ⟨xa1_2, ri1_3, bg1_4, tm1_5, ka1_6, kb1_7, va1_8, vb1_9⟩ := u_11
      have hP : va_P (dC, dI) vwCl [(aM, .inr (7, [.int 0, .ref a1, .int (nI ks), .int (nI dn), .ref a2, .ref a3, .ref a4, .ref a5, .ref a6, .int (nI xa1_2), .int ri1_3, .int ((mrd tp ks).1), .int ((mrd tp ks).2), .int bg1_4, .long tm1_5, .int ka1_6, .long kb1_7, .int va1_8, .long vb1_9])), (a1, .inl (c1_, 16384, .inl tp))] H := hP
      have hD : va_D A [(aM, .inr (7, [.int 0, .ref a1, .int (nI ks), .int (nI dn), .ref a2, .ref a3, .ref a4, .ref a5, .ref a6, .int (nI xa1_2), .int ri1_3, .int ((mrd tp ks).1), .int ((mrd tp ks).2), .int bg1_4, .long tm1_5, .int ka1_6, .long kb1_7, .int va1_8, .long vb1_9])), (a1, .inl (c1_, 16384, .inl tp))] := hD
      refine lv_iload_n hx hb dc_M_fault_31 rfl (lv_at hl 1 rfl) ?_
      refine w_join (σ := Int32) (fun v46_0 H locs ls => v46_0 = (if x = 0 then (mrd tp ks).1 else (mrd tp ks).2) ∧ va_P (dC, dI) vwCl [(aM, .inr (7, [.int 0, .ref a1, .int (nI ks), .int (nI dn), .ref a2, .ref a3, .ref a4, .ref a5, .ref a6, .int (nI xa1_2), .int ri1_3, .int ((mrd tp ks).1), .int ((mrd tp ks).2), .int bg1_4, .long tm1_5, .int ka1_6, .long kb1_7, .int va1_8, .long vb1_9])), (a1, .inl (c1_, 16384, .inl tp))] H ∧ va_D A [(aM, .inr (7, [.int 0, .ref a1, .int (nI ks), .int (nI dn), .ref a2, .ref a3, .ref a4, .ref a5, .ref a6, .int (nI xa1_2), .int ri1_3, .int ((mrd tp ks).1), .int ((mrd tp ks).2), .int bg1_4, .long tm1_5, .int ka1_6, .long kb1_7, .int va1_8, .long vb1_9])), (a1, .inl (c1_, 16384, .inl tp))] ∧ va_S A s.heap H locs ∧ lv_has ls 2 [(0, .ref aM), (1, .int x)]) (fun v46_0 ls => F0 m 46 ls [.int v46_0]) ?_ (fun hJ46 => ?_)
      · rintro v46_0 H locs ls ⟨ev46_0, hP, hD, hS, hl⟩
        have hP : va_P (dC, dI) vwCl [(aM, .inr (7, [.int 0, .ref a1, .int (nI ks), .int (nI dn), .ref a2, .ref a3, .ref a4, .ref a5, .ref a6, .int (nI xa1_2), .int ri1_3, .int ((mrd tp ks).1), .int ((mrd tp ks).2), .int bg1_4, .long tm1_5, .int ka1_6, .long kb1_7, .int va1_8, .long vb1_9])), (a1, .inl (c1_, 16384, .inl tp))] H := hP
        have hD : va_D A [(aM, .inr (7, [.int 0, .ref a1, .int (nI ks), .int (nI dn), .ref a2, .ref a3, .ref a4, .ref a5, .ref a6, .int (nI xa1_2), .int ri1_3, .int ((mrd tp ks).1), .int ((mrd tp ks).2), .int bg1_4, .long tm1_5, .int ka1_6, .long kb1_7, .int va1_8, .long vb1_9])), (a1, .inl (c1_, 16384, .inl tp))] := hD
        have hl : lv_has ls 2 [(0, .ref aM), (1, .int x)] := hl
        show W _ _ _ _ _ _ _ _ _ _ _ _ _ _ _ (F0 m 46 ls [.int v46_0])
        have hP9 := hP.sub (ws' := [(aM, .inr (7, [.int 0, .ref a1, .int (nI ks), .int (nI dn), .ref a2, .ref a3, .ref a4, .ref a5, .ref a6, .int (nI xa1_2), .int ri1_3, .int ((mrd tp ks).1), .int ((mrd tp ks).2), .int bg1_4, .long tm1_5, .int ka1_6, .long kb1_7, .int va1_8, .long vb1_9])), (a1, .inl (c1_, 16384, .inl tp))]) [0, 1] rfl
        have hD9 := hD.sub (ws' := [(aM, .inr (7, [.int 0, .ref a1, .int (nI ks), .int (nI dn), .ref a2, .ref a3, .ref a4, .ref a5, .ref a6, .int (nI xa1_2), .int ri1_3, .int ((mrd tp ks).1), .int ((mrd tp ks).2), .int bg1_4, .long tm1_5, .int ka1_6, .long kb1_7, .int va1_8, .long vb1_9])), (a1, .inl (c1_, 16384, .inl tp))]) [0, 1] (by decide) rfl
        have hK9 := hK.sub (tys' := [(c1_, .int)]) [0] rfl
        exact W.iret (v := v46_0) hx hb hr (fun t ht hW => ⟨⟨v46_0, (xa1_2, ri1_3, bg1_4, tm1_5, ka1_6, kb1_7, va1_8, vb1_9), rfl, ev46_0, by rw [ht]; exact hP9, va_K.moved hW.alike hK9, hD9⟩, hS.F ht⟩) hS.2.2 dc_M_fault_46
      · refine lv_if_ne (tgt := 42) hx hb dc_M_fault_32 (by decide) (fun c_12 => ?_) (fun c_12 => ?_)
        · refine lv_aload_n hx hb dc_M_fault_42 rfl (lv_at hl 0 rfl) ?_
          refine va_get (D := (dC, dI)) (ci := 7) (v := .int ((mrd tp ks).2)) (C := rn_M) (T := ft_M) (N := 19) hx hb hts fw_M hown hK hP 0 rfl rfl 12 (by decide) (hts _ bw3_171) (fun _ h9 => h9) rfl dc_M_fault_43 ?_
          exact hJ46 ((mrd tp ks).2) _ _ _ ⟨by rw [if_neg c_12], hP.sub [0, 1] rfl, hD.sub [0, 1] (by decide) rfl, hS, lv_sub hl [0, 1] rfl⟩
        · refine lv_aload_n hx hb dc_M_fault_35 rfl (lv_at hl 0 rfl) ?_
          refine va_get (D := (dC, dI)) (ci := 7) (v := .int ((mrd tp ks).1)) (C := rn_M) (T := ft_M) (N := 19) hx hb hts fw_M hown hK hP 0 rfl rfl 11 (by decide) (hts _ bw3_170) (fun _ h9 => h9) rfl dc_M_fault_36 ?_
          refine lv_goto (tgt := 46) hx hb dc_M_fault_39 (by decide) ?_
          exact hJ46 ((mrd tp ks).1) _ _ _ ⟨by rw [if_pos c_12], hP.sub [0, 1] rfl, hD.sub [0, 1] (by decide) rfl, hS, lv_sub hl [0, 1] rfl⟩
    · exact absurd (by decide) c_1
  · refine lv_if_eq (tgt := 10) hx hb dc_M_fault_2 (by decide) (fun c_13 => ?_) (fun c_13 => ?_)
    · refine lv_iconst (v := 0) hx hb dc_M_fault_10 (by decide) ?_
      refine lv_goto (tgt := 15) hx hb dc_M_fault_11 (by decide) ?_
      exact hJ15 () _ _ _ ⟨hP.sub [0, 1] rfl, hD.sub [0, 1] (by decide) rfl, hS, lv_sub hl [0, 1] rfl⟩
    · have hx0 := c_13
      refine lv_iload_n hx hb dc_M_fault_5 rfl (lv_at hl 1 rfl) ?_
      refine lv_iconst (v := 1) hx hb dc_M_fault_6 (by decide) ?_
      refine lv_icmp_ne (tgt := 14) hx hb dc_M_fault_7 (by decide) (fun c_14 => ?_) (fun c_14 => ?_)
      · exfalso; exact hx1.elim hx0 c_14
      · refine lv_iconst (v := 0) hx hb dc_M_fault_10 (by decide) ?_
        refine lv_goto (tgt := 15) hx hb dc_M_fault_11 (by decide) ?_
        exact hJ15 () _ _ _ ⟨hP.sub [0, 1] rfl, hD.sub [0, 1] (by decide) rfl, hS, lv_sub hl [0, 1] rfl⟩

set_option maxHeartbeats 1000000 in
set_option maxRecDepth 100000 in
theorem c_M_fault_bad (l : Launch) (dC : Nat → ClassId) (dI : Nat → Nat → Nat) (sz : Nat) (aM : Nat) (co : Int32) (a1 : Nat) (ks : Nat) (dn : Nat) (a2 : Nat) (a3 : Nat) (a4 : Nat) (a5 : Nat) (a6 : Nat) (xa : Nat) (ri : Int32) (fa : Int32) (fq : Int32) (bg : Int32) (tm : Int64) (ka : Int32) (kb : Int64) (va : Int32) (vb : Int64) (x : Int32) (hx0 : ¬ x = 0) (hx1 : ¬ x = 1) : Met l my_M_fault (wB my_M_fault cd_M_fault 2 (some .int)) ({ frames := 0, cells := 0, slots := 0, locals := 0 }) (va_Pc [.ref aM, .int x] (PcW (dC, dI) [(aM, .inr (7, [.int co, .ref a1, .int (nI ks), .int (nI dn), .ref a2, .ref a3, .ref a4, .ref a5, .ref a6, .int (nI xa), .int ri, .int fa, .int fq, .int bg, .long tm, .int ka, .long kb, .int va, .long vb]))] [] sz)) (va_Qi (fun (r : Int32) => fun (_ : Unit) => r = 0) (fun _ => EnW (dC, dI) (va_A [(aM, .inr (7, [.int co, .ref a1, .int (nI ks), .int (nI dn), .ref a2, .ref a3, .ref a4, .ref a5, .ref a6, .int (nI xa), .int ri, .int fa, .int fq, .int bg, .long tm, .int ka, .long kb, .int va, .long vb]))] sz) [(aM, .inr (7, [.int 1, .ref a1, .int (nI ks), .int (nI dn), .ref a2, .ref a3, .ref a4, .ref a5, .ref a6, .int (nI xa), .int ri, .int fa, .int fq, .int bg, .long tm, .int ka, .long kb, .int va, .long vb]))] []) (va_A [(aM, .inr (7, [.int co, .ref a1, .int (nI ks), .int (nI dn), .ref a2, .ref a3, .ref a4, .ref a5, .ref a6, .int (nI xa), .int ri, .int fa, .int fq, .int bg, .long tm, .int ka, .long kb, .int va, .long vb]))] sz)) 0 0 (va_A [(aM, .inr (7, [.int co, .ref a1, .int (nI ks), .int (nI dn), .ref a2, .ref a3, .ref a4, .ref a5, .ref a6, .int (nI xa), .int ri, .int fa, .int fq, .int bg, .long tm, .int ka, .long kb, .int va, .long vb]))] sz) := by
  refine Met.ofW (cc := cd_M_fault) (maxL := 2) (ret := (some .int)) (by decide) rfl ?_
  intro p e s m args below meth c s₁ B hml hv
  obtain ⟨rfl, hsz, hP, hK, hD0, hG⟩ := hv
  have hx := B.exec
  have hb := B.bytes
  have hr := B.returns
  have hts := fun (w : Cond) (h : w ∈ bigT) => atoms_spec (ws := (wB my_M_fault cd_M_fault 2 (some .int))) B.pre w (List.mem_cons_of_mem _ h)
  have hown : s.vm.findClass rn_M = some m.cls := findClass_of_methodNamed B.named
  have hlocks := B.notSynchronized
  subst hsz
  have hD := hD0.self (sz := s.heap.size)
  generalize hAe : va_A [(aM, .inr (7, [.int co, .ref a1, .int (nI ks), .int (nI dn), .ref a2, .ref a3, .ref a4, .ref a5, .ref a6, .int (nI xa), .int ri, .int fa, .int fq, .int bg, .long tm, .int ka, .long kb, .int va, .long vb]))] s.heap.size = A at hD hG ⊢
  have hA : ∀ q : Nat, s.heap.size ≤ q → A q := fun q h => by rw [← hAe]; exact Or.inr h
  have hS : va_S A s.heap s.heap [] := va_S.rf
  have hP : va_P (dC, dI) vwCl [(aM, .inr (7, [.int co, .ref a1, .int (nI ks), .int (nI dn), .ref a2, .ref a3, .ref a4, .ref a5, .ref a6, .int (nI xa), .int ri, .int fa, .int fq, .int bg, .long tm, .int ka, .long kb, .int va, .long vb]))] s.heap := hP
  have hl := lv_entry ([.ref aM, .int x]) (n := 2) (Nat.le_of_ble_eq_true rfl)
  rw [lg_entry_eq]
  generalize (lg_sl ([.ref aM, .int x]) ++ List.replicate (2 - (lg_sl ([.ref aM, .int x])).length) Slot.unset).toArray = ls at hl ⊢
  have hl : lv_has ls 2 [(0, .ref aM), (1, .int x)] := hl
  refine lv_aload_n hx hb dc_M_fault_0 rfl (lv_at hl 0 rfl) ?_
  refine lv_iload_n hx hb dc_M_fault_1 rfl (lv_at hl 1 rfl) ?_
  refine w_join (σ := Unit) (fun v15_ H locs ls => va_P (dC, dI) vwCl [(aM, .inr (7, [.int co, .ref a1, .int (nI ks), .int (nI dn), .ref a2, .ref a3, .ref a4, .ref a5, .ref a6, .int (nI xa), .int ri, .int fa, .int fq, .int bg, .long tm, .int ka, .long kb, .int va, .long vb]))] H ∧ va_D A [(aM, .inr (7, [.int co, .ref a1, .int (nI ks), .int (nI dn), .ref a2, .ref a3, .ref a4, .ref a5, .ref a6, .int (nI xa), .int ri, .int fa, .int fq, .int bg, .long tm, .int ka, .long kb, .int va, .long vb]))] ∧ va_S A s.heap H locs ∧ lv_has ls 2 [(0, .ref aM), (1, .int x)]) (fun v15_ ls => F0 m 15 ls [.int 1, .ref aM]) ?_ (fun hJ15 => ?_)
  · rintro v15_ H locs ls ⟨hP, hD, hS, hl⟩
    have hP : va_P (dC, dI) vwCl [(aM, .inr (7, [.int co, .ref a1, .int (nI ks), .int (nI dn), .ref a2, .ref a3, .ref a4, .ref a5, .ref a6, .int (nI xa), .int ri, .int fa, .int fq, .int bg, .long tm, .int ka, .long kb, .int va, .long vb]))] H := hP
    have hD : va_D A [(aM, .inr (7, [.int co, .ref a1, .int (nI ks), .int (nI dn), .ref a2, .ref a3, .ref a4, .ref a5, .ref a6, .int (nI xa), .int ri, .int fa, .int fq, .int bg, .long tm, .int ka, .long kb, .int va, .long vb]))] := hD
    have hl : lv_has ls 2 [(0, .ref aM), (1, .int x)] := hl
    show W _ _ _ _ _ _ _ _ _ _ _ _ _ _ _ (F0 m 15 ls [.int 1, .ref aM])
    refine va_put (D := (dC, dI)) (ci := 7) (v := .int 1) (ty := .int) (C := rn_M) (T := ft_M) (N := 19) hx hb hts fw_M fy_M fo_M fn_M hown hK hP hD hS 0 rfl rfl 0 (by decide) (hts _ bw3_159) (fun _ h9 => h9) rfl (by decide +kernel) rfl rfl (Nat.le_of_ble_eq_true rfl) dc_M_fault_15 (fun H locs hP hD hS => ?_)
    have hP : va_P (dC, dI) vwCl [(aM, .inr (7, [.int 1, .ref a1, .int (nI ks), .int (nI dn), .ref a2, .ref a3, .ref a4, .ref a5, .ref a6, .int (nI xa), .int ri, .int fa, .int fq, .int bg, .long tm, .int ka, .long kb, .int va, .long vb]))] H := hP
    have hD : va_D A [(aM, .inr (7, [.int 1, .ref a1, .int (nI ks), .int (nI dn), .ref a2, .ref a3, .ref a4, .ref a5, .ref a6, .int (nI xa), .int ri, .int fa, .int fq, .int bg, .long tm, .int ka, .long kb, .int va, .long vb]))] := hD
    refine lv_aload_n hx hb dc_M_fault_18 rfl (lv_at hl 0 rfl) ?_
    refine va_get (D := (dC, dI)) (ci := 7) (v := .int 1) (C := rn_M) (T := ft_M) (N := 19) hx hb hts fw_M hown hK hP 0 rfl rfl 0 (by decide) (hts _ bw3_159) (fun _ h9 => h9) rfl dc_M_fault_19 ?_
    refine lv_if_le (tgt := 27) hx hb dc_M_fault_22 (by decide) (fun c_1 => ?_) (fun c_1 => ?_)
    · exact absurd c_1 (by decide)
    · refine lv_iconst (v := 0) hx hb dc_M_fault_25 (by decide) ?_
      have hP9 := hP.sub (ws' := [(aM, .inr (7, [.int 1, .ref a1, .int (nI ks), .int (nI dn), .ref a2, .ref a3, .ref a4, .ref a5, .ref a6, .int (nI xa), .int ri, .int fa, .int fq, .int bg, .long tm, .int ka, .long kb, .int va, .long vb]))]) [0] rfl
      have hD9 := hD.sub (ws' := [(aM, .inr (7, [.int 1, .ref a1, .int (nI ks), .int (nI dn), .ref a2, .ref a3, .ref a4, .ref a5, .ref a6, .int (nI xa), .int ri, .int fa, .int fq, .int bg, .long tm, .int ka, .long kb, .int va, .long vb]))]) [0] (by decide) rfl
      have hK9 := hK.sub (tys' := []) [] rfl
      exact W.iret (v := 0) hx hb hr (fun t ht hW => ⟨⟨0, (), rfl, rfl, by rw [ht]; exact hP9, va_K.moved hW.alike hK9, hD9⟩, hS.F ht⟩) hS.2.2 dc_M_fault_26
  · refine lv_if_eq (tgt := 10) hx hb dc_M_fault_2 (by decide) (fun c_2 => ?_) (fun c_2 => ?_)
    · exfalso; exact hx0 c_2
    · refine lv_iload_n hx hb dc_M_fault_5 rfl (lv_at hl 1 rfl) ?_
      refine lv_iconst (v := 1) hx hb dc_M_fault_6 (by decide) ?_
      refine lv_icmp_ne (tgt := 14) hx hb dc_M_fault_7 (by decide) (fun c_3 => ?_) (fun c_3 => ?_)
      · refine lv_iconst (v := 1) hx hb dc_M_fault_14 (by decide) ?_
        exact hJ15 () _ _ _ ⟨hP.sub [0] rfl, hD.sub [0] (by decide) rfl, hS, lv_sub hl [0, 1] rfl⟩
      · exfalso; exact hx1 c_3

set_option maxHeartbeats 1000000 in
set_option maxRecDepth 100000 in
theorem c_M_head_ok (l : Launch) (dC : Nat → ClassId) (dI : Nat → Nat → Nat) (sz : Nat) (aM : Nat) (co : Int32) (a1 : Nat) (ks : Nat) (dn : Nat) (a2 : Nat) (a3 : Nat) (a4 : Nat) (a5 : Nat) (a6 : Nat) (xa : Nat) (ri : Int32) (fa : Int32) (fq : Int32) (bg : Int32) (tm : Int64) (ka : Int32) (kb : Int64) (va : Int32) (vb : Int64) (c1_ : ClassId) (tp : Nat → Int32) (x : Int32) (hk : ks ≤ 16384) (hF : ¬ 0 < (mrd tp ks).1) (hx0 : ¬ x < 0) (hx5 : x ≤ 5) : Met l my_M_head (wB my_M_head cd_M_head 2 (some .long)) ({ frames := 4, cells := 0, slots := 0, locals := 99 }) (va_Pc [.ref aM, .int x] (PcW (dC, dI) [(aM, .inr (7, [.int co, .ref a1, .int (nI ks), .int (nI dn), .ref a2, .ref a3, .ref a4, .ref a5, .ref a6, .int (nI xa), .int ri, .int fa, .int fq, .int bg, .long tm, .int ka, .long kb, .int va, .long vb])), (a1, .inl (c1_, 16384, .inl tp))] [(c1_, .int)] sz)) (va_Ql (fun (r : Int64) => fun (u : Nat × Int32 × Int32 × Int64 × Int32 × Int64 × Int32 × Int64) => r = mhd tp x) (fun u => EnW (dC, dI) (va_A [(aM, .inr (7, [.int co, .ref a1, .int (nI ks), .int (nI dn), .ref a2, .ref a3, .ref a4, .ref a5, .ref a6, .int (nI xa), .int ri, .int fa, .int fq, .int bg, .long tm, .int ka, .long kb, .int va, .long vb])), (a1, .inl (c1_, 16384, .inl tp))] sz) [(aM, .inr (7, [.int 0, .ref a1, .int (nI ks), .int (nI dn), .ref a2, .ref a3, .ref a4, .ref a5, .ref a6, .int (nI u.1), .int u.2.1, .int ((mrd tp ks).1), .int ((mrd tp ks).2), .int u.2.2.1, .long u.2.2.2.1, .int u.2.2.2.2.1, .long u.2.2.2.2.2.1, .int u.2.2.2.2.2.2.1, .long u.2.2.2.2.2.2.2])), (a1, .inl (c1_, 16384, .inl tp))] [(c1_, .int)]) (va_A [(aM, .inr (7, [.int co, .ref a1, .int (nI ks), .int (nI dn), .ref a2, .ref a3, .ref a4, .ref a5, .ref a6, .int (nI xa), .int ri, .int fa, .int fq, .int bg, .long tm, .int ka, .long kb, .int va, .long vb])), (a1, .inl (c1_, 16384, .inl tp))] sz)) 0 0 (va_A [(aM, .inr (7, [.int co, .ref a1, .int (nI ks), .int (nI dn), .ref a2, .ref a3, .ref a4, .ref a5, .ref a6, .int (nI xa), .int ri, .int fa, .int fq, .int bg, .long tm, .int ka, .long kb, .int va, .long vb])), (a1, .inl (c1_, 16384, .inl tp))] sz) := by
  refine Met.ofW (cc := cd_M_head) (maxL := 2) (ret := (some .long)) (by decide) rfl ?_
  intro p e s m args below meth c s₁ B hml hv
  obtain ⟨rfl, hsz, hP, hK, hD0, hG⟩ := hv
  have hx := B.exec
  have hb := B.bytes
  have hr := B.returns
  have hts := fun (w : Cond) (h : w ∈ bigT) => atoms_spec (ws := (wB my_M_head cd_M_head 2 (some .long))) B.pre w (List.mem_cons_of_mem _ h)
  have hown : s.vm.findClass rn_M = some m.cls := findClass_of_methodNamed B.named
  have hlocks := B.notSynchronized
  subst hsz
  have hD := hD0.self (sz := s.heap.size)
  generalize hAe : va_A [(aM, .inr (7, [.int co, .ref a1, .int (nI ks), .int (nI dn), .ref a2, .ref a3, .ref a4, .ref a5, .ref a6, .int (nI xa), .int ri, .int fa, .int fq, .int bg, .long tm, .int ka, .long kb, .int va, .long vb])), (a1, .inl (c1_, 16384, .inl tp))] s.heap.size = A at hD hG ⊢
  have hA : ∀ q : Nat, s.heap.size ≤ q → A q := fun q h => by rw [← hAe]; exact Or.inr h
  have hS : va_S A s.heap s.heap [] := va_S.rf
  have hP : va_P (dC, dI) vwCl [(aM, .inr (7, [.int co, .ref a1, .int (nI ks), .int (nI dn), .ref a2, .ref a3, .ref a4, .ref a5, .ref a6, .int (nI xa), .int ri, .int fa, .int fq, .int bg, .long tm, .int ka, .long kb, .int va, .long vb])), (a1, .inl (c1_, 16384, .inl tp))] s.heap := hP
  have hl := lv_entry ([.ref aM, .int x]) (n := 2) (Nat.le_of_ble_eq_true rfl)
  rw [lg_entry_eq]
  generalize (lg_sl ([.ref aM, .int x]) ++ List.replicate (2 - (lg_sl ([.ref aM, .int x])).length) Slot.unset).toArray = ls at hl ⊢
  have hl : lv_has ls 2 [(0, .ref aM), (1, .int x)] := hl
  refine lv_aload_n hx hb dc_M_head_0 rfl (lv_at hl 0 rfl) ?_
  refine kc_v (wc := [(aM, .inr (7, [.int co, .ref a1, .int (nI ks), .int (nI dn), .ref a2, .ref a3, .ref a4, .ref a5, .ref a6, .int (nI xa), .int ri, .int fa, .int fq, .int bg, .long tm, .int ka, .long kb, .int va, .long vb])), (a1, .inl (c1_, 16384, .inl tp))]) (wr := []) hP hD hS hA [0, 1] [] rfl rfl (by decide) (by decide) (va_runV (As := []) (rest := []) ⟨hx, hb, hml, hown, hts⟩ (c_M_read l dC dI _ aM co a1 ks dn a2 a3 a4 a5 a6 xa ri fa fq bg tm ka kb va vb c1_ tp (by omega)) (kw_V 0 hts bw4_66 bw4_68 bws_20 bw1_9 bw4_69 rfl rfl (by decide +kernel) ⟨Nat.le_of_ble_eq_true rfl, Nat.le_of_ble_eq_true rfl⟩) (kp_V (wc := [(aM, .inr (7, [.int co, .ref a1, .int (nI ks), .int (nI dn), .ref a2, .ref a3, .ref a4, .ref a5, .ref a6, .int (nI xa), .int ri, .int fa, .int fq, .int bg, .long tm, .int ka, .long kb, .int va, .long vb])), (a1, .inl (c1_, 16384, .inl tp))]) (tc := [(c1_, .int)]) (As := []) hG hS hA hP hD hK [0, 1] rfl (by decide) rfl [0] rfl (ci := 7) (q0 := 0) rfl rfl) rfl rfl hl.1 rfl (lv_room (Nat.le_of_ble_eq_true rfl)) dc_M_head_1 ⟨Nat.zero_le _, Nat.zero_le _⟩) (fun u_10 H locs hw hP hD hK1 hS => ?_)
  obtain ⟨xa1_1, ri1_2, bg1_3, tm1_4, ka1_5, kb1_6, va1_7, vb1_8⟩ := u_10
  have hP : va_P (dC, dI) vwCl [(aM, .inr (7, [.int co, .ref a1, .int (nI ks), .int (nI dn), .ref a2, .ref a3, .ref a4, .ref a5, .ref a6, .int (nI xa1_1), .int ri1_2, .int ((mrd tp ks).1), .int ((mrd tp ks).2), .int bg1_3, .long tm1_4, .int ka1_5, .long kb1_6, .int va1_7, .long vb1_8])), (a1, .inl (c1_, 16384, .inl tp))] H := hP
  have hD : va_D A [(aM, .inr (7, [.int co, .ref a1, .int (nI ks), .int (nI dn), .ref a2, .ref a3, .ref a4, .ref a5, .ref a6, .int (nI xa1_1), .int ri1_2, .int ((mrd tp ks).1), .int ((mrd tp ks).2), .int bg1_3, .long tm1_4, .int ka1_5, .long kb1_6, .int va1_7, .long vb1_8])), (a1, .inl (c1_, 16384, .inl tp))] := hD
  refine lv_aload_n hx hb dc_M_head_4 rfl (lv_at hl 0 rfl) ?_
  refine lv_aload_n hx hb dc_M_head_5 rfl (lv_at hl 0 rfl) ?_
  refine va_get (D := (dC, dI)) (ci := 7) (v := .int ((mrd tp ks).1)) (C := rn_M) (T := ft_M) (N := 19) hx hb hts fw_M hown hK hP 0 rfl rfl 11 (by decide) (hts _ bw3_170) (fun _ h9 => h9) rfl dc_M_head_6 ?_
  refine w_join (σ := Unit) (fun v26_ H locs ls => va_P (dC, dI) vwCl [(aM, .inr (7, [.int co, .ref a1, .int (nI ks), .int (nI dn), .ref a2, .ref a3, .ref a4, .ref a5, .ref a6, .int (nI xa1_1), .int ri1_2, .int ((mrd tp ks).1), .int ((mrd tp ks).2), .int bg1_3, .long tm1_4, .int ka1_5, .long kb1_6, .int va1_7, .long vb1_8])), (a1, .inl (c1_, 16384, .inl tp))] H ∧ va_D A [(aM, .inr (7, [.int co, .ref a1, .int (nI ks), .int (nI dn), .ref a2, .ref a3, .ref a4, .ref a5, .ref a6, .int (nI xa1_1), .int ri1_2, .int ((mrd tp ks).1), .int ((mrd tp ks).2), .int bg1_3, .long tm1_4, .int ka1_5, .long kb1_6, .int va1_7, .long vb1_8])), (a1, .inl (c1_, 16384, .inl tp))] ∧ va_S A s.heap H locs ∧ lv_has ls 2 [(0, .ref aM), (1, .int x)]) (fun v26_ ls => F0 m 26 ls [.int 0, .ref aM]) ?_ (fun hJ26 => ?_)
  · rintro v26_ H locs ls ⟨hP, hD, hS, hl⟩
    have hP : va_P (dC, dI) vwCl [(aM, .inr (7, [.int co, .ref a1, .int (nI ks), .int (nI dn), .ref a2, .ref a3, .ref a4, .ref a5, .ref a6, .int (nI xa1_1), .int ri1_2, .int ((mrd tp ks).1), .int ((mrd tp ks).2), .int bg1_3, .long tm1_4, .int ka1_5, .long kb1_6, .int va1_7, .long vb1_8])), (a1, .inl (c1_, 16384, .inl tp))] H := hP
    have hD : va_D A [(aM, .inr (7, [.int co, .ref a1, .int (nI ks), .int (nI dn), .ref a2, .ref a3, .ref a4, .ref a5, .ref a6, .int (nI xa1_1), .int ri1_2, .int ((mrd tp ks).1), .int ((mrd tp ks).2), .int bg1_3, .long tm1_4, .int ka1_5, .long kb1_6, .int va1_7, .long vb1_8])), (a1, .inl (c1_, 16384, .inl tp))] := hD
    have hl : lv_has ls 2 [(0, .ref aM), (1, .int x)] := hl
    show W _ _ _ _ _ _ _ _ _ _ _ _ _ _ _ (F0 m 26 ls [.int 0, .ref aM])
    refine va_put (D := (dC, dI)) (ci := 7) (v := .int 0) (ty := .int) (C := rn_M) (T := ft_M) (N := 19) hx hb hts fw_M fy_M fo_M fn_M hown hK hP hD hS 0 rfl rfl 0 (by decide) (hts _ bw3_159) (fun _ h9 => h9) rfl (by decide +kernel) rfl rfl (Nat.le_of_ble_eq_true rfl) dc_M_head_26 (fun H locs hP hD hS => ?_)
    have hP : va_P (dC, dI) vwCl [(aM, .inr (7, [.int 0, .ref a1, .int (nI ks), .int (nI dn), .ref a2, .ref a3, .ref a4, .ref a5, .ref a6, .int (nI xa1_1), .int ri1_2, .int ((mrd tp ks).1), .int ((mrd tp ks).2), .int bg1_3, .long tm1_4, .int ka1_5, .long kb1_6, .int va1_7, .long vb1_8])), (a1, .inl (c1_, 16384, .inl tp))] H := hP
    have hD : va_D A [(aM, .inr (7, [.int 0, .ref a1, .int (nI ks), .int (nI dn), .ref a2, .ref a3, .ref a4, .ref a5, .ref a6, .int (nI xa1_1), .int ri1_2, .int ((mrd tp ks).1), .int ((mrd tp ks).2), .int bg1_3, .long tm1_4, .int ka1_5, .long kb1_6, .int va1_7, .long vb1_8])), (a1, .inl (c1_, 16384, .inl tp))] := hD
    refine lv_aload_n hx hb dc_M_head_29 rfl (lv_at hl 0 rfl) ?_
    refine va_get (D := (dC, dI)) (ci := 7) (v := .int 0) (C := rn_M) (T := ft_M) (N := 19) hx hb hts fw_M hown hK hP 0 rfl rfl 0 (by decide) (hts _ bw3_159) (fun _ h9 => h9) rfl dc_M_head_30 ?_
    refine lv_if_le (tgt := 38) hx hb dc_M_head_33 (by decide) (fun c_11 => ?_) (fun c_11 => ?_)
    · refine lv_iload_n hx hb dc_M_head_38 rfl (lv_at hl 1 rfl) ?_
      by_cases c_12 : x = 0
      · refine lv_tableIn (off := 33) (tgt := 72) hx hb dc_M_head_39 (by rw [c_12]; decide) (by rw [c_12]; decide) (by rw [c_12]; rfl) (by decide) ?_
        have hs0 := c_12
        refine lv_aload_n hx hb dc_M_head_72 rfl (lv_at hl 0 rfl) ?_
        refine lv_bipush (v := 27) hx hb dc_M_head_73 (by decide) ?_
        refine lv_bipush (v := 8) hx hb dc_M_head_75 (by decide) ?_
        refine kc_l (wc := [(aM, .inr (7, [.int 0, .ref a1, .int (nI ks), .int (nI dn), .ref a2, .ref a3, .ref a4, .ref a5, .ref a6, .int (nI xa1_1), .int ri1_2, .int ((mrd tp ks).1), .int ((mrd tp ks).2), .int bg1_3, .long tm1_4, .int ka1_5, .long kb1_6, .int va1_7, .long vb1_8])), (a1, .inl (c1_, 16384, .inl tp))]) (wr := []) hP hD hS hA [0, 1] [] rfl rfl (by decide) (by decide) (va_runV (As := [.int 27, .int 8]) (rest := []) ⟨hx, hb, hml, hown, hts⟩ (c_M_number l dC dI _ aM 0 a1 ks dn a2 a3 a4 a5 a6 xa1_1 ri1_2 ((mrd tp ks).1) ((mrd tp ks).2) bg1_3 tm1_4 ka1_5 kb1_6 va1_7 vb1_8 c1_ tp 27 8 (by omega) (by omega)) (kw_V 2 hts bw4_70 bw4_72 bws_21 bw1_9 bw4_73 rfl rfl (by decide +kernel) ⟨Nat.le_of_ble_eq_true rfl, Nat.le_of_ble_eq_true rfl⟩) (kp_V (wc := [(aM, .inr (7, [.int 0, .ref a1, .int (nI ks), .int (nI dn), .ref a2, .ref a3, .ref a4, .ref a5, .ref a6, .int (nI xa1_1), .int ri1_2, .int ((mrd tp ks).1), .int ((mrd tp ks).2), .int bg1_3, .long tm1_4, .int ka1_5, .long kb1_6, .int va1_7, .long vb1_8])), (a1, .inl (c1_, 16384, .inl tp))]) (tc := [(c1_, .int)]) (As := [.int 27, .int 8]) hG hS hA hP hD hK [0, 1] rfl (by decide) rfl [0] rfl (ci := 7) (q0 := 0) rfl rfl) rfl rfl hl.1 rfl (lv_room (Nat.le_of_ble_eq_true rfl)) dc_M_head_77 ⟨Nat.zero_le _, Nat.zero_le _⟩) (fun r_13 _ H locs hw hP hD hK1 hS => ?_)
        have hw : mnum tp 27 8 = r_13 := hw.symm
        subst hw
        have hP : va_P (dC, dI) vwCl [(aM, .inr (7, [.int 0, .ref a1, .int (nI ks), .int (nI dn), .ref a2, .ref a3, .ref a4, .ref a5, .ref a6, .int (nI xa1_1), .int ri1_2, .int ((mrd tp ks).1), .int ((mrd tp ks).2), .int bg1_3, .long tm1_4, .int ka1_5, .long kb1_6, .int va1_7, .long vb1_8])), (a1, .inl (c1_, 16384, .inl tp))] H := hP
        have hD : va_D A [(aM, .inr (7, [.int 0, .ref a1, .int (nI ks), .int (nI dn), .ref a2, .ref a3, .ref a4, .ref a5, .ref a6, .int (nI xa1_1), .int ri1_2, .int ((mrd tp ks).1), .int ((mrd tp ks).2), .int bg1_3, .long tm1_4, .int ka1_5, .long kb1_6, .int va1_7, .long vb1_8])), (a1, .inl (c1_, 16384, .inl tp))] := hD
        have hP9 := hP.sub (ws' := [(aM, .inr (7, [.int 0, .ref a1, .int (nI ks), .int (nI dn), .ref a2, .ref a3, .ref a4, .ref a5, .ref a6, .int (nI xa1_1), .int ri1_2, .int ((mrd tp ks).1), .int ((mrd tp ks).2), .int bg1_3, .long tm1_4, .int ka1_5, .long kb1_6, .int va1_7, .long vb1_8])), (a1, .inl (c1_, 16384, .inl tp))]) [0, 1] rfl
        have hD9 := hD.sub (ws' := [(aM, .inr (7, [.int 0, .ref a1, .int (nI ks), .int (nI dn), .ref a2, .ref a3, .ref a4, .ref a5, .ref a6, .int (nI xa1_1), .int ri1_2, .int ((mrd tp ks).1), .int ((mrd tp ks).2), .int bg1_3, .long tm1_4, .int ka1_5, .long kb1_6, .int va1_7, .long vb1_8])), (a1, .inl (c1_, 16384, .inl tp))]) [0, 1] (by decide) rfl
        have hK9 := hK.sub (tys' := [(c1_, .int)]) [0] rfl
        exact W.lret (v := (mnum tp 27 8)) hx hb hr (fun t ht hW => ⟨⟨(mnum tp 27 8), (xa1_1, ri1_2, bg1_3, tm1_4, ka1_5, kb1_6, va1_7, vb1_8), rfl, by unfold mhd; rw [if_pos c_12], by rw [ht]; exact hP9, va_K.moved hW.alike hK9, hD9⟩, hS.F ht⟩) hS.2.2 dc_M_head_80
      by_cases c_14 : x = 1
      · refine lv_tableIn (off := 42) (tgt := 81) hx hb dc_M_head_39 (by rw [c_14]; decide) (by rw [c_14]; decide) (by rw [c_14]; rfl) (by decide) ?_
        have hs1 := c_14
        refine lv_aload_n hx hb dc_M_head_81 rfl (lv_at hl 0 rfl) ?_
        refine lv_bipush (v := 35) hx hb dc_M_head_82 (by decide) ?_
        refine lv_bipush (v := 8) hx hb dc_M_head_84 (by decide) ?_
        refine kc_l (wc := [(aM, .inr (7, [.int 0, .ref a1, .int (nI ks), .int (nI dn), .ref a2, .ref a3, .ref a4, .ref a5, .ref a6, .int (nI xa1_1), .int ri1_2, .int ((mrd tp ks).1), .int ((mrd tp ks).2), .int bg1_3, .long tm1_4, .int ka1_5, .long kb1_6, .int va1_7, .long vb1_8])), (a1, .inl (c1_, 16384, .inl tp))]) (wr := []) hP hD hS hA [0, 1] [] rfl rfl (by decide) (by decide) (va_runV (As := [.int 35, .int 8]) (rest := []) ⟨hx, hb, hml, hown, hts⟩ (c_M_number l dC dI _ aM 0 a1 ks dn a2 a3 a4 a5 a6 xa1_1 ri1_2 ((mrd tp ks).1) ((mrd tp ks).2) bg1_3 tm1_4 ka1_5 kb1_6 va1_7 vb1_8 c1_ tp 35 8 (by omega) (by omega)) (kw_V 2 hts bw4_70 bw4_72 bws_21 bw1_9 bw4_73 rfl rfl (by decide +kernel) ⟨Nat.le_of_ble_eq_true rfl, Nat.le_of_ble_eq_true rfl⟩) (kp_V (wc := [(aM, .inr (7, [.int 0, .ref a1, .int (nI ks), .int (nI dn), .ref a2, .ref a3, .ref a4, .ref a5, .ref a6, .int (nI xa1_1), .int ri1_2, .int ((mrd tp ks).1), .int ((mrd tp ks).2), .int bg1_3, .long tm1_4, .int ka1_5, .long kb1_6, .int va1_7, .long vb1_8])), (a1, .inl (c1_, 16384, .inl tp))]) (tc := [(c1_, .int)]) (As := [.int 35, .int 8]) hG hS hA hP hD hK [0, 1] rfl (by decide) rfl [0] rfl (ci := 7) (q0 := 0) rfl rfl) rfl rfl hl.1 rfl (lv_room (Nat.le_of_ble_eq_true rfl)) dc_M_head_86 ⟨Nat.zero_le _, Nat.zero_le _⟩) (fun r_15 _ H locs hw hP hD hK1 hS => ?_)
        have hw : mnum tp 35 8 = r_15 := hw.symm
        subst hw
        have hP : va_P (dC, dI) vwCl [(aM, .inr (7, [.int 0, .ref a1, .int (nI ks), .int (nI dn), .ref a2, .ref a3, .ref a4, .ref a5, .ref a6, .int (nI xa1_1), .int ri1_2, .int ((mrd tp ks).1), .int ((mrd tp ks).2), .int bg1_3, .long tm1_4, .int ka1_5, .long kb1_6, .int va1_7, .long vb1_8])), (a1, .inl (c1_, 16384, .inl tp))] H := hP
        have hD : va_D A [(aM, .inr (7, [.int 0, .ref a1, .int (nI ks), .int (nI dn), .ref a2, .ref a3, .ref a4, .ref a5, .ref a6, .int (nI xa1_1), .int ri1_2, .int ((mrd tp ks).1), .int ((mrd tp ks).2), .int bg1_3, .long tm1_4, .int ka1_5, .long kb1_6, .int va1_7, .long vb1_8])), (a1, .inl (c1_, 16384, .inl tp))] := hD
        have hP9 := hP.sub (ws' := [(aM, .inr (7, [.int 0, .ref a1, .int (nI ks), .int (nI dn), .ref a2, .ref a3, .ref a4, .ref a5, .ref a6, .int (nI xa1_1), .int ri1_2, .int ((mrd tp ks).1), .int ((mrd tp ks).2), .int bg1_3, .long tm1_4, .int ka1_5, .long kb1_6, .int va1_7, .long vb1_8])), (a1, .inl (c1_, 16384, .inl tp))]) [0, 1] rfl
        have hD9 := hD.sub (ws' := [(aM, .inr (7, [.int 0, .ref a1, .int (nI ks), .int (nI dn), .ref a2, .ref a3, .ref a4, .ref a5, .ref a6, .int (nI xa1_1), .int ri1_2, .int ((mrd tp ks).1), .int ((mrd tp ks).2), .int bg1_3, .long tm1_4, .int ka1_5, .long kb1_6, .int va1_7, .long vb1_8])), (a1, .inl (c1_, 16384, .inl tp))]) [0, 1] (by decide) rfl
        have hK9 := hK.sub (tys' := [(c1_, .int)]) [0] rfl
        exact W.lret (v := (mnum tp 35 8)) hx hb hr (fun t ht hW => ⟨⟨(mnum tp 35 8), (xa1_1, ri1_2, bg1_3, tm1_4, ka1_5, kb1_6, va1_7, vb1_8), rfl, by unfold mhd; rw [if_neg c_12, if_pos c_14], by rw [ht]; exact hP9, va_K.moved hW.alike hK9, hD9⟩, hS.F ht⟩) hS.2.2 dc_M_head_89
      by_cases c_16 : x = 2
      · refine lv_tableIn (off := 51) (tgt := 90) hx hb dc_M_head_39 (by rw [c_16]; decide) (by rw [c_16]; decide) (by rw [c_16]; rfl) (by decide) ?_
        have hs2 := c_16
        refine lv_aload_n hx hb dc_M_head_90 rfl (lv_at hl 0 rfl) ?_
        refine lv_bipush (v := 43) hx hb dc_M_head_91 (by decide) ?_
        refine lv_bipush (v := 8) hx hb dc_M_head_93 (by decide) ?_
        refine kc_l (wc := [(aM, .inr (7, [.int 0, .ref a1, .int (nI ks), .int (nI dn), .ref a2, .ref a3, .ref a4, .ref a5, .ref a6, .int (nI xa1_1), .int ri1_2, .int ((mrd tp ks).1), .int ((mrd tp ks).2), .int bg1_3, .long tm1_4, .int ka1_5, .long kb1_6, .int va1_7, .long vb1_8])), (a1, .inl (c1_, 16384, .inl tp))]) (wr := []) hP hD hS hA [0, 1] [] rfl rfl (by decide) (by decide) (va_runV (As := [.int 43, .int 8]) (rest := []) ⟨hx, hb, hml, hown, hts⟩ (c_M_number l dC dI _ aM 0 a1 ks dn a2 a3 a4 a5 a6 xa1_1 ri1_2 ((mrd tp ks).1) ((mrd tp ks).2) bg1_3 tm1_4 ka1_5 kb1_6 va1_7 vb1_8 c1_ tp 43 8 (by omega) (by omega)) (kw_V 2 hts bw4_70 bw4_72 bws_21 bw1_9 bw4_73 rfl rfl (by decide +kernel) ⟨Nat.le_of_ble_eq_true rfl, Nat.le_of_ble_eq_true rfl⟩) (kp_V (wc := [(aM, .inr (7, [.int 0, .ref a1, .int (nI ks), .int (nI dn), .ref a2, .ref a3, .ref a4, .ref a5, .ref a6, .int (nI xa1_1), .int ri1_2, .int ((mrd tp ks).1), .int ((mrd tp ks).2), .int bg1_3, .long tm1_4, .int ka1_5, .long kb1_6, .int va1_7, .long vb1_8])), (a1, .inl (c1_, 16384, .inl tp))]) (tc := [(c1_, .int)]) (As := [.int 43, .int 8]) hG hS hA hP hD hK [0, 1] rfl (by decide) rfl [0] rfl (ci := 7) (q0 := 0) rfl rfl) rfl rfl hl.1 rfl (lv_room (Nat.le_of_ble_eq_true rfl)) dc_M_head_95 ⟨Nat.zero_le _, Nat.zero_le _⟩) (fun r_17 _ H locs hw hP hD hK1 hS => ?_)
        have hw : mnum tp 43 8 = r_17 := hw.symm
        subst hw
        have hP : va_P (dC, dI) vwCl [(aM, .inr (7, [.int 0, .ref a1, .int (nI ks), .int (nI dn), .ref a2, .ref a3, .ref a4, .ref a5, .ref a6, .int (nI xa1_1), .int ri1_2, .int ((mrd tp ks).1), .int ((mrd tp ks).2), .int bg1_3, .long tm1_4, .int ka1_5, .long kb1_6, .int va1_7, .long vb1_8])), (a1, .inl (c1_, 16384, .inl tp))] H := hP
        have hD : va_D A [(aM, .inr (7, [.int 0, .ref a1, .int (nI ks), .int (nI dn), .ref a2, .ref a3, .ref a4, .ref a5, .ref a6, .int (nI xa1_1), .int ri1_2, .int ((mrd tp ks).1), .int ((mrd tp ks).2), .int bg1_3, .long tm1_4, .int ka1_5, .long kb1_6, .int va1_7, .long vb1_8])), (a1, .inl (c1_, 16384, .inl tp))] := hD
        have hP9 := hP.sub (ws' := [(aM, .inr (7, [.int 0, .ref a1, .int (nI ks), .int (nI dn), .ref a2, .ref a3, .ref a4, .ref a5, .ref a6, .int (nI xa1_1), .int ri1_2, .int ((mrd tp ks).1), .int ((mrd tp ks).2), .int bg1_3, .long tm1_4, .int ka1_5, .long kb1_6, .int va1_7, .long vb1_8])), (a1, .inl (c1_, 16384, .inl tp))]) [0, 1] rfl
        have hD9 := hD.sub (ws' := [(aM, .inr (7, [.int 0, .ref a1, .int (nI ks), .int (nI dn), .ref a2, .ref a3, .ref a4, .ref a5, .ref a6, .int (nI xa1_1), .int ri1_2, .int ((mrd tp ks).1), .int ((mrd tp ks).2), .int bg1_3, .long tm1_4, .int ka1_5, .long kb1_6, .int va1_7, .long vb1_8])), (a1, .inl (c1_, 16384, .inl tp))]) [0, 1] (by decide) rfl
        have hK9 := hK.sub (tys' := [(c1_, .int)]) [0] rfl
        exact W.lret (v := (mnum tp 43 8)) hx hb hr (fun t ht hW => ⟨⟨(mnum tp 43 8), (xa1_1, ri1_2, bg1_3, tm1_4, ka1_5, kb1_6, va1_7, vb1_8), rfl, by unfold mhd; rw [if_neg c_12, if_neg c_14, if_pos c_16], by rw [ht]; exact hP9, va_K.moved hW.alike hK9, hD9⟩, hS.F ht⟩) hS.2.2 dc_M_head_98
      by_cases c_18 : x = 3
      · refine lv_tableIn (off := 60) (tgt := 99) hx hb dc_M_head_39 (by rw [c_18]; decide) (by rw [c_18]; decide) (by rw [c_18]; rfl) (by decide) ?_
        have hs3 := c_18
        refine lv_aload_n hx hb dc_M_head_99 rfl (lv_at hl 0 rfl) ?_
        refine lv_bipush (v := 51) hx hb dc_M_head_100 (by decide) ?_
        refine lv_iconst (v := 2) hx hb dc_M_head_102 (by decide) ?_
        refine kc_l (wc := [(aM, .inr (7, [.int 0, .ref a1, .int (nI ks), .int (nI dn), .ref a2, .ref a3, .ref a4, .ref a5, .ref a6, .int (nI xa1_1), .int ri1_2, .int ((mrd tp ks).1), .int ((mrd tp ks).2), .int bg1_3, .long tm1_4, .int ka1_5, .long kb1_6, .int va1_7, .long vb1_8])), (a1, .inl (c1_, 16384, .inl tp))]) (wr := []) hP hD hS hA [0, 1] [] rfl rfl (by decide) (by decide) (va_runV (As := [.int 51, .int 2]) (rest := []) ⟨hx, hb, hml, hown, hts⟩ (c_M_number l dC dI _ aM 0 a1 ks dn a2 a3 a4 a5 a6 xa1_1 ri1_2 ((mrd tp ks).1) ((mrd tp ks).2) bg1_3 tm1_4 ka1_5 kb1_6 va1_7 vb1_8 c1_ tp 51 2 (by omega) (by omega)) (kw_V 2 hts bw4_70 bw4_72 bws_21 bw1_9 bw4_73 rfl rfl (by decide +kernel) ⟨Nat.le_of_ble_eq_true rfl, Nat.le_of_ble_eq_true rfl⟩) (kp_V (wc := [(aM, .inr (7, [.int 0, .ref a1, .int (nI ks), .int (nI dn), .ref a2, .ref a3, .ref a4, .ref a5, .ref a6, .int (nI xa1_1), .int ri1_2, .int ((mrd tp ks).1), .int ((mrd tp ks).2), .int bg1_3, .long tm1_4, .int ka1_5, .long kb1_6, .int va1_7, .long vb1_8])), (a1, .inl (c1_, 16384, .inl tp))]) (tc := [(c1_, .int)]) (As := [.int 51, .int 2]) hG hS hA hP hD hK [0, 1] rfl (by decide) rfl [0] rfl (ci := 7) (q0 := 0) rfl rfl) rfl rfl hl.1 rfl (lv_room (Nat.le_of_ble_eq_true rfl)) dc_M_head_103 ⟨Nat.zero_le _, Nat.zero_le _⟩) (fun r_19 _ H locs hw hP hD hK1 hS => ?_)
        have hw : mnum tp 51 2 = r_19 := hw.symm
        subst hw
        have hP : va_P (dC, dI) vwCl [(aM, .inr (7, [.int 0, .ref a1, .int (nI ks), .int (nI dn), .ref a2, .ref a3, .ref a4, .ref a5, .ref a6, .int (nI xa1_1), .int ri1_2, .int ((mrd tp ks).1), .int ((mrd tp ks).2), .int bg1_3, .long tm1_4, .int ka1_5, .long kb1_6, .int va1_7, .long vb1_8])), (a1, .inl (c1_, 16384, .inl tp))] H := hP
        have hD : va_D A [(aM, .inr (7, [.int 0, .ref a1, .int (nI ks), .int (nI dn), .ref a2, .ref a3, .ref a4, .ref a5, .ref a6, .int (nI xa1_1), .int ri1_2, .int ((mrd tp ks).1), .int ((mrd tp ks).2), .int bg1_3, .long tm1_4, .int ka1_5, .long kb1_6, .int va1_7, .long vb1_8])), (a1, .inl (c1_, 16384, .inl tp))] := hD
        have hP9 := hP.sub (ws' := [(aM, .inr (7, [.int 0, .ref a1, .int (nI ks), .int (nI dn), .ref a2, .ref a3, .ref a4, .ref a5, .ref a6, .int (nI xa1_1), .int ri1_2, .int ((mrd tp ks).1), .int ((mrd tp ks).2), .int bg1_3, .long tm1_4, .int ka1_5, .long kb1_6, .int va1_7, .long vb1_8])), (a1, .inl (c1_, 16384, .inl tp))]) [0, 1] rfl
        have hD9 := hD.sub (ws' := [(aM, .inr (7, [.int 0, .ref a1, .int (nI ks), .int (nI dn), .ref a2, .ref a3, .ref a4, .ref a5, .ref a6, .int (nI xa1_1), .int ri1_2, .int ((mrd tp ks).1), .int ((mrd tp ks).2), .int bg1_3, .long tm1_4, .int ka1_5, .long kb1_6, .int va1_7, .long vb1_8])), (a1, .inl (c1_, 16384, .inl tp))]) [0, 1] (by decide) rfl
        have hK9 := hK.sub (tys' := [(c1_, .int)]) [0] rfl
        exact W.lret (v := (mnum tp 51 2)) hx hb hr (fun t ht hW => ⟨⟨(mnum tp 51 2), (xa1_1, ri1_2, bg1_3, tm1_4, ka1_5, kb1_6, va1_7, vb1_8), rfl, by unfold mhd; rw [if_neg c_12, if_neg c_14, if_neg c_16, if_pos c_18], by rw [ht]; exact hP9, va_K.moved hW.alike hK9, hD9⟩, hS.F ht⟩) hS.2.2 dc_M_head_106
      by_cases c_20 : x = 4
      · refine lv_tableIn (off := 68) (tgt := 107) hx hb dc_M_head_39 (by rw [c_20]; decide) (by rw [c_20]; decide) (by rw [c_20]; rfl) (by decide) ?_
        have hs4 := c_20
        refine lv_aload_n hx hb dc_M_head_107 rfl (lv_at hl 0 rfl) ?_
        refine lv_bipush (v := 53) hx hb dc_M_head_108 (by decide) ?_
        refine lv_iconst (v := 4) hx hb dc_M_head_110 (by decide) ?_
        refine kc_l (wc := [(aM, .inr (7, [.int 0, .ref a1, .int (nI ks), .int (nI dn), .ref a2, .ref a3, .ref a4, .ref a5, .ref a6, .int (nI xa1_1), .int ri1_2, .int ((mrd tp ks).1), .int ((mrd tp ks).2), .int bg1_3, .long tm1_4, .int ka1_5, .long kb1_6, .int va1_7, .long vb1_8])), (a1, .inl (c1_, 16384, .inl tp))]) (wr := []) hP hD hS hA [0, 1] [] rfl rfl (by decide) (by decide) (va_runV (As := [.int 53, .int 4]) (rest := []) ⟨hx, hb, hml, hown, hts⟩ (c_M_number l dC dI _ aM 0 a1 ks dn a2 a3 a4 a5 a6 xa1_1 ri1_2 ((mrd tp ks).1) ((mrd tp ks).2) bg1_3 tm1_4 ka1_5 kb1_6 va1_7 vb1_8 c1_ tp 53 4 (by omega) (by omega)) (kw_V 2 hts bw4_70 bw4_72 bws_21 bw1_9 bw4_73 rfl rfl (by decide +kernel) ⟨Nat.le_of_ble_eq_true rfl, Nat.le_of_ble_eq_true rfl⟩) (kp_V (wc := [(aM, .inr (7, [.int 0, .ref a1, .int (nI ks), .int (nI dn), .ref a2, .ref a3, .ref a4, .ref a5, .ref a6, .int (nI xa1_1), .int ri1_2, .int ((mrd tp ks).1), .int ((mrd tp ks).2), .int bg1_3, .long tm1_4, .int ka1_5, .long kb1_6, .int va1_7, .long vb1_8])), (a1, .inl (c1_, 16384, .inl tp))]) (tc := [(c1_, .int)]) (As := [.int 53, .int 4]) hG hS hA hP hD hK [0, 1] rfl (by decide) rfl [0] rfl (ci := 7) (q0 := 0) rfl rfl) rfl rfl hl.1 rfl (lv_room (Nat.le_of_ble_eq_true rfl)) dc_M_head_111 ⟨Nat.zero_le _, Nat.zero_le _⟩) (fun r_21 _ H locs hw hP hD hK1 hS => ?_)
        have hw : mnum tp 53 4 = r_21 := hw.symm
        subst hw
        have hP : va_P (dC, dI) vwCl [(aM, .inr (7, [.int 0, .ref a1, .int (nI ks), .int (nI dn), .ref a2, .ref a3, .ref a4, .ref a5, .ref a6, .int (nI xa1_1), .int ri1_2, .int ((mrd tp ks).1), .int ((mrd tp ks).2), .int bg1_3, .long tm1_4, .int ka1_5, .long kb1_6, .int va1_7, .long vb1_8])), (a1, .inl (c1_, 16384, .inl tp))] H := hP
        have hD : va_D A [(aM, .inr (7, [.int 0, .ref a1, .int (nI ks), .int (nI dn), .ref a2, .ref a3, .ref a4, .ref a5, .ref a6, .int (nI xa1_1), .int ri1_2, .int ((mrd tp ks).1), .int ((mrd tp ks).2), .int bg1_3, .long tm1_4, .int ka1_5, .long kb1_6, .int va1_7, .long vb1_8])), (a1, .inl (c1_, 16384, .inl tp))] := hD
        have hP9 := hP.sub (ws' := [(aM, .inr (7, [.int 0, .ref a1, .int (nI ks), .int (nI dn), .ref a2, .ref a3, .ref a4, .ref a5, .ref a6, .int (nI xa1_1), .int ri1_2, .int ((mrd tp ks).1), .int ((mrd tp ks).2), .int bg1_3, .long tm1_4, .int ka1_5, .long kb1_6, .int va1_7, .long vb1_8])), (a1, .inl (c1_, 16384, .inl tp))]) [0, 1] rfl
        have hD9 := hD.sub (ws' := [(aM, .inr (7, [.int 0, .ref a1, .int (nI ks), .int (nI dn), .ref a2, .ref a3, .ref a4, .ref a5, .ref a6, .int (nI xa1_1), .int ri1_2, .int ((mrd tp ks).1), .int ((mrd tp ks).2), .int bg1_3, .long tm1_4, .int ka1_5, .long kb1_6, .int va1_7, .long vb1_8])), (a1, .inl (c1_, 16384, .inl tp))]) [0, 1] (by decide) rfl
        have hK9 := hK.sub (tys' := [(c1_, .int)]) [0] rfl
        exact W.lret (v := (mnum tp 53 4)) hx hb hr (fun t ht hW => ⟨⟨(mnum tp 53 4), (xa1_1, ri1_2, bg1_3, tm1_4, ka1_5, kb1_6, va1_7, vb1_8), rfl, by unfold mhd; rw [if_neg c_12, if_neg c_14, if_neg c_16, if_neg c_18, if_pos c_20], by rw [ht]; exact hP9, va_K.moved hW.alike hK9, hD9⟩, hS.F ht⟩) hS.2.2 dc_M_head_114
      refine lv_tableOut (tgt := 115) hx hb dc_M_head_39 (sw_out4 c_12 c_14 c_16 c_18 c_20) (by decide) ?_
      refine lv_aload_n hx hb dc_M_head_115 rfl (lv_at hl 0 rfl) ?_
      refine lv_bipush (v := 57) hx hb dc_M_head_116 (by decide) ?_
      refine lv_iconst (v := 4) hx hb dc_M_head_118 (by decide) ?_
      refine kc_l (wc := [(aM, .inr (7, [.int 0, .ref a1, .int (nI ks), .int (nI dn), .ref a2, .ref a3, .ref a4, .ref a5, .ref a6, .int (nI xa1_1), .int ri1_2, .int ((mrd tp ks).1), .int ((mrd tp ks).2), .int bg1_3, .long tm1_4, .int ka1_5, .long kb1_6, .int va1_7, .long vb1_8])), (a1, .inl (c1_, 16384, .inl tp))]) (wr := []) hP hD hS hA [0, 1] [] rfl rfl (by decide) (by decide) (va_runV (As := [.int 57, .int 4]) (rest := []) ⟨hx, hb, hml, hown, hts⟩ (c_M_number l dC dI _ aM 0 a1 ks dn a2 a3 a4 a5 a6 xa1_1 ri1_2 ((mrd tp ks).1) ((mrd tp ks).2) bg1_3 tm1_4 ka1_5 kb1_6 va1_7 vb1_8 c1_ tp 57 4 (by omega) (by omega)) (kw_V 2 hts bw4_70 bw4_72 bws_21 bw1_9 bw4_73 rfl rfl (by decide +kernel) ⟨Nat.le_of_ble_eq_true rfl, Nat.le_of_ble_eq_true rfl⟩) (kp_V (wc := [(aM, .inr (7, [.int 0, .ref a1, .int (nI ks), .int (nI dn), .ref a2, .ref a3, .ref a4, .ref a5, .ref a6, .int (nI xa1_1), .int ri1_2, .int ((mrd tp ks).1), .int ((mrd tp ks).2), .int bg1_3, .long tm1_4, .int ka1_5, .long kb1_6, .int va1_7, .long vb1_8])), (a1, .inl (c1_, 16384, .inl tp))]) (tc := [(c1_, .int)]) (As := [.int 57, .int 4]) hG hS hA hP hD hK [0, 1] rfl (by decide) rfl [0] rfl (ci := 7) (q0 := 0) rfl rfl) rfl rfl hl.1 rfl (lv_room (Nat.le_of_ble_eq_true rfl)) dc_M_head_119 ⟨Nat.zero_le _, Nat.zero_le _⟩) (fun r_22 _ H locs hw hP hD hK1 hS => ?_)
      have hw : mnum tp 57 4 = r_22 := hw.symm
      subst hw
      have hP : va_P (dC, dI) vwCl [(aM, .inr (7, [.int 0, .ref a1, .int (nI ks), .int (nI dn), .ref a2, .ref a3, .ref a4, .ref a5, .ref a6, .int (nI xa1_1), .int ri1_2, .int ((mrd tp ks).1), .int ((mrd tp ks).2), .int bg1_3, .long tm1_4, .int ka1_5, .long kb1_6, .int va1_7, .long vb1_8])), (a1, .inl (c1_, 16384, .inl tp))] H := hP
      have hD : va_D A [(aM, .inr (7, [.int 0, .ref a1, .int (nI ks), .int (nI dn), .ref a2, .ref a3, .ref a4, .ref a5, .ref a6, .int (nI xa1_1), .int ri1_2, .int ((mrd tp ks).1), .int ((mrd tp ks).2), .int bg1_3, .long tm1_4, .int ka1_5, .long kb1_6, .int va1_7, .long vb1_8])), (a1, .inl (c1_, 16384, .inl tp))] := hD
      have hP9 := hP.sub (ws' := [(aM, .inr (7, [.int 0, .ref a1, .int (nI ks), .int (nI dn), .ref a2, .ref a3, .ref a4, .ref a5, .ref a6, .int (nI xa1_1), .int ri1_2, .int ((mrd tp ks).1), .int ((mrd tp ks).2), .int bg1_3, .long tm1_4, .int ka1_5, .long kb1_6, .int va1_7, .long vb1_8])), (a1, .inl (c1_, 16384, .inl tp))]) [0, 1] rfl
      have hD9 := hD.sub (ws' := [(aM, .inr (7, [.int 0, .ref a1, .int (nI ks), .int (nI dn), .ref a2, .ref a3, .ref a4, .ref a5, .ref a6, .int (nI xa1_1), .int ri1_2, .int ((mrd tp ks).1), .int ((mrd tp ks).2), .int bg1_3, .long tm1_4, .int ka1_5, .long kb1_6, .int va1_7, .long vb1_8])), (a1, .inl (c1_, 16384, .inl tp))]) [0, 1] (by decide) rfl
      have hK9 := hK.sub (tys' := [(c1_, .int)]) [0] rfl
      exact W.lret (v := (mnum tp 57 4)) hx hb hr (fun t ht hW => ⟨⟨(mnum tp 57 4), (xa1_1, ri1_2, bg1_3, tm1_4, ka1_5, kb1_6, va1_7, vb1_8), rfl, by unfold mhd; rw [if_neg c_12, if_neg c_14, if_neg c_16, if_neg c_18, if_neg c_20], by rw [ht]; exact hP9, va_K.moved hW.alike hK9, hD9⟩, hS.F ht⟩) hS.2.2 dc_M_head_122
    · exact absurd (by decide) c_11
  · refine lv_if_gt (tgt := 21) hx hb dc_M_head_9 (by decide) (fun c_23 => ?_) (fun c_23 => ?_)
    · exfalso; exact hF c_23
    · refine lv_iload_n hx hb dc_M_head_12 rfl (lv_at hl 1 rfl) ?_
      refine lv_if_lt (tgt := 21) hx hb dc_M_head_13 (by decide) (fun c_24 => ?_) (fun c_24 => ?_)
      · exfalso; exact hx0 c_24
      · refine lv_iload_n hx hb dc_M_head_16 rfl (lv_at hl 1 rfl) ?_
        refine lv_iconst (v := 5) hx hb dc_M_head_17 (by decide) ?_
        refine lv_icmp_le (tgt := 25) hx hb dc_M_head_18 (by decide) (fun c_25 => ?_) (fun c_25 => ?_)
        · refine lv_iconst (v := 0) hx hb dc_M_head_25 (by decide) ?_
          exact hJ26 () _ _ _ ⟨hP.sub [0, 1] rfl, hD.sub [0, 1] (by decide) rfl, hS, lv_sub hl [0, 1] rfl⟩
        · exact absurd (hx5) c_25

set_option maxHeartbeats 1000000 in
set_option maxRecDepth 100000 in
theorem c_M_head_bad (l : Launch) (dC : Nat → ClassId) (dI : Nat → Nat → Nat) (sz : Nat) (aM : Nat) (co : Int32) (a1 : Nat) (ks : Nat) (dn : Nat) (a2 : Nat) (a3 : Nat) (a4 : Nat) (a5 : Nat) (a6 : Nat) (xa : Nat) (ri : Int32) (fa : Int32) (fq : Int32) (bg : Int32) (tm : Int64) (ka : Int32) (kb : Int64) (va : Int32) (vb : Int64) (c1_ : ClassId) (tp : Nat → Int32) (x : Int32) (hk : ks ≤ 16384) (hj : 0 < (mrd tp ks).1 ∨ x < 0 ∨ ¬ x ≤ 5) : Met l my_M_head (wB my_M_head cd_M_head 2 (some .long)) ({ frames := 4, cells := 0, slots := 0, locals := 99 }) (va_Pc [.ref aM, .int x] (PcW (dC, dI) [(aM, .inr (7, [.int co, .ref a1, .int (nI ks), .int (nI dn), .ref a2, .ref a3, .ref a4, .ref a5, .ref a6, .int (nI xa), .int ri, .int fa, .int fq, .int bg, .long tm, .int ka, .long kb, .int va, .long vb])), (a1, .inl (c1_, 16384, .inl tp))] [(c1_, .int)] sz)) (va_Ql (fun (r : Int64) => fun (u : Nat × Int32 × Int32 × Int64 × Int32 × Int64 × Int32 × Int64) => r = 0) (fun u => EnW (dC, dI) (va_A [(aM, .inr (7, [.int co, .ref a1, .int (nI ks), .int (nI dn), .ref a2, .ref a3, .ref a4, .ref a5, .ref a6, .int (nI xa), .int ri, .int fa, .int fq, .int bg, .long tm, .int ka, .long kb, .int va, .long vb])), (a1, .inl (c1_, 16384, .inl tp))] sz) [(aM, .inr (7, [.int 1, .ref a1, .int (nI ks), .int (nI dn), .ref a2, .ref a3, .ref a4, .ref a5, .ref a6, .int (nI u.1), .int u.2.1, .int ((mrd tp ks).1), .int ((mrd tp ks).2), .int u.2.2.1, .long u.2.2.2.1, .int u.2.2.2.2.1, .long u.2.2.2.2.2.1, .int u.2.2.2.2.2.2.1, .long u.2.2.2.2.2.2.2])), (a1, .inl (c1_, 16384, .inl tp))] [(c1_, .int)]) (va_A [(aM, .inr (7, [.int co, .ref a1, .int (nI ks), .int (nI dn), .ref a2, .ref a3, .ref a4, .ref a5, .ref a6, .int (nI xa), .int ri, .int fa, .int fq, .int bg, .long tm, .int ka, .long kb, .int va, .long vb])), (a1, .inl (c1_, 16384, .inl tp))] sz)) 0 0 (va_A [(aM, .inr (7, [.int co, .ref a1, .int (nI ks), .int (nI dn), .ref a2, .ref a3, .ref a4, .ref a5, .ref a6, .int (nI xa), .int ri, .int fa, .int fq, .int bg, .long tm, .int ka, .long kb, .int va, .long vb])), (a1, .inl (c1_, 16384, .inl tp))] sz) := by
  refine Met.ofW (cc := cd_M_head) (maxL := 2) (ret := (some .long)) (by decide) rfl ?_
  intro p e s m args below meth c s₁ B hml hv
  obtain ⟨rfl, hsz, hP, hK, hD0, hG⟩ := hv
  have hx := B.exec
  have hb := B.bytes
  have hr := B.returns
  have hts := fun (w : Cond) (h : w ∈ bigT) => atoms_spec (ws := (wB my_M_head cd_M_head 2 (some .long))) B.pre w (List.mem_cons_of_mem _ h)
  have hown : s.vm.findClass rn_M = some m.cls := findClass_of_methodNamed B.named
  have hlocks := B.notSynchronized
  subst hsz
  have hD := hD0.self (sz := s.heap.size)
  generalize hAe : va_A [(aM, .inr (7, [.int co, .ref a1, .int (nI ks), .int (nI dn), .ref a2, .ref a3, .ref a4, .ref a5, .ref a6, .int (nI xa), .int ri, .int fa, .int fq, .int bg, .long tm, .int ka, .long kb, .int va, .long vb])), (a1, .inl (c1_, 16384, .inl tp))] s.heap.size = A at hD hG ⊢
  have hA : ∀ q : Nat, s.heap.size ≤ q → A q := fun q h => by rw [← hAe]; exact Or.inr h
  have hS : va_S A s.heap s.heap [] := va_S.rf
  have hP : va_P (dC, dI) vwCl [(aM, .inr (7, [.int co, .ref a1, .int (nI ks), .int (nI dn), .ref a2, .ref a3, .ref a4, .ref a5, .ref a6, .int (nI xa), .int ri, .int fa, .int fq, .int bg, .long tm, .int ka, .long kb, .int va, .long vb])), (a1, .inl (c1_, 16384, .inl tp))] s.heap := hP
  have hl := lv_entry ([.ref aM, .int x]) (n := 2) (Nat.le_of_ble_eq_true rfl)
  rw [lg_entry_eq]
  generalize (lg_sl ([.ref aM, .int x]) ++ List.replicate (2 - (lg_sl ([.ref aM, .int x])).length) Slot.unset).toArray = ls at hl ⊢
  have hl : lv_has ls 2 [(0, .ref aM), (1, .int x)] := hl
  refine lv_aload_n hx hb dc_M_head_0 rfl (lv_at hl 0 rfl) ?_
  refine kc_v (wc := [(aM, .inr (7, [.int co, .ref a1, .int (nI ks), .int (nI dn), .ref a2, .ref a3, .ref a4, .ref a5, .ref a6, .int (nI xa), .int ri, .int fa, .int fq, .int bg, .long tm, .int ka, .long kb, .int va, .long vb])), (a1, .inl (c1_, 16384, .inl tp))]) (wr := []) hP hD hS hA [0, 1] [] rfl rfl (by decide) (by decide) (va_runV (As := []) (rest := []) ⟨hx, hb, hml, hown, hts⟩ (c_M_read l dC dI _ aM co a1 ks dn a2 a3 a4 a5 a6 xa ri fa fq bg tm ka kb va vb c1_ tp (by omega)) (kw_V 0 hts bw4_66 bw4_68 bws_20 bw1_9 bw4_69 rfl rfl (by decide +kernel) ⟨Nat.le_of_ble_eq_true rfl, Nat.le_of_ble_eq_true rfl⟩) (kp_V (wc := [(aM, .inr (7, [.int co, .ref a1, .int (nI ks), .int (nI dn), .ref a2, .ref a3, .ref a4, .ref a5, .ref a6, .int (nI xa), .int ri, .int fa, .int fq, .int bg, .long tm, .int ka, .long kb, .int va, .long vb])), (a1, .inl (c1_, 16384, .inl tp))]) (tc := [(c1_, .int)]) (As := []) hG hS hA hP hD hK [0, 1] rfl (by decide) rfl [0] rfl (ci := 7) (q0 := 0) rfl rfl) rfl rfl hl.1 rfl (lv_room (Nat.le_of_ble_eq_true rfl)) dc_M_head_1 ⟨Nat.zero_le _, Nat.zero_le _⟩) (fun u_10 H locs hw hP hD hK1 hS => ?_)
  obtain ⟨xa1_1, ri1_2, bg1_3, tm1_4, ka1_5, kb1_6, va1_7, vb1_8⟩ := u_10
  have hP : va_P (dC, dI) vwCl [(aM, .inr (7, [.int co, .ref a1, .int (nI ks), .int (nI dn), .ref a2, .ref a3, .ref a4, .ref a5, .ref a6, .int (nI xa1_1), .int ri1_2, .int ((mrd tp ks).1), .int ((mrd tp ks).2), .int bg1_3, .long tm1_4, .int ka1_5, .long kb1_6, .int va1_7, .long vb1_8])), (a1, .inl (c1_, 16384, .inl tp))] H := hP
  have hD : va_D A [(aM, .inr (7, [.int co, .ref a1, .int (nI ks), .int (nI dn), .ref a2, .ref a3, .ref a4, .ref a5, .ref a6, .int (nI xa1_1), .int ri1_2, .int ((mrd tp ks).1), .int ((mrd tp ks).2), .int bg1_3, .long tm1_4, .int ka1_5, .long kb1_6, .int va1_7, .long vb1_8])), (a1, .inl (c1_, 16384, .inl tp))] := hD
  refine lv_aload_n hx hb dc_M_head_4 rfl (lv_at hl 0 rfl) ?_
  refine lv_aload_n hx hb dc_M_head_5 rfl (lv_at hl 0 rfl) ?_
  refine va_get (D := (dC, dI)) (ci := 7) (v := .int ((mrd tp ks).1)) (C := rn_M) (T := ft_M) (N := 19) hx hb hts fw_M hown hK hP 0 rfl rfl 11 (by decide) (hts _ bw3_170) (fun _ h9 => h9) rfl dc_M_head_6 ?_
  refine w_join (σ := Unit) (fun v26_ H locs ls => va_P (dC, dI) vwCl [(aM, .inr (7, [.int co, .ref a1, .int (nI ks), .int (nI dn), .ref a2, .ref a3, .ref a4, .ref a5, .ref a6, .int (nI xa1_1), .int ri1_2, .int ((mrd tp ks).1), .int ((mrd tp ks).2), .int bg1_3, .long tm1_4, .int ka1_5, .long kb1_6, .int va1_7, .long vb1_8])), (a1, .inl (c1_, 16384, .inl tp))] H ∧ va_D A [(aM, .inr (7, [.int co, .ref a1, .int (nI ks), .int (nI dn), .ref a2, .ref a3, .ref a4, .ref a5, .ref a6, .int (nI xa1_1), .int ri1_2, .int ((mrd tp ks).1), .int ((mrd tp ks).2), .int bg1_3, .long tm1_4, .int ka1_5, .long kb1_6, .int va1_7, .long vb1_8])), (a1, .inl (c1_, 16384, .inl tp))] ∧ va_S A s.heap H locs ∧ lv_has ls 2 [(0, .ref aM), (1, .int x)]) (fun v26_ ls => F0 m 26 ls [.int 1, .ref aM]) ?_ (fun hJ26 => ?_)
  · rintro v26_ H locs ls ⟨hP, hD, hS, hl⟩
    have hP : va_P (dC, dI) vwCl [(aM, .inr (7, [.int co, .ref a1, .int (nI ks), .int (nI dn), .ref a2, .ref a3, .ref a4, .ref a5, .ref a6, .int (nI xa1_1), .int ri1_2, .int ((mrd tp ks).1), .int ((mrd tp ks).2), .int bg1_3, .long tm1_4, .int ka1_5, .long kb1_6, .int va1_7, .long vb1_8])), (a1, .inl (c1_, 16384, .inl tp))] H := hP
    have hD : va_D A [(aM, .inr (7, [.int co, .ref a1, .int (nI ks), .int (nI dn), .ref a2, .ref a3, .ref a4, .ref a5, .ref a6, .int (nI xa1_1), .int ri1_2, .int ((mrd tp ks).1), .int ((mrd tp ks).2), .int bg1_3, .long tm1_4, .int ka1_5, .long kb1_6, .int va1_7, .long vb1_8])), (a1, .inl (c1_, 16384, .inl tp))] := hD
    have hl : lv_has ls 2 [(0, .ref aM), (1, .int x)] := hl
    show W _ _ _ _ _ _ _ _ _ _ _ _ _ _ _ (F0 m 26 ls [.int 1, .ref aM])
    refine va_put (D := (dC, dI)) (ci := 7) (v := .int 1) (ty := .int) (C := rn_M) (T := ft_M) (N := 19) hx hb hts fw_M fy_M fo_M fn_M hown hK hP hD hS 0 rfl rfl 0 (by decide) (hts _ bw3_159) (fun _ h9 => h9) rfl (by decide +kernel) rfl rfl (Nat.le_of_ble_eq_true rfl) dc_M_head_26 (fun H locs hP hD hS => ?_)
    have hP : va_P (dC, dI) vwCl [(aM, .inr (7, [.int 1, .ref a1, .int (nI ks), .int (nI dn), .ref a2, .ref a3, .ref a4, .ref a5, .ref a6, .int (nI xa1_1), .int ri1_2, .int ((mrd tp ks).1), .int ((mrd tp ks).2), .int bg1_3, .long tm1_4, .int ka1_5, .long kb1_6, .int va1_7, .long vb1_8])), (a1, .inl (c1_, 16384, .inl tp))] H := hP
    have hD : va_D A [(aM, .inr (7, [.int 1, .ref a1, .int (nI ks), .int (nI dn), .ref a2, .ref a3, .ref a4, .ref a5, .ref a6, .int (nI xa1_1), .int ri1_2, .int ((mrd tp ks).1), .int ((mrd tp ks).2), .int bg1_3, .long tm1_4, .int ka1_5, .long kb1_6, .int va1_7, .long vb1_8])), (a1, .inl (c1_, 16384, .inl tp))] := hD
    refine lv_aload_n hx hb dc_M_head_29 rfl (lv_at hl 0 rfl) ?_
    refine va_get (D := (dC, dI)) (ci := 7) (v := .int 1) (C := rn_M) (T := ft_M) (N := 19) hx hb hts fw_M hown hK hP 0 rfl rfl 0 (by decide) (hts _ bw3_159) (fun _ h9 => h9) rfl dc_M_head_30 ?_
    refine lv_if_le (tgt := 38) hx hb dc_M_head_33 (by decide) (fun c_11 => ?_) (fun c_11 => ?_)
    · exact absurd c_11 (by decide)
    · refine lv_lconst (v := 0) hx hb dc_M_head_36 rfl ?_
      have hP9 := hP.sub (ws' := [(aM, .inr (7, [.int 1, .ref a1, .int (nI ks), .int (nI dn), .ref a2, .ref a3, .ref a4, .ref a5, .ref a6, .int (nI xa1_1), .int ri1_2, .int ((mrd tp ks).1), .int ((mrd tp ks).2), .int bg1_3, .long tm1_4, .int ka1_5, .long kb1_6, .int va1_7, .long vb1_8])), (a1, .inl (c1_, 16384, .inl tp))]) [0, 1] rfl
      have hD9 := hD.sub (ws' := [(aM, .inr (7, [.int 1, .ref a1, .int (nI ks), .int (nI dn), .ref a2, .ref a3, .ref a4, .ref a5, .ref a6, .int (nI xa1_1), .int ri1_2, .int ((mrd tp ks).1), .int ((mrd tp ks).2), .int bg1_3, .long tm1_4, .int ka1_5, .long kb1_6, .int va1_7, .long vb1_8])), (a1, .inl (c1_, 16384, .inl tp))]) [0, 1] (by decide) rfl
      have hK9 := hK.sub (tys' := [(c1_, .int)]) [0] rfl
      exact W.lret (v := 0) hx hb hr (fun t ht hW => ⟨⟨0, (xa1_1, ri1_2, bg1_3, tm1_4, ka1_5, kb1_6, va1_7, vb1_8), rfl, rfl, by rw [ht]; exact hP9, va_K.moved hW.alike hK9, hD9⟩, hS.F ht⟩) hS.2.2 dc_M_head_37
  · refine lv_if_gt (tgt := 21) hx hb dc_M_head_9 (by decide) (fun c_12 => ?_) (fun c_12 => ?_)
    · refine lv_iconst (v := 1) hx hb dc_M_head_21 (by decide) ?_
      refine lv_goto (tgt := 26) hx hb dc_M_head_22 (by decide) ?_
      exact hJ26 () _ _ _ ⟨hP.sub [0, 1] rfl, hD.sub [0, 1] (by decide) rfl, hS, lv_sub hl [0, 1] rfl⟩
    · have h9 := c_12
      refine lv_iload_n hx hb dc_M_head_12 rfl (lv_at hl 1 rfl) ?_
      refine lv_if_lt (tgt := 21) hx hb dc_M_head_13 (by decide) (fun c_13 => ?_) (fun c_13 => ?_)
      · refine lv_iconst (v := 1) hx hb dc_M_head_21 (by decide) ?_
        refine lv_goto (tgt := 26) hx hb dc_M_head_22 (by decide) ?_
        exact hJ26 () _ _ _ ⟨hP.sub [0, 1] rfl, hD.sub [0, 1] (by decide) rfl, hS, lv_sub hl [0, 1] rfl⟩
      · have h13 := c_13
        refine lv_iload_n hx hb dc_M_head_16 rfl (lv_at hl 1 rfl) ?_
        refine lv_iconst (v := 5) hx hb dc_M_head_17 (by decide) ?_
        refine lv_icmp_le (tgt := 25) hx hb dc_M_head_18 (by decide) (fun c_14 => ?_) (fun c_14 => ?_)
        · exfalso; exact hj.elim h9 (fun h => h.elim h13 (fun h => h c_14))
        · refine lv_iconst (v := 1) hx hb dc_M_head_21 (by decide) ?_
          refine lv_goto (tgt := 26) hx hb dc_M_head_22 (by decide) ?_
          exact hJ26 () _ _ _ ⟨hP.sub [0, 1] rfl, hD.sub [0, 1] (by decide) rfl, hS, lv_sub hl [0, 1] rfl⟩
