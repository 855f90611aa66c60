set_option maxHeartbeats 1000000 in
set_option maxRecDepth 100000 in
theorem c_M_spoil_ok (l : Launch) (dC : Nat → ClassId) (dI : Nat → Nat → Nat) (sz : Nat) (aM : Nat) (co : Int32) (a1 : Nat) (ks : Nat) (dn : Nat) (a2 : Nat) (a3 : Nat) (a4 : Nat) (a5 : Nat) (a6 : Nat) (xa : Nat) (ri : Int32) (fa : Int32) (fq : Int32) (bg : Int32) (tm : Int64) (ka : Int32) (kb : Int64) (va : Int32) (vb : Int64) (c1_ : ClassId) (tp : Nat → Int32) (j : Nat) (x : Int32) (hk : ks ≤ 16384) (hj : j < ks) (hx0 : ¬ x < 0) (hx1 : x ≤ 255) : Met l my_M_spoil (wB my_M_spoil cd_M_spoil 3 (some .int)) ({ frames := 1, cells := 0, slots := 0, locals := 21 }) (va_Pc [.ref aM, .int (nI j), .int x] (PcW (dC, dI) [(aM, .inr (7, [.int co, .ref a1, .int (nI ks), .int (nI dn), .ref a2, .ref a3, .ref a4, .ref a5, .ref a6, .int (nI xa), .int ri, .int fa, .int fq, .int bg, .long tm, .int ka, .long kb, .int va, .long vb])), (a1, .inl (c1_, 16384, .inl tp))] [(c1_, .int)] sz)) (va_Qi (fun (r : Int32) => fun (_ : Unit) => r = tp j ^^^ x) (fun _ => EnW (dC, dI) (va_A [(aM, .inr (7, [.int co, .ref a1, .int (nI ks), .int (nI dn), .ref a2, .ref a3, .ref a4, .ref a5, .ref a6, .int (nI xa), .int ri, .int fa, .int fq, .int bg, .long tm, .int ka, .long kb, .int va, .long vb])), (a1, .inl (c1_, 16384, .inl tp))] sz) [(aM, .inr (7, [.int 0, .ref a1, .int (nI ks), .int (nI dn), .ref a2, .ref a3, .ref a4, .ref a5, .ref a6, .int (nI xa), .int ri, .int fa, .int fq, .int bg, .long tm, .int ka, .long kb, .int va, .long vb])), (a1, .inl (c1_, 16384, .inl (upd tp j (tp j ^^^ x))))] [(c1_, .int)]) (va_A [(aM, .inr (7, [.int co, .ref a1, .int (nI ks), .int (nI dn), .ref a2, .ref a3, .ref a4, .ref a5, .ref a6, .int (nI xa), .int ri, .int fa, .int fq, .int bg, .long tm, .int ka, .long kb, .int va, .long vb])), (a1, .inl (c1_, 16384, .inl tp))] sz)) 0 0 (va_A [(aM, .inr (7, [.int co, .ref a1, .int (nI ks), .int (nI dn), .ref a2, .ref a3, .ref a4, .ref a5, .ref a6, .int (nI xa), .int ri, .int fa, .int fq, .int bg, .long tm, .int ka, .long kb, .int va, .long vb])), (a1, .inl (c1_, 16384, .inl tp))] sz) := by
  refine Met.ofW (cc := cd_M_spoil) (maxL := 3) (ret := (some .int)) (by decide) rfl ?_
  intro p e s m args below meth c s₁ B hml hv
  obtain ⟨rfl, hsz, hP, hK, hD0, hG⟩ := hv
  have hx := B.exec
  have hb := B.bytes
  have hr := B.returns
  have hts := fun (w : Cond) (h : w ∈ bigT) => atoms_spec (ws := (wB my_M_spoil cd_M_spoil 3 (some .int))) B.pre w (List.mem_cons_of_mem _ h)
  have hown : s.vm.findClass rn_M = some m.cls := findClass_of_methodNamed B.named
  have hlocks := B.notSynchronized
  subst hsz
  have hD := hD0.self (sz := s.heap.size)
  generalize hAe : va_A [(aM, .inr (7, [.int co, .ref a1, .int (nI ks), .int (nI dn), .ref a2, .ref a3, .ref a4, .ref a5, .ref a6, .int (nI xa), .int ri, .int fa, .int fq, .int bg, .long tm, .int ka, .long kb, .int va, .long vb])), (a1, .inl (c1_, 16384, .inl tp))] s.heap.size = A at hD hG ⊢
  have hA : ∀ q : Nat, s.heap.size ≤ q → A q := fun q h => by rw [← hAe]; exact Or.inr h
  have hS : va_S A s.heap s.heap [] := va_S.rf
  have hP : va_P (dC, dI) vwCl [(aM, .inr (7, [.int co, .ref a1, .int (nI ks), .int (nI dn), .ref a2, .ref a3, .ref a4, .ref a5, .ref a6, .int (nI xa), .int ri, .int fa, .int fq, .int bg, .long tm, .int ka, .long kb, .int va, .long vb])), (a1, .inl (c1_, 16384, .inl tp))] s.heap := hP
  have hl := lv_entry ([.ref aM, .int (nI j), .int x]) (n := 3) (Nat.le_of_ble_eq_true rfl)
  rw [lg_entry_eq]
  generalize (lg_sl ([.ref aM, .int (nI j), .int x]) ++ List.replicate (3 - (lg_sl ([.ref aM, .int (nI j), .int x])).length) Slot.unset).toArray = ls at hl ⊢
  have hl : lv_has ls 3 [(0, .ref aM), (1, .int (nI j)), (2, .int x)] := hl
  refine lv_aload_n hx hb dc_M_spoil_0 rfl (lv_at hl 0 rfl) ?_
  refine lv_aload_n hx hb dc_M_spoil_1 rfl (lv_at hl 0 rfl) ?_
  refine lv_iload_n hx hb dc_M_spoil_2 rfl (lv_at hl 1 rfl) ?_
  refine kc_i (wc := [(aM, .inr (7, [.int co, .ref a1, .int (nI ks), .int (nI dn), .ref a2, .ref a3, .ref a4, .ref a5, .ref a6, .int (nI xa), .int ri, .int fa, .int fq, .int bg, .long tm, .int ka, .long kb, .int va, .long vb]))]) (wr := [(a1, .inl (c1_, 16384, .inl tp))]) hP hD hS hA [0] [1] rfl rfl (by decide) (by decide) (va_runV (As := [.int (nI j)]) (rest := [.ref aM]) ⟨hx, hb, hml, hown, hts⟩ (c_M_isByte l dC dI _ aM co a1 ks dn a2 a3 a4 a5 a6 xa ri fa fq bg tm ka kb va vb (nI j) ) (kw_V 1 hts bw3_239 bw4_1 bws_13 bw1_9 bw4_2 rfl rfl (by decide +kernel) ⟨Nat.le_of_ble_eq_true rfl, Nat.le_of_ble_eq_true rfl⟩) (kp_V (wc := [(aM, .inr (7, [.int co, .ref a1, .int (nI ks), .int (nI dn), .ref a2, .ref a3, .ref a4, .ref a5, .ref a6, .int (nI xa), .int ri, .int fa, .int fq, .int bg, .long tm, .int ka, .long kb, .int va, .long vb]))]) (tc := []) (As := [.int (nI j)]) hG hS hA hP hD hK [0] rfl (by decide) rfl [] rfl (ci := 7) (q0 := 0) rfl rfl) rfl rfl hl.1 rfl (lv_room (Nat.le_of_ble_eq_true rfl)) dc_M_spoil_3 ⟨Nat.zero_le _, Nat.zero_le _⟩) (fun r_1 _ H locs hw hP hD hK1 hS => ?_)
  subst hw
  have hP : va_P (dC, dI) vwCl [(a1, .inl (c1_, 16384, .inl tp)), (aM, .inr (7, [.int co, .ref a1, .int (nI ks), .int (nI dn), .ref a2, .ref a3, .ref a4, .ref a5, .ref a6, .int (nI xa), .int ri, .int fa, .int fq, .int bg, .long tm, .int ka, .long kb, .int va, .long vb]))] H := hP
  have hD : va_D A [(a1, .inl (c1_, 16384, .inl tp)), (aM, .inr (7, [.int co, .ref a1, .int (nI ks), .int (nI dn), .ref a2, .ref a3, .ref a4, .ref a5, .ref a6, .int (nI xa), .int ri, .int fa, .int fq, .int bg, .long tm, .int ka, .long kb, .int va, .long vb]))] := hD
  refine w_join (σ := Unit) (fun v25_ H locs ls => va_P (dC, dI) vwCl [(a1, .inl (c1_, 16384, .inl tp)), (aM, .inr (7, [.int co, .ref a1, .int (nI ks), .int (nI dn), .ref a2, .ref a3, .ref a4, .ref a5, .ref a6, .int (nI xa), .int ri, .int fa, .int fq, .int bg, .long tm, .int ka, .long kb, .int va, .long vb]))] H ∧ va_D A [(a1, .inl (c1_, 16384, .inl tp)), (aM, .inr (7, [.int co, .ref a1, .int (nI ks), .int (nI dn), .ref a2, .ref a3, .ref a4, .ref a5, .ref a6, .int (nI xa), .int ri, .int fa, .int fq, .int bg, .long tm, .int ka, .long kb, .int va, .long vb]))] ∧ va_S A s.heap H locs ∧ lv_has ls 3 [(0, .ref aM), (1, .int (nI j)), (2, .int x)]) (fun v25_ ls => F0 m 25 ls [.int 0, .ref aM]) ?_ (fun hJ25 => ?_)
  · rintro v25_ H locs ls ⟨hP, hD, hS, hl⟩
    have hP : va_P (dC, dI) vwCl [(a1, .inl (c1_, 16384, .inl tp)), (aM, .inr (7, [.int co, .ref a1, .int (nI ks), .int (nI dn), .ref a2, .ref a3, .ref a4, .ref a5, .ref a6, .int (nI xa), .int ri, .int fa, .int fq, .int bg, .long tm, .int ka, .long kb, .int va, .long vb]))] H := hP
    have hD : va_D A [(a1, .inl (c1_, 16384, .inl tp)), (aM, .inr (7, [.int co, .ref a1, .int (nI ks), .int (nI dn), .ref a2, .ref a3, .ref a4, .ref a5, .ref a6, .int (nI xa), .int ri, .int fa, .int fq, .int bg, .long tm, .int ka, .long kb, .int va, .long vb]))] := hD
    have hl : lv_has ls 3 [(0, .ref aM), (1, .int (nI j)), (2, .int x)] := hl
    show W _ _ _ _ _ _ _ _ _ _ _ _ _ _ _ (F0 m 25 ls [.int 0, .ref aM])
    refine va_put (D := (dC, dI)) (ci := 7) (v := .int 0) (ty := .int) (C := rn_M) (T := ft_M) (N := 19) hx hb hts fw_M fy_M fo_M fn_M hown hK hP hD hS 1 rfl rfl 0 (by decide) (hts _ bw3_159) (fun _ h9 => h9) rfl (by decide +kernel) rfl rfl (Nat.le_of_ble_eq_true rfl) dc_M_spoil_25 (fun H locs hP hD hS => ?_)
    have hP : va_P (dC, dI) vwCl [(a1, .inl (c1_, 16384, .inl tp)), (aM, .inr (7, [.int 0, .ref a1, .int (nI ks), .int (nI dn), .ref a2, .ref a3, .ref a4, .ref a5, .ref a6, .int (nI xa), .int ri, .int fa, .int fq, .int bg, .long tm, .int ka, .long kb, .int va, .long vb]))] H := hP
    have hD : va_D A [(a1, .inl (c1_, 16384, .inl tp)), (aM, .inr (7, [.int 0, .ref a1, .int (nI ks), .int (nI dn), .ref a2, .ref a3, .ref a4, .ref a5, .ref a6, .int (nI xa), .int ri, .int fa, .int fq, .int bg, .long tm, .int ka, .long kb, .int va, .long vb]))] := hD
    refine lv_aload_n hx hb dc_M_spoil_28 rfl (lv_at hl 0 rfl) ?_
    refine va_get (D := (dC, dI)) (ci := 7) (v := .int 0) (C := rn_M) (T := ft_M) (N := 19) hx hb hts fw_M hown hK hP 1 rfl rfl 0 (by decide) (hts _ bw3_159) (fun _ h9 => h9) rfl dc_M_spoil_29 ?_
    refine lv_if_le (tgt := 37) hx hb dc_M_spoil_32 (by decide) (fun c_2 => ?_) (fun c_2 => ?_)
    · refine lv_aload_n hx hb dc_M_spoil_37 rfl (lv_at hl 0 rfl) ?_
      refine va_get (D := (dC, dI)) (ci := 7) (v := .ref a1) (C := rn_M) (T := ft_M) (N := 19) hx hb hts fw_M hown hK hP 1 rfl rfl 1 (by decide) (hts _ bw3_160) (fun _ h9 => h9) rfl dc_M_spoil_38 ?_
      refine lv_iload_n hx hb dc_M_spoil_41 rfl (lv_at hl 1 rfl) ?_
      refine lv_dup2_11 hx hb dc_M_spoil_42 rfl rfl ?_
      refine va_iald hx hb hK hP 0 0 rfl rfl (vp_in_nI (by omega) (by omega)) dc_M_spoil_43 ?_
      rw [show (nI j).toNatClampNeg = j from nI_clamp (by omega)]
      refine lv_iload_n hx hb dc_M_spoil_44 rfl (lv_at hl 2 rfl) ?_
      refine lv_ixor hx hb dc_M_spoil_45 ?_
      refine va_iast hx hb hK hP hD hS 0 0 rfl rfl (vp_in_nI (by omega) (by omega)) dc_M_spoil_46 (fun H locs hP hD hS => ?_)
      rw [show (nI j).toNatClampNeg = j from nI_clamp (by omega)] at hP hD
      have hP : va_P (dC, dI) vwCl [(a1, .inl (c1_, 16384, .inl (upd tp j ((tp j) ^^^ x)))), (aM, .inr (7, [.int 0, .ref a1, .int (nI ks), .int (nI dn), .ref a2, .ref a3, .ref a4, .ref a5, .ref a6, .int (nI xa), .int ri, .int fa, .int fq, .int bg, .long tm, .int ka, .long kb, .int va, .long vb]))] H := hP
      have hD : va_D A [(a1, .inl (c1_, 16384, .inl (upd tp j ((tp j) ^^^ x)))), (aM, .inr (7, [.int 0, .ref a1, .int (nI ks), .int (nI dn), .ref a2, .ref a3, .ref a4, .ref a5, .ref a6, .int (nI xa), .int ri, .int fa, .int fq, .int bg, .long tm, .int ka, .long kb, .int va, .long vb]))] := hD
      refine lv_aload_n hx hb dc_M_spoil_47 rfl (lv_at hl 0 rfl) ?_
      refine va_get (D := (dC, dI)) (ci := 7) (v := .ref a1) (C := rn_M) (T := ft_M) (N := 19) hx hb hts fw_M hown hK hP 1 rfl rfl 1 (by decide) (hts _ bw3_160) (fun _ h9 => h9) rfl dc_M_spoil_48 ?_
      refine lv_iload_n hx hb dc_M_spoil_51 rfl (lv_at hl 1 rfl) ?_
      refine va_iald hx hb hK hP 0 0 rfl rfl (vp_in_nI (by omega) (by omega)) dc_M_spoil_52 ?_
      rw [show (nI j).toNatClampNeg = j from nI_clamp (by omega)]
      have e_3 : (upd tp j ((tp j) ^^^ x)) = (upd tp j (tp j ^^^ x)) := by first | rfl | exact nI_1 _ | exact nI_add _ _ | exact (pk_sub (by omega)) | exact congrArg nI (by omega)
      have hP := wP_eq (ws' := [(a1, .inl (c1_, 16384, .inl (upd tp j (tp j ^^^ x)))), (aM, .inr (7, [.int 0, .ref a1, .int (nI ks), .int (nI dn), .ref a2, .ref a3, .ref a4, .ref a5, .ref a6, .int (nI xa), .int ri, .int fa, .int fq, .int bg, .long tm, .int ka, .long kb, .int va, .long vb]))]) hP (cg1 (fun y0 => ([(a1, .inl (c1_, 16384, .inl y0)), (aM, .inr (7, [.int 0, .ref a1, .int (nI ks), .int (nI dn), .ref a2, .ref a3, .ref a4, .ref a5, .ref a6, .int (nI xa), .int ri, .int fa, .int fq, .int bg, .long tm, .int ka, .long kb, .int va, .long vb]))] : va_W)) e_3)
      have hD := wD_eq (ws' := [(a1, .inl (c1_, 16384, .inl (upd tp j (tp j ^^^ x)))), (aM, .inr (7, [.int 0, .ref a1, .int (nI ks), .int (nI dn), .ref a2, .ref a3, .ref a4, .ref a5, .ref a6, .int (nI xa), .int ri, .int fa, .int fq, .int bg, .long tm, .int ka, .long kb, .int va, .long vb]))]) hD (cg1 (fun y0 => ([(a1, .inl (c1_, 16384, .inl y0)), (aM, .inr (7, [.int 0, .ref a1, .int (nI ks), .int (nI dn), .ref a2, .ref a3, .ref a4, .ref a5, .ref a6, .int (nI xa), .int ri, .int fa, .int fq, .int bg, .long tm, .int ka, .long kb, .int va, .long vb]))] : va_W)) e_3)
      have hP9 := hP.sub (ws' := [(aM, .inr (7, [.int 0, .ref a1, .int (nI ks), .int (nI dn), .ref a2, .ref a3, .ref a4, .ref a5, .ref a6, .int (nI xa), .int ri, .int fa, .int fq, .int bg, .long tm, .int ka, .long kb, .int va, .long vb])), (a1, .inl (c1_, 16384, .inl (upd tp j (tp j ^^^ x))))]) [1, 0] rfl
      have hD9 := hD.sub (ws' := [(aM, .inr (7, [.int 0, .ref a1, .int (nI ks), .int (nI dn), .ref a2, .ref a3, .ref a4, .ref a5, .ref a6, .int (nI xa), .int ri, .int fa, .int fq, .int bg, .long tm, .int ka, .long kb, .int va, .long vb])), (a1, .inl (c1_, 16384, .inl (upd tp j (tp j ^^^ x))))]) [1, 0] (by decide) rfl
      have hK9 := hK.sub (tys' := [(c1_, .int)]) [0] rfl
      exact W.iret (v := ((upd tp j ((tp j) ^^^ x)) j)) hx hb hr (fun t ht hW => ⟨⟨((upd tp j ((tp j) ^^^ x)) j), (), rfl, pk_us, by rw [ht]; exact hP9, va_K.moved hW.alike hK9, hD9⟩, hS.F ht⟩) hS.2.2 dc_M_spoil_53
    · exact absurd (by decide) c_2
  · refine lv_if_eq (tgt := 20) hx hb dc_M_spoil_6 (by decide) (fun c_4 => ?_) (fun c_4 => ?_)
    · exfalso; exact hasC_in hj (by omega) c_4
    · refine lv_iload_n hx hb dc_M_spoil_9 rfl (lv_at hl 2 rfl) ?_
      refine lv_if_lt (tgt := 20) hx hb dc_M_spoil_10 (by decide) (fun c_5 => ?_) (fun c_5 => ?_)
      · exfalso; exact hx0 c_5
      · refine lv_iload_n hx hb dc_M_spoil_13 rfl (lv_at hl 2 rfl) ?_
        refine lv_sipush (v := 255) hx hb dc_M_spoil_14 (by decide) ?_
        refine lv_icmp_le (tgt := 24) hx hb dc_M_spoil_17 (by decide) (fun c_6 => ?_) (fun c_6 => ?_)
        · refine lv_iconst (v := 0) hx hb dc_M_spoil_24 (by decide) ?_
          exact hJ25 () _ _ _ ⟨hP.sub [0, 1] rfl, hD.sub [0, 1] (by decide) rfl, hS, lv_sub hl [0, 1, 2] rfl⟩
        · exact absurd (hx1) c_6

set_option maxHeartbeats 1000000 in
set_option maxRecDepth 100000 in
theorem c_M_spoil_bad (l : Launch) (dC : Nat → ClassId) (dI : Nat → Nat → Nat) (sz : Nat) (aM : Nat) (co : Int32) (a1 : Nat) (ks : Nat) (dn : Nat) (a2 : Nat) (a3 : Nat) (a4 : Nat) (a5 : Nat) (a6 : Nat) (xa : Nat) (ri : Int32) (fa : Int32) (fq : Int32) (bg : Int32) (tm : Int64) (ka : Int32) (kb : Int64) (va : Int32) (vb : Int64) (c1_ : ClassId) (tp : Nat → Int32) (i : Int32) (x : Int32) (hk : ks ≤ 16384) (hj : hasC ks i = 0 ∨ x < 0 ∨ ¬ x ≤ 255) : Met l my_M_spoil (wB my_M_spoil cd_M_spoil 3 (some .int)) ({ frames := 1, cells := 0, slots := 0, locals := 21 }) (va_Pc [.ref aM, .int i, .int x] (PcW (dC, dI) [(aM, .inr (7, [.int co, .ref a1, .int (nI ks), .int (nI dn), .ref a2, .ref a3, .ref a4, .ref a5, .ref a6, .int (nI xa), .int ri, .int fa, .int fq, .int bg, .long tm, .int ka, .long kb, .int va, .long vb])), (a1, .inl (c1_, 16384, .inl tp))] [(c1_, .int)] sz)) (va_Qi (fun (r : Int32) => fun (_ : Unit) => r = 0) (fun _ => EnW (dC, dI) (va_A [(aM, .inr (7, [.int co, .ref a1, .int (nI ks), .int (nI dn), .ref a2, .ref a3, .ref a4, .ref a5, .ref a6, .int (nI xa), .int ri, .int fa, .int fq, .int bg, .long tm, .int ka, .long kb, .int va, .long vb])), (a1, .inl (c1_, 16384, .inl tp))] sz) [(aM, .inr (7, [.int 1, .ref a1, .int (nI ks), .int (nI dn), .ref a2, .ref a3, .ref a4, .ref a5, .ref a6, .int (nI xa), .int ri, .int fa, .int fq, .int bg, .long tm, .int ka, .long kb, .int va, .long vb])), (a1, .inl (c1_, 16384, .inl tp))] [(c1_, .int)]) (va_A [(aM, .inr (7, [.int co, .ref a1, .int (nI ks), .int (nI dn), .ref a2, .ref a3, .ref a4, .ref a5, .ref a6, .int (nI xa), .int ri, .int fa, .int fq, .int bg, .long tm, .int ka, .long kb, .int va, .long vb])), (a1, .inl (c1_, 16384, .inl tp))] sz)) 0 0 (va_A [(aM, .inr (7, [.int co, .ref a1, .int (nI ks), .int (nI dn), .ref a2, .ref a3, .ref a4, .ref a5, .ref a6, .int (nI xa), .int ri, .int fa, .int fq, .int bg, .long tm, .int ka, .long kb, .int va, .long vb])), (a1, .inl (c1_, 16384, .inl tp))] sz) := by
  refine Met.ofW (cc := cd_M_spoil) (maxL := 3) (ret := (some .int)) (by decide) rfl ?_
  intro p e s m args below meth c s₁ B hml hv
  obtain ⟨rfl, hsz, hP, hK, hD0, hG⟩ := hv
  have hx := B.exec
  have hb := B.bytes
  have hr := B.returns
  have hts := fun (w : Cond) (h : w ∈ bigT) => atoms_spec (ws := (wB my_M_spoil cd_M_spoil 3 (some .int))) B.pre w (List.mem_cons_of_mem _ h)
  have hown : s.vm.findClass rn_M = some m.cls := findClass_of_methodNamed B.named
  have hlocks := B.notSynchronized
  subst hsz
  have hD := hD0.self (sz := s.heap.size)
  generalize hAe : va_A [(aM, .inr (7, [.int co, .ref a1, .int (nI ks), .int (nI dn), .ref a2, .ref a3, .ref a4, .ref a5, .ref a6, .int (nI xa), .int ri, .int fa, .int fq, .int bg, .long tm, .int ka, .long kb, .int va, .long vb])), (a1, .inl (c1_, 16384, .inl tp))] s.heap.size = A at hD hG ⊢
  have hA : ∀ q : Nat, s.heap.size ≤ q → A q := fun q h => by rw [← hAe]; exact Or.inr h
  have hS : va_S A s.heap s.heap [] := va_S.rf
  have hP : va_P (dC, dI) vwCl [(aM, .inr (7, [.int co, .ref a1, .int (nI ks), .int (nI dn), .ref a2, .ref a3, .ref a4, .ref a5, .ref a6, .int (nI xa), .int ri, .int fa, .int fq, .int bg, .long tm, .int ka, .long kb, .int va, .long vb])), (a1, .inl (c1_, 16384, .inl tp))] s.heap := hP
  have hl := lv_entry ([.ref aM, .int i, .int x]) (n := 3) (Nat.le_of_ble_eq_true rfl)
  rw [lg_entry_eq]
  generalize (lg_sl ([.ref aM, .int i, .int x]) ++ List.replicate (3 - (lg_sl ([.ref aM, .int i, .int x])).length) Slot.unset).toArray = ls at hl ⊢
  have hl : lv_has ls 3 [(0, .ref aM), (1, .int i), (2, .int x)] := hl
  refine lv_aload_n hx hb dc_M_spoil_0 rfl (lv_at hl 0 rfl) ?_
  refine lv_aload_n hx hb dc_M_spoil_1 rfl (lv_at hl 0 rfl) ?_
  refine lv_iload_n hx hb dc_M_spoil_2 rfl (lv_at hl 1 rfl) ?_
  refine kc_i (wc := [(aM, .inr (7, [.int co, .ref a1, .int (nI ks), .int (nI dn), .ref a2, .ref a3, .ref a4, .ref a5, .ref a6, .int (nI xa), .int ri, .int fa, .int fq, .int bg, .long tm, .int ka, .long kb, .int va, .long vb]))]) (wr := [(a1, .inl (c1_, 16384, .inl tp))]) hP hD hS hA [0] [1] rfl rfl (by decide) (by decide) (va_runV (As := [.int i]) (rest := [.ref aM]) ⟨hx, hb, hml, hown, hts⟩ (c_M_isByte l dC dI _ aM co a1 ks dn a2 a3 a4 a5 a6 xa ri fa fq bg tm ka kb va vb i ) (kw_V 1 hts bw3_239 bw4_1 bws_13 bw1_9 bw4_2 rfl rfl (by decide +kernel) ⟨Nat.le_of_ble_eq_true rfl, Nat.le_of_ble_eq_true rfl⟩) (kp_V (wc := [(aM, .inr (7, [.int co, .ref a1, .int (nI ks), .int (nI dn), .ref a2, .ref a3, .ref a4, .ref a5, .ref a6, .int (nI xa), .int ri, .int fa, .int fq, .int bg, .long tm, .int ka, .long kb, .int va, .long vb]))]) (tc := []) (As := [.int i]) hG hS hA hP hD hK [0] rfl (by decide) rfl [] rfl (ci := 7) (q0 := 0) rfl rfl) rfl rfl hl.1 rfl (lv_room (Nat.le_of_ble_eq_true rfl)) dc_M_spoil_3 ⟨Nat.zero_le _, Nat.zero_le _⟩) (fun r_1 _ H locs hw hP hD hK1 hS => ?_)
  subst hw
  have hP : va_P (dC, dI) vwCl [(a1, .inl (c1_, 16384, .inl tp)), (aM, .inr (7, [.int co, .ref a1, .int (nI ks), .int (nI dn), .ref a2, .ref a3, .ref a4, .ref a5, .ref a6, .int (nI xa), .int ri, .int fa, .int fq, .int bg, .long tm, .int ka, .long kb, .int va, .long vb]))] H := hP
  have hD : va_D A [(a1, .inl (c1_, 16384, .inl tp)), (aM, .inr (7, [.int co, .ref a1, .int (nI ks), .int (nI dn), .ref a2, .ref a3, .ref a4, .ref a5, .ref a6, .int (nI xa), .int ri, .int fa, .int fq, .int bg, .long tm, .int ka, .long kb, .int va, .long vb]))] := hD
  refine lv_if_eq (tgt := 20) hx hb dc_M_spoil_6 (by decide) (fun c_2 => ?_) (fun c_2 => ?_)
  · refine lv_iconst (v := 1) hx hb dc_M_spoil_20 (by decide) ?_
    refine lv_goto (tgt := 25) hx hb dc_M_spoil_21 (by decide) ?_
    refine va_put (D := (dC, dI)) (ci := 7) (v := .int 1) (ty := .int) (C := rn_M) (T := ft_M) (N := 19) hx hb hts fw_M fy_M fo_M fn_M hown hK hP hD hS 1 rfl rfl 0 (by decide) (hts _ bw3_159) (fun _ h9 => h9) rfl (by decide +kernel) rfl rfl (Nat.le_of_ble_eq_true rfl) dc_M_spoil_25 (fun H locs hP hD hS => ?_)
    have hP : va_P (dC, dI) vwCl [(a1, .inl (c1_, 16384, .inl tp)), (aM, .inr (7, [.int 1, .ref a1, .int (nI ks), .int (nI dn), .ref a2, .ref a3, .ref a4, .ref a5, .ref a6, .int (nI xa), .int ri, .int fa, .int fq, .int bg, .long tm, .int ka, .long kb, .int va, .long vb]))] H := hP
    have hD : va_D A [(a1, .inl (c1_, 16384, .inl tp)), (aM, .inr (7, [.int 1, .ref a1, .int (nI ks), .int (nI dn), .ref a2, .ref a3, .ref a4, .ref a5, .ref a6, .int (nI xa), .int ri, .int fa, .int fq, .int bg, .long tm, .int ka, .long kb, .int va, .long vb]))] := hD
    refine lv_aload_n hx hb dc_M_spoil_28 rfl (lv_at hl 0 rfl) ?_
    refine va_get (D := (dC, dI)) (ci := 7) (v := .int 1) (C := rn_M) (T := ft_M) (N := 19) hx hb hts fw_M hown hK hP 1 rfl rfl 0 (by decide) (hts _ bw3_159) (fun _ h9 => h9) rfl dc_M_spoil_29 ?_
    refine lv_if_le (tgt := 37) hx hb dc_M_spoil_32 (by decide) (fun c_3 => ?_) (fun c_3 => ?_)
    · exact absurd c_3 (by decide)
    · refine lv_iconst (v := 0) hx hb dc_M_spoil_35 (by decide) ?_
      have hP9 := hP.sub (ws' := [(aM, .inr (7, [.int 1, .ref a1, .int (nI ks), .int (nI dn), .ref a2, .ref a3, .ref a4, .ref a5, .ref a6, .int (nI xa), .int ri, .int fa, .int fq, .int bg, .long tm, .int ka, .long kb, .int va, .long vb])), (a1, .inl (c1_, 16384, .inl tp))]) [1, 0] rfl
      have hD9 := hD.sub (ws' := [(aM, .inr (7, [.int 1, .ref a1, .int (nI ks), .int (nI dn), .ref a2, .ref a3, .ref a4, .ref a5, .ref a6, .int (nI xa), .int ri, .int fa, .int fq, .int bg, .long tm, .int ka, .long kb, .int va, .long vb])), (a1, .inl (c1_, 16384, .inl tp))]) [1, 0] (by decide) rfl
      have hK9 := hK.sub (tys' := [(c1_, .int)]) [0] rfl
      exact W.iret (v := 0) hx hb hr (fun t ht hW => ⟨⟨0, (), rfl, rfl, by rw [ht]; exact hP9, va_K.moved hW.alike hK9, hD9⟩, hS.F ht⟩) hS.2.2 dc_M_spoil_36
  · have hi1 := c_2
    refine lv_iload_n hx hb dc_M_spoil_9 rfl (lv_at hl 2 rfl) ?_
    refine lv_if_lt (tgt := 20) hx hb dc_M_spoil_10 (by decide) (fun c_4 => ?_) (fun c_4 => ?_)
    · refine lv_iconst (v := 1) hx hb dc_M_spoil_20 (by decide) ?_
      refine lv_goto (tgt := 25) hx hb dc_M_spoil_21 (by decide) ?_
      refine va_put (D := (dC, dI)) (ci := 7) (v := .int 1) (ty := .int) (C := rn_M) (T := ft_M) (N := 19) hx hb hts fw_M fy_M fo_M fn_M hown hK hP hD hS 1 rfl rfl 0 (by decide) (hts _ bw3_159) (fun _ h9 => h9) rfl (by decide +kernel) rfl rfl (Nat.le_of_ble_eq_true rfl) dc_M_spoil_25 (fun H locs hP hD hS => ?_)
      have hP : va_P (dC, dI) vwCl [(a1, .inl (c1_, 16384, .inl tp)), (aM, .inr (7, [.int 1, .ref a1, .int (nI ks), .int (nI dn), .ref a2, .ref a3, .ref a4, .ref a5, .ref a6, .int (nI xa), .int ri, .int fa, .int fq, .int bg, .long tm, .int ka, .long kb, .int va, .long vb]))] H := hP
      have hD : va_D A [(a1, .inl (c1_, 16384, .inl tp)), (aM, .inr (7, [.int 1, .ref a1, .int (nI ks), .int (nI dn), .ref a2, .ref a3, .ref a4, .ref a5, .ref a6, .int (nI xa), .int ri, .int fa, .int fq, .int bg, .long tm, .int ka, .long kb, .int va, .long vb]))] := hD
      refine lv_aload_n hx hb dc_M_spoil_28 rfl (lv_at hl 0 rfl) ?_
      refine va_get (D := (dC, dI)) (ci := 7) (v := .int 1) (C := rn_M) (T := ft_M) (N := 19) hx hb hts fw_M hown hK hP 1 rfl rfl 0 (by decide) (hts _ bw3_159) (fun _ h9 => h9) rfl dc_M_spoil_29 ?_
      refine lv_if_le (tgt := 37) hx hb dc_M_spoil_32 (by decide) (fun c_5 => ?_) (fun c_5 => ?_)
      · exact absurd c_5 (by decide)
      · refine lv_iconst (v := 0) hx hb dc_M_spoil_35 (by decide) ?_
        have hP9 := hP.sub (ws' := [(aM, .inr (7, [.int 1, .ref a1, .int (nI ks), .int (nI dn), .ref a2, .ref a3, .ref a4, .ref a5, .ref a6, .int (nI xa), .int ri, .int fa, .int fq, .int bg, .long tm, .int ka, .long kb, .int va, .long vb])), (a1, .inl (c1_, 16384, .inl tp))]) [1, 0] rfl
        have hD9 := hD.sub (ws' := [(aM, .inr (7, [.int 1, .ref a1, .int (nI ks), .int (nI dn), .ref a2, .ref a3, .ref a4, .ref a5, .ref a6, .int (nI xa), .int ri, .int fa, .int fq, .int bg, .long tm, .int ka, .long kb, .int va, .long vb])), (a1, .inl (c1_, 16384, .inl tp))]) [1, 0] (by decide) rfl
        have hK9 := hK.sub (tys' := [(c1_, .int)]) [0] rfl
        exact W.iret (v := 0) hx hb hr (fun t ht hW => ⟨⟨0, (), rfl, rfl, by rw [ht]; exact hP9, va_K.moved hW.alike hK9, hD9⟩, hS.F ht⟩) hS.2.2 dc_M_spoil_36
    · have hi2 := c_4
      refine lv_iload_n hx hb dc_M_spoil_13 rfl (lv_at hl 2 rfl) ?_
      refine lv_sipush (v := 255) hx hb dc_M_spoil_14 (by decide) ?_
      refine lv_icmp_le (tgt := 24) hx hb dc_M_spoil_17 (by decide) (fun c_6 => ?_) (fun c_6 => ?_)
      · exfalso; exact hj.elim hi1 (fun h => h.elim hi2 (fun h => h c_6))
      · refine lv_iconst (v := 1) hx hb dc_M_spoil_20 (by decide) ?_
        refine lv_goto (tgt := 25) hx hb dc_M_spoil_21 (by decide) ?_
        refine va_put (D := (dC, dI)) (ci := 7) (v := .int 1) (ty := .int) (C := rn_M) (T := ft_M) (N := 19) hx hb hts fw_M fy_M fo_M fn_M hown hK hP hD hS 1 rfl rfl 0 (by decide) (hts _ bw3_159) (fun _ h9 => h9) rfl (by decide +kernel) rfl rfl (Nat.le_of_ble_eq_true rfl) dc_M_spoil_25 (fun H locs hP hD hS => ?_)
        have hP : va_P (dC, dI) vwCl [(a1, .inl (c1_, 16384, .inl tp)), (aM, .inr (7, [.int 1, .ref a1, .int (nI ks), .int (nI dn), .ref a2, .ref a3, .ref a4, .ref a5, .ref a6, .int (nI xa), .int ri, .int fa, .int fq, .int bg, .long tm, .int ka, .long kb, .int va, .long vb]))] H := hP
        have hD : va_D A [(a1, .inl (c1_, 16384, .inl tp)), (aM, .inr (7, [.int 1, .ref a1, .int (nI ks), .int (nI dn), .ref a2, .ref a3, .ref a4, .ref a5, .ref a6, .int (nI xa), .int ri, .int fa, .int fq, .int bg, .long tm, .int ka, .long kb, .int va, .long vb]))] := hD
        refine lv_aload_n hx hb dc_M_spoil_28 rfl (lv_at hl 0 rfl) ?_
        refine va_get (D := (dC, dI)) (ci := 7) (v := .int 1) (C := rn_M) (T := ft_M) (N := 19) hx hb hts fw_M hown hK hP 1 rfl rfl 0 (by decide) (hts _ bw3_159) (fun _ h9 => h9) rfl dc_M_spoil_29 ?_
        refine lv_if_le (tgt := 37) hx hb dc_M_spoil_32 (by decide) (fun c_7 => ?_) (fun c_7 => ?_)
        · exact absurd c_7 (by decide)
        · refine lv_iconst (v := 0) hx hb dc_M_spoil_35 (by decide) ?_
          have hP9 := hP.sub (ws' := [(aM, .inr (7, [.int 1, .ref a1, .int (nI ks), .int (nI dn), .ref a2, .ref a3, .ref a4, .ref a5, .ref a6, .int (nI xa), .int ri, .int fa, .int fq, .int bg, .long tm, .int ka, .long kb, .int va, .long vb])), (a1, .inl (c1_, 16384, .inl tp))]) [1, 0] rfl
          have hD9 := hD.sub (ws' := [(aM, .inr (7, [.int 1, .ref a1, .int (nI ks), .int (nI dn), .ref a2, .ref a3, .ref a4, .ref a5, .ref a6, .int (nI xa), .int ri, .int fa, .int fq, .int bg, .long tm, .int ka, .long kb, .int va, .long vb])), (a1, .inl (c1_, 16384, .inl tp))]) [1, 0] (by decide) rfl
          have hK9 := hK.sub (tys' := [(c1_, .int)]) [0] rfl
          exact W.iret (v := 0) hx hb hr (fun t ht hW => ⟨⟨0, (), rfl, rfl, by rw [ht]; exact hP9, va_K.moved hW.alike hK9, hD9⟩, hS.F ht⟩) hS.2.2 dc_M_spoil_36

set_option maxHeartbeats 1000000 in
set_option maxRecDepth 100000 in
theorem c_M_byteAt_ok (l : Launch) (dC : Nat → ClassId) (dI : Nat → Nat → Nat) (sz : Nat) (aM : Nat) (co : Int32) (a1 : Nat) (ks : Nat) (dn : Nat) (a2 : Nat) (a3 : Nat) (a4 : Nat) (a5 : Nat) (a6 : Nat) (xa : Nat) (ri : Int32) (fa : Int32) (fq : Int32) (bg : Int32) (tm : Int64) (ka : Int32) (kb : Int64) (va : Int32) (vb : Int64) (c1_ : ClassId) (tp : Nat → Int32) (j : Nat) (hk : ks ≤ 16384) (hj : j < ks) : Met l my_M_byteAt (wB my_M_byteAt cd_M_byteAt 2 (some .int)) ({ frames := 1, cells := 0, slots := 0, locals := 21 }) (va_Pc [.ref aM, .int (nI j)] (PcW (dC, dI) [(aM, .inr (7, [.int co, .ref a1, .int (nI ks), .int (nI dn), .ref a2, .ref a3, .ref a4, .ref a5, .ref a6, .int (nI xa), .int ri, .int fa, .int fq, .int bg, .long tm, .int ka, .long kb, .int va, .long vb])), (a1, .inl (c1_, 16384, .inl tp))] [(c1_, .int)] sz)) (va_Qi (fun (r : Int32) => fun (_ : Unit) => r = tp j) (fun _ => EnW (dC, dI) (va_A [(aM, .inr (7, [.int co, .ref a1, .int (nI ks), .int (nI dn), .ref a2, .ref a3, .ref a4, .ref a5, .ref a6, .int (nI xa), .int ri, .int fa, .int fq, .int bg, .long tm, .int ka, .long kb, .int va, .long vb])), (a1, .inl (c1_, 16384, .inl tp))] sz) [(aM, .inr (7, [.int 0, .ref a1, .int (nI ks), .int (nI dn), .ref a2, .ref a3, .ref a4, .ref a5, .ref a6, .int (nI xa), .int ri, .int fa, .int fq, .int bg, .long tm, .int ka, .long kb, .int va, .long vb])), (a1, .inl (c1_, 16384, .inl tp))] [(c1_, .int)]) (va_A [(aM, .inr (7, [.int co, .ref a1, .int (nI ks), .int (nI dn), .ref a2, .ref a3, .ref a4, .ref a5, .ref a6, .int (nI xa), .int ri, .int fa, .int fq, .int bg, .long tm, .int ka, .long kb, .int va, .long vb])), (a1, .inl (c1_, 16384, .inl tp))] sz)) 0 0 (va_A [(aM, .inr (7, [.int co, .ref a1, .int (nI ks), .int (nI dn), .ref a2, .ref a3, .ref a4, .ref a5, .ref a6, .int (nI xa), .int ri, .int fa, .int fq, .int bg, .long tm, .int ka, .long kb, .int va, .long vb])), (a1, .inl (c1_, 16384, .inl tp))] sz) := by
  refine Met.ofW (cc := cd_M_byteAt) (maxL := 2) (ret := (some .int)) (by decide) rfl ?_
  intro p e s m args below meth c s₁ B hml hv
  obtain ⟨rfl, hsz, hP, hK, hD0, hG⟩ := hv
  have hx := B.exec
  have hb := B.bytes
  have hr := B.returns
  have hts := fun (w : Cond) (h : w ∈ bigT) => atoms_spec (ws := (wB my_M_byteAt cd_M_byteAt 2 (some .int))) B.pre w (List.mem_cons_of_mem _ h)
  have hown : s.vm.findClass rn_M = some m.cls := findClass_of_methodNamed B.named
  have hlocks := B.notSynchronized
  subst hsz
  have hD := hD0.self (sz := s.heap.size)
  generalize hAe : va_A [(aM, .inr (7, [.int co, .ref a1, .int (nI ks), .int (nI dn), .ref a2, .ref a3, .ref a4, .ref a5, .ref a6, .int (nI xa), .int ri, .int fa, .int fq, .int bg, .long tm, .int ka, .long kb, .int va, .long vb])), (a1, .inl (c1_, 16384, .inl tp))] s.heap.size = A at hD hG ⊢
  have hA : ∀ q : Nat, s.heap.size ≤ q → A q := fun q h => by rw [← hAe]; exact Or.inr h
  have hS : va_S A s.heap s.heap [] := va_S.rf
  have hP : va_P (dC, dI) vwCl [(aM, .inr (7, [.int co, .ref a1, .int (nI ks), .int (nI dn), .ref a2, .ref a3, .ref a4, .ref a5, .ref a6, .int (nI xa), .int ri, .int fa, .int fq, .int bg, .long tm, .int ka, .long kb, .int va, .long vb])), (a1, .inl (c1_, 16384, .inl tp))] s.heap := hP
  have hl := lv_entry ([.ref aM, .int (nI j)]) (n := 2) (Nat.le_of_ble_eq_true rfl)
  rw [lg_entry_eq]
  generalize (lg_sl ([.ref aM, .int (nI j)]) ++ List.replicate (2 - (lg_sl ([.ref aM, .int (nI j)])).length) Slot.unset).toArray = ls at hl ⊢
  have hl : lv_has ls 2 [(0, .ref aM), (1, .int (nI j))] := hl
  refine lv_aload_n hx hb dc_M_byteAt_0 rfl (lv_at hl 0 rfl) ?_
  refine lv_aload_n hx hb dc_M_byteAt_1 rfl (lv_at hl 0 rfl) ?_
  refine lv_iload_n hx hb dc_M_byteAt_2 rfl (lv_at hl 1 rfl) ?_
  refine kc_i (wc := [(aM, .inr (7, [.int co, .ref a1, .int (nI ks), .int (nI dn), .ref a2, .ref a3, .ref a4, .ref a5, .ref a6, .int (nI xa), .int ri, .int fa, .int fq, .int bg, .long tm, .int ka, .long kb, .int va, .long vb]))]) (wr := [(a1, .inl (c1_, 16384, .inl tp))]) hP hD hS hA [0] [1] rfl rfl (by decide) (by decide) (va_runV (As := [.int (nI j)]) (rest := [.ref aM]) ⟨hx, hb, hml, hown, hts⟩ (c_M_isByte l dC dI _ aM co a1 ks dn a2 a3 a4 a5 a6 xa ri fa fq bg tm ka kb va vb (nI j) ) (kw_V 1 hts bw3_239 bw4_1 bws_13 bw1_9 bw4_2 rfl rfl (by decide +kernel) ⟨Nat.le_of_ble_eq_true rfl, Nat.le_of_ble_eq_true rfl⟩) (kp_V (wc := [(aM, .inr (7, [.int co, .ref a1, .int (nI ks), .int (nI dn), .ref a2, .ref a3, .ref a4, .ref a5, .ref a6, .int (nI xa), .int ri, .int fa, .int fq, .int bg, .long tm, .int ka, .long kb, .int va, .long vb]))]) (tc := []) (As := [.int (nI j)]) hG hS hA hP hD hK [0] rfl (by decide) rfl [] rfl (ci := 7) (q0 := 0) rfl rfl) rfl rfl hl.1 rfl (lv_room (Nat.le_of_ble_eq_true rfl)) dc_M_byteAt_3 ⟨Nat.zero_le _, Nat.zero_le _⟩) (fun r_1 _ H locs hw hP hD hK1 hS => ?_)
  subst hw
  have hP : va_P (dC, dI) vwCl [(a1, .inl (c1_, 16384, .inl tp)), (aM, .inr (7, [.int co, .ref a1, .int (nI ks), .int (nI dn), .ref a2, .ref a3, .ref a4, .ref a5, .ref a6, .int (nI xa), .int ri, .int fa, .int fq, .int bg, .long tm, .int ka, .long kb, .int va, .long vb]))] H := hP
  have hD : va_D A [(a1, .inl (c1_, 16384, .inl tp)), (aM, .inr (7, [.int co, .ref a1, .int (nI ks), .int (nI dn), .ref a2, .ref a3, .ref a4, .ref a5, .ref a6, .int (nI xa), .int ri, .int fa, .int fq, .int bg, .long tm, .int ka, .long kb, .int va, .long vb]))] := hD
  refine w_join (σ := Unit) (fun v14_ H locs ls => va_P (dC, dI) vwCl [(a1, .inl (c1_, 16384, .inl tp)), (aM, .inr (7, [.int co, .ref a1, .int (nI ks), .int (nI dn), .ref a2, .ref a3, .ref a4, .ref a5, .ref a6, .int (nI xa), .int ri, .int fa, .int fq, .int bg, .long tm, .int ka, .long kb, .int va, .long vb]))] H ∧ va_D A [(a1, .inl (c1_, 16384, .inl tp)), (aM, .inr (7, [.int co, .ref a1, .int (nI ks), .int (nI dn), .ref a2, .ref a3, .ref a4, .ref a5, .ref a6, .int (nI xa), .int ri, .int fa, .int fq, .int bg, .long tm, .int ka, .long kb, .int va, .long vb]))] ∧ va_S A s.heap H locs ∧ lv_has ls 2 [(0, .ref aM), (1, .int (nI j))]) (fun v14_ ls => F0 m 14 ls [.int 0, .ref aM]) ?_ (fun hJ14 => ?_)
  · rintro v14_ H locs ls ⟨hP, hD, hS, hl⟩
    have hP : va_P (dC, dI) vwCl [(a1, .inl (c1_, 16384, .inl tp)), (aM, .inr (7, [.int co, .ref a1, .int (nI ks), .int (nI dn), .ref a2, .ref a3, .ref a4, .ref a5, .ref a6, .int (nI xa), .int ri, .int fa, .int fq, .int bg, .long tm, .int ka, .long kb, .int va, .long vb]))] H := hP
    have hD : va_D A [(a1, .inl (c1_, 16384, .inl tp)), (aM, .inr (7, [.int co, .ref a1, .int (nI ks), .int (nI dn), .ref a2, .ref a3, .ref a4, .ref a5, .ref a6, .int (nI xa), .int ri, .int fa, .int fq, .int bg, .long tm, .int ka, .long kb, .int va, .long vb]))] := hD
    have hl : lv_has ls 2 [(0, .ref aM), (1, .int (nI j))] := hl
    show W _ _ _ _ _ _ _ _ _ _ _ _ _ _ _ (F0 m 14 ls [.int 0, .ref aM])
    refine va_put (D := (dC, dI)) (ci := 7) (v := .int 0) (ty := .int) (C := rn_M) (T := ft_M) (N := 19) hx hb hts fw_M fy_M fo_M fn_M hown hK hP hD hS 1 rfl rfl 0 (by decide) (hts _ bw3_159) (fun _ h9 => h9) rfl (by decide +kernel) rfl rfl (Nat.le_of_ble_eq_true rfl) dc_M_byteAt_14 (fun H locs hP hD hS => ?_)
    have hP : va_P (dC, dI) vwCl [(a1, .inl (c1_, 16384, .inl tp)), (aM, .inr (7, [.int 0, .ref a1, .int (nI ks), .int (nI dn), .ref a2, .ref a3, .ref a4, .ref a5, .ref a6, .int (nI xa), .int ri, .int fa, .int fq, .int bg, .long tm, .int ka, .long kb, .int va, .long vb]))] H := hP
    have hD : va_D A [(a1, .inl (c1_, 16384, .inl tp)), (aM, .inr (7, [.int 0, .ref a1, .int (nI ks), .int (nI dn), .ref a2, .ref a3, .ref a4, .ref a5, .ref a6, .int (nI xa), .int ri, .int fa, .int fq, .int bg, .long tm, .int ka, .long kb, .int va, .long vb]))] := hD
    refine lv_aload_n hx hb dc_M_byteAt_17 rfl (lv_at hl 0 rfl) ?_
    refine va_get (D := (dC, dI)) (ci := 7) (v := .int 0) (C := rn_M) (T := ft_M) (N := 19) hx hb hts fw_M hown hK hP 1 rfl rfl 0 (by decide) (hts _ bw3_159) (fun _ h9 => h9) rfl dc_M_byteAt_18 ?_
    refine w_join (σ := Unit) (fun v34_ H locs ls => va_P (dC, dI) vwCl [(a1, .inl (c1_, 16384, .inl tp)), (aM, .inr (7, [.int 0, .ref a1, .int (nI ks), .int (nI dn), .ref a2, .ref a3, .ref a4, .ref a5, .ref a6, .int (nI xa), .int ri, .int fa, .int fq, .int bg, .long tm, .int ka, .long kb, .int va, .long vb]))] H ∧ va_D A [(a1, .inl (c1_, 16384, .inl tp)), (aM, .inr (7, [.int 0, .ref a1, .int (nI ks), .int (nI dn), .ref a2, .ref a3, .ref a4, .ref a5, .ref a6, .int (nI xa), .int ri, .int fa, .int fq, .int bg, .long tm, .int ka, .long kb, .int va, .long vb]))] ∧ va_S A s.heap H locs ∧ lv_has ls 2 [(0, .ref aM), (1, .int (nI j))]) (fun v34_ ls => F0 m 34 ls [.int (tp j)]) ?_ (fun hJ34 => ?_)
    · rintro v34_ H locs ls ⟨hP, hD, hS, hl⟩
      have hP : va_P (dC, dI) vwCl [(a1, .inl (c1_, 16384, .inl tp)), (aM, .inr (7, [.int 0, .ref a1, .int (nI ks), .int (nI dn), .ref a2, .ref a3, .ref a4, .ref a5, .ref a6, .int (nI xa), .int ri, .int fa, .int fq, .int bg, .long tm, .int ka, .long kb, .int va, .long vb]))] H := hP
      have hD : va_D A [(a1, .inl (c1_, 16384, .inl tp)), (aM, .inr (7, [.int 0, .ref a1, .int (nI ks), .int (nI dn), .ref a2, .ref a3, .ref a4, .ref a5, .ref a6, .int (nI xa), .int ri, .int fa, .int fq, .int bg, .long tm, .int ka, .long kb, .int va, .long vb]))] := hD
      have hl : lv_has ls 2 [(0, .ref aM), (1, .int (nI j))] := hl
      show W _ _ _ _ _ _ _ _ _ _ _ _ _ _ _ (F0 m 34 ls [.int (tp j)])
      have hP9 := hP.sub (ws' := [(aM, .inr (7, [.int 0, .ref a1, .int (nI ks), .int (nI dn), .ref a2, .ref a3, .ref a4, .ref a5, .ref a6, .int (nI xa), .int ri, .int fa, .int fq, .int bg, .long tm, .int ka, .long kb, .int va, .long vb])), (a1, .inl (c1_, 16384, .inl tp))]) [1, 0] rfl
      have hD9 := hD.sub (ws' := [(aM, .inr (7, [.int 0, .ref a1, .int (nI ks), .int (nI dn), .ref a2, .ref a3, .ref a4, .ref a5, .ref a6, .int (nI xa), .int ri, .int fa, .int fq, .int bg, .long tm, .int ka, .long kb, .int va, .long vb])), (a1, .inl (c1_, 16384, .inl tp))]) [1, 0] (by decide) rfl
      have hK9 := hK.sub (tys' := [(c1_, .int)]) [0] rfl
      exact W.iret (v := (tp j)) hx hb hr (fun t ht hW => ⟨⟨(tp j), (), rfl, rfl, by rw [ht]; exact hP9, va_K.moved hW.alike hK9, hD9⟩, hS.F ht⟩) hS.2.2 dc_M_byteAt_34
    · refine lv_if_le (tgt := 28) hx hb dc_M_byteAt_21 (by decide) (fun c_2 => ?_) (fun c_2 => ?_)
      · refine lv_aload_n hx hb dc_M_byteAt_28 rfl (lv_at hl 0 rfl) ?_
        refine va_get (D := (dC, dI)) (ci := 7) (v := .ref a1) (C := rn_M) (T := ft_M) (N := 19) hx hb hts fw_M hown hK hP 1 rfl rfl 1 (by decide) (hts _ bw3_160) (fun _ h9 => h9) rfl dc_M_byteAt_29 ?_
        refine lv_iload_n hx hb dc_M_byteAt_32 rfl (lv_at hl 1 rfl) ?_
        refine va_iald hx hb hK hP 0 0 rfl rfl (vp_in_nI (by omega) (by omega)) dc_M_byteAt_33 ?_
        rw [show (nI j).toNatClampNeg = j from nI_clamp (by omega)]
        exact hJ34 () _ _ _ ⟨hP.sub [0, 1] rfl, hD.sub [0, 1] (by decide) rfl, hS, lv_sub hl [0, 1] rfl⟩
      · exact absurd (by decide) c_2
  · refine lv_if_eq (tgt := 13) hx hb dc_M_byteAt_6 (by decide) (fun c_3 => ?_) (fun c_3 => ?_)
    · exfalso; exact hasC_in hj (by omega) c_3
    · refine lv_iconst (v := 0) hx hb dc_M_byteAt_9 (by decide) ?_
      refine lv_goto (tgt := 14) hx hb dc_M_byteAt_10 (by decide) ?_
      exact hJ14 () _ _ _ ⟨hP.sub [0, 1] rfl, hD.sub [0, 1] (by decide) rfl, hS, lv_sub hl [0, 1] rfl⟩

set_option maxHeartbeats 1000000 in
set_option maxRecDepth 100000 in
theorem c_M_byteAt_bad (l : Launch) (dC : Nat → ClassId) (dI : Nat → Nat → Nat) (sz : Nat) (aM : Nat) (co : Int32) (a1 : Nat) (ks : Nat) (dn : Nat) (a2 : Nat) (a3 : Nat) (a4 : Nat) (a5 : Nat) (a6 : Nat) (xa : Nat) (ri : Int32) (fa : Int32) (fq : Int32) (bg : Int32) (tm : Int64) (ka : Int32) (kb : Int64) (va : Int32) (vb : Int64) (c1_ : ClassId) (tp : Nat → Int32) (i : Int32) (hk : ks ≤ 16384) (hj : hasC ks i = 0) : Met l my_M_byteAt (wB my_M_byteAt cd_M_byteAt 2 (some .int)) ({ frames := 1, cells := 0, slots := 0, locals := 21 }) (va_Pc [.ref aM, .int i] (PcW (dC, dI) [(aM, .inr (7, [.int co, .ref a1, .int (nI ks), .int (nI dn), .ref a2, .ref a3, .ref a4, .ref a5, .ref a6, .int (nI xa), .int ri, .int fa, .int fq, .int bg, .long tm, .int ka, .long kb, .int va, .long vb])), (a1, .inl (c1_, 16384, .inl tp))] [(c1_, .int)] sz)) (va_Qi (fun (r : Int32) => fun (_ : Unit) => r = 0) (fun _ => EnW (dC, dI) (va_A [(aM, .inr (7, [.int co, .ref a1, .int (nI ks), .int (nI dn), .ref a2, .ref a3, .ref a4, .ref a5, .ref a6, .int (nI xa), .int ri, .int fa, .int fq, .int bg, .long tm, .int ka, .long kb, .int va, .long vb])), (a1, .inl (c1_, 16384, .inl tp))] sz) [(aM, .inr (7, [.int 1, .ref a1, .int (nI ks), .int (nI dn), .ref a2, .ref a3, .ref a4, .ref a5, .ref a6, .int (nI xa), .int ri, .int fa, .int fq, .int bg, .long tm, .int ka, .long kb, .int va, .long vb])), (a1, .inl (c1_, 16384, .inl tp))] [(c1_, .int)]) (va_A [(aM, .inr (7, [.int co, .ref a1, .int (nI ks), .int (nI dn), .ref a2, .ref a3, .ref a4, .ref a5, .ref a6, .int (nI xa), .int ri, .int fa, .int fq, .int bg, .long tm, .int ka, .long kb, .int va, .long vb])), (a1, .inl (c1_, 16384, .inl tp))] sz)) 0 0 (va_A [(aM, .inr (7, [.int co, .ref a1, .int (nI ks), .int (nI dn), .ref a2, .ref a3, .ref a4, .ref a5, .ref a6, .int (nI xa), .int ri, .int fa, .int fq, .int bg, .long tm, .int ka, .long kb, .int va, .long vb])), (a1, .inl (c1_, 16384, .inl tp))] sz) := by
  refine Met.ofW (cc := cd_M_byteAt) (maxL := 2) (ret := (some .int)) (by decide) rfl ?_
  intro p e s m args below meth c s₁ B hml hv
  obtain ⟨rfl, hsz, hP, hK, hD0, hG⟩ := hv
  have hx := B.exec
  have hb := B.bytes
  have hr := B.returns
  have hts := fun (w : Cond) (h : w ∈ bigT) => atoms_spec (ws := (wB my_M_byteAt cd_M_byteAt 2 (some .int))) B.pre w (List.mem_cons_of_mem _ h)
  have hown : s.vm.findClass rn_M = some m.cls := findClass_of_methodNamed B.named
  have hlocks := B.notSynchronized
  subst hsz
  have hD := hD0.self (sz := s.heap.size)
  generalize hAe : va_A [(aM, .inr (7, [.int co, .ref a1, .int (nI ks), .int (nI dn), .ref a2, .ref a3, .ref a4, .ref a5, .ref a6, .int (nI xa), .int ri, .int fa, .int fq, .int bg, .long tm, .int ka, .long kb, .int va, .long vb])), (a1, .inl (c1_, 16384, .inl tp))] s.heap.size = A at hD hG ⊢
  have hA : ∀ q : Nat, s.heap.size ≤ q → A q := fun q h => by rw [← hAe]; exact Or.inr h
  have hS : va_S A s.heap s.heap [] := va_S.rf
  have hP : va_P (dC, dI) vwCl [(aM, .inr (7, [.int co, .ref a1, .int (nI ks), .int (nI dn), .ref a2, .ref a3, .ref a4, .ref a5, .ref a6, .int (nI xa), .int ri, .int fa, .int fq, .int bg, .long tm, .int ka, .long kb, .int va, .long vb])), (a1, .inl (c1_, 16384, .inl tp))] s.heap := hP
  have hl := lv_entry ([.ref aM, .int i]) (n := 2) (Nat.le_of_ble_eq_true rfl)
  rw [lg_entry_eq]
  generalize (lg_sl ([.ref aM, .int i]) ++ List.replicate (2 - (lg_sl ([.ref aM, .int i])).length) Slot.unset).toArray = ls at hl ⊢
  have hl : lv_has ls 2 [(0, .ref aM), (1, .int i)] := hl
  refine lv_aload_n hx hb dc_M_byteAt_0 rfl (lv_at hl 0 rfl) ?_
  refine lv_aload_n hx hb dc_M_byteAt_1 rfl (lv_at hl 0 rfl) ?_
  refine lv_iload_n hx hb dc_M_byteAt_2 rfl (lv_at hl 1 rfl) ?_
  refine kc_i (wc := [(aM, .inr (7, [.int co, .ref a1, .int (nI ks), .int (nI dn), .ref a2, .ref a3, .ref a4, .ref a5, .ref a6, .int (nI xa), .int ri, .int fa, .int fq, .int bg, .long tm, .int ka, .long kb, .int va, .long vb]))]) (wr := [(a1, .inl (c1_, 16384, .inl tp))]) hP hD hS hA [0] [1] rfl rfl (by decide) (by decide) (va_runV (As := [.int i]) (rest := [.ref aM]) ⟨hx, hb, hml, hown, hts⟩ (c_M_isByte l dC dI _ aM co a1 ks dn a2 a3 a4 a5 a6 xa ri fa fq bg tm ka kb va vb i ) (kw_V 1 hts bw3_239 bw4_1 bws_13 bw1_9 bw4_2 rfl rfl (by decide +kernel) ⟨Nat.le_of_ble_eq_true rfl, Nat.le_of_ble_eq_true rfl⟩) (kp_V (wc := [(aM, .inr (7, [.int co, .ref a1, .int (nI ks), .int (nI dn), .ref a2, .ref a3, .ref a4, .ref a5, .ref a6, .int (nI xa), .int ri, .int fa, .int fq, .int bg, .long tm, .int ka, .long kb, .int va, .long vb]))]) (tc := []) (As := [.int i]) hG hS hA hP hD hK [0] rfl (by decide) rfl [] rfl (ci := 7) (q0 := 0) rfl rfl) rfl rfl hl.1 rfl (lv_room (Nat.le_of_ble_eq_true rfl)) dc_M_byteAt_3 ⟨Nat.zero_le _, Nat.zero_le _⟩) (fun r_1 _ H locs hw hP hD hK1 hS => ?_)
  subst hw
  have hP : va_P (dC, dI) vwCl [(a1, .inl (c1_, 16384, .inl tp)), (aM, .inr (7, [.int co, .ref a1, .int (nI ks), .int (nI dn), .ref a2, .ref a3, .ref a4, .ref a5, .ref a6, .int (nI xa), .int ri, .int fa, .int fq, .int bg, .long tm, .int ka, .long kb, .int va, .long vb]))] H := hP
  have hD : va_D A [(a1, .inl (c1_, 16384, .inl tp)), (aM, .inr (7, [.int co, .ref a1, .int (nI ks), .int (nI dn), .ref a2, .ref a3, .ref a4, .ref a5, .ref a6, .int (nI xa), .int ri, .int fa, .int fq, .int bg, .long tm, .int ka, .long kb, .int va, .long vb]))] := hD
  refine w_join (σ := Unit) (fun v14_ H locs ls => va_P (dC, dI) vwCl [(a1, .inl (c1_, 16384, .inl tp)), (aM, .inr (7, [.int co, .ref a1, .int (nI ks), .int (nI dn), .ref a2, .ref a3, .ref a4, .ref a5, .ref a6, .int (nI xa), .int ri, .int fa, .int fq, .int bg, .long tm, .int ka, .long kb, .int va, .long vb]))] H ∧ va_D A [(a1, .inl (c1_, 16384, .inl tp)), (aM, .inr (7, [.int co, .ref a1, .int (nI ks), .int (nI dn), .ref a2, .ref a3, .ref a4, .ref a5, .ref a6, .int (nI xa), .int ri, .int fa, .int fq, .int bg, .long tm, .int ka, .long kb, .int va, .long vb]))] ∧ va_S A s.heap H locs ∧ lv_has ls 2 [(0, .ref aM), (1, .int i)]) (fun v14_ ls => F0 m 14 ls [.int 1, .ref aM]) ?_ (fun hJ14 => ?_)
  · rintro v14_ H locs ls ⟨hP, hD, hS, hl⟩
    have hP : va_P (dC, dI) vwCl [(a1, .inl (c1_, 16384, .inl tp)), (aM, .inr (7, [.int co, .ref a1, .int (nI ks), .int (nI dn), .ref a2, .ref a3, .ref a4, .ref a5, .ref a6, .int (nI xa), .int ri, .int fa, .int fq, .int bg, .long tm, .int ka, .long kb, .int va, .long vb]))] H := hP
    have hD : va_D A [(a1, .inl (c1_, 16384, .inl tp)), (aM, .inr (7, [.int co, .ref a1, .int (nI ks), .int (nI dn), .ref a2, .ref a3, .ref a4, .ref a5, .ref a6, .int (nI xa), .int ri, .int fa, .int fq, .int bg, .long tm, .int ka, .long kb, .int va, .long vb]))] := hD
    have hl : lv_has ls 2 [(0, .ref aM), (1, .int i)] := hl
    show W _ _ _ _ _ _ _ _ _ _ _ _ _ _ _ (F0 m 14 ls [.int 1, .ref aM])
    refine va_put (D := (dC, dI)) (ci := 7) (v := .int 1) (ty := .int) (C := rn_M) (T := ft_M) (N := 19) hx hb hts fw_M fy_M fo_M fn_M hown hK hP hD hS 1 rfl rfl 0 (by decide) (hts _ bw3_159) (fun _ h9 => h9) rfl (by decide +kernel) rfl rfl (Nat.le_of_ble_eq_true rfl) dc_M_byteAt_14 (fun H locs hP hD hS => ?_)
    have hP : va_P (dC, dI) vwCl [(a1, .inl (c1_, 16384, .inl tp)), (aM, .inr (7, [.int 1, .ref a1, .int (nI ks), .int (nI dn), .ref a2, .ref a3, .ref a4, .ref a5, .ref a6, .int (nI xa), .int ri, .int fa, .int fq, .int bg, .long tm, .int ka, .long kb, .int va, .long vb]))] H := hP
    have hD : va_D A [(a1, .inl (c1_, 16384, .inl tp)), (aM, .inr (7, [.int 1, .ref a1, .int (nI ks), .int (nI dn), .ref a2, .ref a3, .ref a4, .ref a5, .ref a6, .int (nI xa), .int ri, .int fa, .int fq, .int bg, .long tm, .int ka, .long kb, .int va, .long vb]))] := hD
    refine lv_aload_n hx hb dc_M_byteAt_17 rfl (lv_at hl 0 rfl) ?_
    refine va_get (D := (dC, dI)) (ci := 7) (v := .int 1) (C := rn_M) (T := ft_M) (N := 19) hx hb hts fw_M hown hK hP 1 rfl rfl 0 (by decide) (hts _ bw3_159) (fun _ h9 => h9) rfl dc_M_byteAt_18 ?_
    refine w_join (σ := Unit) (fun v34_ H locs ls => va_P (dC, dI) vwCl [(a1, .inl (c1_, 16384, .inl tp)), (aM, .inr (7, [.int 1, .ref a1, .int (nI ks), .int (nI dn), .ref a2, .ref a3, .ref a4, .ref a5, .ref a6, .int (nI xa), .int ri, .int fa, .int fq, .int bg, .long tm, .int ka, .long kb, .int va, .long vb]))] H ∧ va_D A [(a1, .inl (c1_, 16384, .inl tp)), (aM, .inr (7, [.int 1, .ref a1, .int (nI ks), .int (nI dn), .ref a2, .ref a3, .ref a4, .ref a5, .ref a6, .int (nI xa), .int ri, .int fa, .int fq, .int bg, .long tm, .int ka, .long kb, .int va, .long vb]))] ∧ va_S A s.heap H locs ∧ lv_has ls 2 [(0, .ref aM), (1, .int i)]) (fun v34_ ls => F0 m 34 ls [.int 0]) ?_ (fun hJ34 => ?_)
    · rintro v34_ H locs ls ⟨hP, hD, hS, hl⟩
      have hP : va_P (dC, dI) vwCl [(a1, .inl (c1_, 16384, .inl tp)), (aM, .inr (7, [.int 1, .ref a1, .int (nI ks), .int (nI dn), .ref a2, .ref a3, .ref a4, .ref a5, .ref a6, .int (nI xa), .int ri, .int fa, .int fq, .int bg, .long tm, .int ka, .long kb, .int va, .long vb]))] H := hP
      have hD : va_D A [(a1, .inl (c1_, 16384, .inl tp)), (aM, .inr (7, [.int 1, .ref a1, .int (nI ks), .int (nI dn), .ref a2, .ref a3, .ref a4, .ref a5, .ref a6, .int (nI xa), .int ri, .int fa, .int fq, .int bg, .long tm, .int ka, .long kb, .int va, .long vb]))] := hD
      have hl : lv_has ls 2 [(0, .ref aM), (1, .int i)] := hl
      show W _ _ _ _ _ _ _ _ _ _ _ _ _ _ _ (F0 m 34 ls [.int 0])
      have hP9 := hP.sub (ws' := [(aM, .inr (7, [.int 1, .ref a1, .int (nI ks), .int (nI dn), .ref a2, .ref a3, .ref a4, .ref a5, .ref a6, .int (nI xa), .int ri, .int fa, .int fq, .int bg, .long tm, .int ka, .long kb, .int va, .long vb])), (a1, .inl (c1_, 16384, .inl tp))]) [1, 0] rfl
      have hD9 := hD.sub (ws' := [(aM, .inr (7, [.int 1, .ref a1, .int (nI ks), .int (nI dn), .ref a2, .ref a3, .ref a4, .ref a5, .ref a6, .int (nI xa), .int ri, .int fa, .int fq, .int bg, .long tm, .int ka, .long kb, .int va, .long vb])), (a1, .inl (c1_, 16384, .inl tp))]) [1, 0] (by decide) rfl
      have hK9 := hK.sub (tys' := [(c1_, .int)]) [0] rfl
      exact W.iret (v := 0) hx hb hr (fun t ht hW => ⟨⟨0, (), rfl, rfl, by rw [ht]; exact hP9, va_K.moved hW.alike hK9, hD9⟩, hS.F ht⟩) hS.2.2 dc_M_byteAt_34
    · refine lv_if_le (tgt := 28) hx hb dc_M_byteAt_21 (by decide) (fun c_2 => ?_) (fun c_2 => ?_)
      · exact absurd c_2 (by decide)
      · refine lv_iconst (v := 0) hx hb dc_M_byteAt_24 (by decide) ?_
        refine lv_goto (tgt := 34) hx hb dc_M_byteAt_25 (by decide) ?_
        exact hJ34 () _ _ _ ⟨hP.sub [0, 1] rfl, hD.sub [0, 1] (by decide) rfl, hS, lv_sub hl [0, 1] rfl⟩
  · refine lv_if_eq (tgt := 13) hx hb dc_M_byteAt_6 (by decide) (fun c_3 => ?_) (fun c_3 => ?_)
    · refine lv_iconst (v := 1) hx hb dc_M_byteAt_13 (by decide) ?_
      exact hJ14 () _ _ _ ⟨hP.sub [0, 1] rfl, hD.sub [0, 1] (by decide) rfl, hS, lv_sub hl [0, 1] rfl⟩
    · exact absurd (hj) c_3

set_option maxHeartbeats 1000000 in
set_option maxRecDepth 100000 in
theorem c_M_number (l : Launch) (dC : Nat → ClassId) (dI : Nat → Nat → Nat) (sz : Nat) (aM : Nat) (co : Int32) (a1 : Nat) (ks : Nat) (dn : Nat) (a2 : Nat) (a3 : Nat) (a4 : Nat) (a5 : Nat) (a6 : Nat) (xa : Nat) (ri : Int32) (fa : Int32) (fq : Int32) (bg : Int32) (tm : Int64) (ka : Int32) (kb : Int64) (va : Int32) (vb : Int64) (c1_ : ClassId) (tp : Nat → Int32) (a : Nat) (j : Nat) (ha : a + j ≤ 16384) (ha2 : a < 16384) : Met l my_M_number (wB my_M_number cd_M_number 6 (some .long)) ({ frames := 0, cells := 0, slots := 0, locals := 0 }) (va_Pc [.ref aM, .int (nI a), .int (nI j)] (PcW (dC, dI) [(aM, .inr (7, [.int co, .ref a1, .int (nI ks), .int (nI dn), .ref a2, .ref a3, .ref a4, .ref a5, .ref a6, .int (nI xa), .int ri, .int fa, .int fq, .int bg, .long tm, .int ka, .long kb, .int va, .long vb])), (a1, .inl (c1_, 16384, .inl tp))] [(c1_, .int)] sz)) (va_Ql (fun (r : Int64) => fun (_ : Unit) => r = mnum tp a j) (fun _ => EnW (dC, dI) (va_A [(aM, .inr (7, [.int co, .ref a1, .int (nI ks), .int (nI dn), .ref a2, .ref a3, .ref a4, .ref a5, .ref a6, .int (nI xa), .int ri, .int fa, .int fq, .int bg, .long tm, .int ka, .long kb, .int va, .long vb])), (a1, .inl (c1_, 16384, .inl tp))] sz) [(aM, .inr (7, [.int co, .ref a1, .int (nI ks), .int (nI dn), .ref a2, .ref a3, .ref a4, .ref a5, .ref a6, .int (nI xa), .int ri, .int fa, .int fq, .int bg, .long tm, .int ka, .long kb, .int va, .long vb])), (a1, .inl (c1_, 16384, .inl tp))] [(c1_, .int)]) (va_A [(aM, .inr (7, [.int co, .ref a1, .int (nI ks), .int (nI dn), .ref a2, .ref a3, .ref a4, .ref a5, .ref a6, .int (nI xa), .int ri, .int fa, .int fq, .int bg, .long tm, .int ka, .long kb, .int va, .long vb])), (a1, .inl (c1_, 16384, .inl tp))] sz)) 0 0 (va_A [(aM, .inr (7, [.int co, .ref a1, .int (nI ks), .int (nI dn), .ref a2, .ref a3, .ref a4, .ref a5, .ref a6, .int (nI xa), .int ri, .int fa, .int fq, .int bg, .long tm, .int ka, .long kb, .int va, .long vb])), (a1, .inl (c1_, 16384, .inl tp))] sz) := by
  refine Met.ofW (cc := cd_M_number) (maxL := 6) (ret := (some .long)) (by decide) rfl ?_
  intro p e s m args below meth c s₁ B hml hv
  obtain ⟨rfl, hsz, hP, hK, hD0, hG⟩ := hv
  have hx := B.exec
  have hb := B.bytes
  have hr := B.returns
  have hts := fun (w : Cond) (h : w ∈ bigT) => atoms_spec (ws := (wB my_M_number cd_M_number 6 (some .long))) B.pre w (List.mem_cons_of_mem _ h)
  have hown : s.vm.findClass rn_M = some m.cls := findClass_of_methodNamed B.named
  have hlocks := B.notSynchronized
  subst hsz
  have hD := hD0.self (sz := s.heap.size)
  generalize hAe : va_A [(aM, .inr (7, [.int co, .ref a1, .int (nI ks), .int (nI dn), .ref a2, .ref a3, .ref a4, .ref a5, .ref a6, .int (nI xa), .int ri, .int fa, .int fq, .int bg, .long tm, .int ka, .long kb, .int va, .long vb])), (a1, .inl (c1_, 16384, .inl tp))] s.heap.size = A at hD hG ⊢
  have hA : ∀ q : Nat, s.heap.size ≤ q → A q := fun q h => by rw [← hAe]; exact Or.inr h
  have hS : va_S A s.heap s.heap [] := va_S.rf
  have hP : va_P (dC, dI) vwCl [(aM, .inr (7, [.int co, .ref a1, .int (nI ks), .int (nI dn), .ref a2, .ref a3, .ref a4, .ref a5, .ref a6, .int (nI xa), .int ri, .int fa, .int fq, .int bg, .long tm, .int ka, .long kb, .int va, .long vb])), (a1, .inl (c1_, 16384, .inl tp))] s.heap := hP
  have hl := lv_entry ([.ref aM, .int (nI a), .int (nI j)]) (n := 6) (Nat.le_of_ble_eq_true rfl)
  rw [lg_entry_eq]
  generalize (lg_sl ([.ref aM, .int (nI a), .int (nI j)]) ++ List.replicate (6 - (lg_sl ([.ref aM, .int (nI a), .int (nI j)])).length) Slot.unset).toArray = ls at hl ⊢
  have hl : lv_has ls 6 [(0, .ref aM), (1, .int (nI a)), (2, .int (nI j))] := hl
  refine lv_aload_n hx hb dc_M_number_0 rfl (lv_at hl 0 rfl) ?_
  refine va_get (D := (dC, dI)) (ci := 7) (v := .ref a1) (C := rn_M) (T := ft_M) (N := 19) hx hb hts fw_M hown hK hP 0 rfl rfl 1 (by decide) (hts _ bw3_160) (fun _ h9 => h9) rfl dc_M_number_1 ?_
  refine lv_iload_n hx hb dc_M_number_4 rfl (lv_at hl 1 rfl) ?_
  refine va_iald hx hb hK hP 1 0 rfl rfl (vp_in_nI (by omega) (by omega)) dc_M_number_5 ?_
  rw [show (nI a).toNatClampNeg = a from nI_clamp (by omega)]
  refine lv_bipush (v := 127) hx hb dc_M_number_6 (by decide) ?_
  refine w_join (σ := Int64) (fun v18_0 H locs ls => v18_0 = (if (tp a) ≤ 127 then 0 else (-1)) ∧ va_P (dC, dI) vwCl [(aM, .inr (7, [.int co, .ref a1, .int (nI ks), .int (nI dn), .ref a2, .ref a3, .ref a4, .ref a5, .ref a6, .int (nI xa), .int ri, .int fa, .int fq, .int bg, .long tm, .int ka, .long kb, .int va, .long vb])), (a1, .inl (c1_, 16384, .inl tp))] H ∧ va_D A [(aM, .inr (7, [.int co, .ref a1, .int (nI ks), .int (nI dn), .ref a2, .ref a3, .ref a4, .ref a5, .ref a6, .int (nI xa), .int ri, .int fa, .int fq, .int bg, .long tm, .int ka, .long kb, .int va, .long vb])), (a1, .inl (c1_, 16384, .inl tp))] ∧ va_S A s.heap H locs ∧ lv_has ls 6 [(0, .ref aM), (1, .int (nI a)), (2, .int (nI j))]) (fun v18_0 ls => F0 m 18 ls [.long v18_0]) ?_ (fun hJ18 => ?_)
  · rintro v18_0 H locs ls ⟨ev18_0, hP, hD, hS, hl⟩
    have hP : va_P (dC, dI) vwCl [(aM, .inr (7, [.int co, .ref a1, .int (nI ks), .int (nI dn), .ref a2, .ref a3, .ref a4, .ref a5, .ref a6, .int (nI xa), .int ri, .int fa, .int fq, .int bg, .long tm, .int ka, .long kb, .int va, .long vb])), (a1, .inl (c1_, 16384, .inl tp))] H := hP
    have hD : va_D A [(aM, .inr (7, [.int co, .ref a1, .int (nI ks), .int (nI dn), .ref a2, .ref a3, .ref a4, .ref a5, .ref a6, .int (nI xa), .int ri, .int fa, .int fq, .int bg, .long tm, .int ka, .long kb, .int va, .long vb])), (a1, .inl (c1_, 16384, .inl tp))] := hD
    have hl : lv_has ls 6 [(0, .ref aM), (1, .int (nI a)), (2, .int (nI j))] := hl
    show W _ _ _ _ _ _ _ _ _ _ _ _ _ _ _ (F0 m 18 ls [.long v18_0])
    refine lv_lstore_n (lv' := [(3, .long v18_0), (0, .ref aM), (1, .int (nI a)), (2, .int (nI j))]) hx hb dc_M_number_18 rfl hl (by decide) rfl (fun ls hl => ?_)
    refine lv_iconst (v := 0) hx hb dc_M_number_19 (by decide) ?_
    refine lv_istore (lv' := [(5, .int 0), (3, .long v18_0), (0, .ref aM), (1, .int (nI a)), (2, .int (nI j))]) hx hb dc_M_number_20 hl (by decide) rfl (fun ls hl => ?_)
    have e_1 : v18_0 = (mnl tp (if tp a ≤ 127 then 0 else (-1)) a 0) := by exact ev18_0.trans rfl
    have hl := wL_eq (lv' := [(5, .int (nI 0)), (3, .long (mnl tp (if tp a ≤ 127 then 0 else (-1)) a 0)), (0, .ref aM), (1, .int (nI a)), (2, .int (nI j))]) hl (cg1 (fun y0 => ([(5, .int (nI 0)), (3, .long y0), (0, .ref aM), (1, .int (nI a)), (2, .int (nI j))] : List (Nat × Value))) e_1)
    refine w_loop (σ := Nat) (fun i H locs ls => i ≤ j ∧ va_P (dC, dI) vwCl [(aM, .inr (7, [.int co, .ref a1, .int (nI ks), .int (nI dn), .ref a2, .ref a3, .ref a4, .ref a5, .ref a6, .int (nI xa), .int ri, .int fa, .int fq, .int bg, .long tm, .int ka, .long kb, .int va, .long vb])), (a1, .inl (c1_, 16384, .inl tp))] H ∧ va_D A [(aM, .inr (7, [.int co, .ref a1, .int (nI ks), .int (nI dn), .ref a2, .ref a3, .ref a4, .ref a5, .ref a6, .int (nI xa), .int ri, .int fa, .int fq, .int bg, .long tm, .int ka, .long kb, .int va, .long vb])), (a1, .inl (c1_, 16384, .inl tp))] ∧ va_S A s.heap H locs ∧ lv_has ls 6 [(5, .int (nI i)), (3, .long (mnl tp (if tp a ≤ 127 then 0 else (-1)) a i)), (0, .ref aM), (1, .int (nI a)), (2, .int (nI j))]) (fun i ls => F0 m 22 ls []) (fun _ => 0) (fun _ => 0) (fun i => j - i) ?_ 0 _ _ _ ⟨by show 0 ≤ j; omega, hP.sub [0, 1] rfl, hD.sub [0, 1] (by decide) rfl, hS, lv_sub hl [0, 1, 2, 3, 4] rfl⟩
    rintro i H locs ls ⟨hi, hP, hD, hS, hl⟩ ih22
    have hP : va_P (dC, dI) vwCl [(aM, .inr (7, [.int co, .ref a1, .int (nI ks), .int (nI dn), .ref a2, .ref a3, .ref a4, .ref a5, .ref a6, .int (nI xa), .int ri, .int fa, .int fq, .int bg, .long tm, .int ka, .long kb, .int va, .long vb])), (a1, .inl (c1_, 16384, .inl tp))] H := hP
    have hD : va_D A [(aM, .inr (7, [.int co, .ref a1, .int (nI ks), .int (nI dn), .ref a2, .ref a3, .ref a4, .ref a5, .ref a6, .int (nI xa), .int ri, .int fa, .int fq, .int bg, .long tm, .int ka, .long kb, .int va, .long vb])), (a1, .inl (c1_, 16384, .inl tp))] := hD
    have hl : lv_has ls 6 [(5, .int (nI i)), (3, .long (mnl tp (if tp a ≤ 127 then 0 else (-1)) a i)), (0, .ref aM), (1, .int (nI a)), (2, .int (nI j))] := hl
    show W _ _ _ _ _ _ _ _ _ _ _ _ _ _ _ (F0 m 22 ls [])
    have hi : i ≤ j := hi
    refine lv_iload hx hb dc_M_number_22 (lv_at hl 0 rfl) ?_
    refine lv_iload_n hx hb dc_M_number_24 rfl (lv_at hl 4 rfl) ?_
    refine lv_icmp_ge (tgt := 50) hx hb dc_M_number_25 (by decide) (fun c_2 => ?_) (fun c_2 => ?_)
    · have hij : i = j := by have := (nI_leI (by omega) (by omega)).mp c_2; omega
      refine lv_lload_n hx hb dc_M_number_50 rfl (lv_at hl 1 rfl) ?_
      have hP9 := hP.sub (ws' := [(aM, .inr (7, [.int co, .ref a1, .int (nI ks), .int (nI dn), .ref a2, .ref a3, .ref a4, .ref a5, .ref a6, .int (nI xa), .int ri, .int fa, .int fq, .int bg, .long tm, .int ka, .long kb, .int va, .long vb])), (a1, .inl (c1_, 16384, .inl tp))]) [0, 1] rfl
      have hD9 := hD.sub (ws' := [(aM, .inr (7, [.int co, .ref a1, .int (nI ks), .int (nI dn), .ref a2, .ref a3, .ref a4, .ref a5, .ref a6, .int (nI xa), .int ri, .int fa, .int fq, .int bg, .long tm, .int ka, .long kb, .int va, .long vb])), (a1, .inl (c1_, 16384, .inl tp))]) [0, 1] (by decide) rfl
      have hK9 := hK.sub (tys' := [(c1_, .int)]) [0] rfl
      exact W.lret (v := (mnl tp (if tp a ≤ 127 then 0 else (-1)) a i)) hx hb hr (fun t ht hW => ⟨⟨(mnl tp (if tp a ≤ 127 then 0 else (-1)) a i), (), rfl, by rw [mnum_alt, hij], by rw [ht]; exact hP9, va_K.moved hW.alike hK9, hD9⟩, hS.F ht⟩) hS.2.2 dc_M_number_51
    · have hlt : i < j := by rcases Nat.lt_or_ge i j with h | h; exact h; exact absurd (nI_le h (by omega)) c_2
      refine lv_lload_n hx hb dc_M_number_28 rfl (lv_at hl 1 rfl) ?_
      refine lv_bipush (v := 8) hx hb dc_M_number_29 (by decide) ?_
      refine lv_lshl (v := (mnl tp (if tp a ≤ 127 then 0 else (-1)) a i) <<< ((8 : Int32).toInt64 &&& 63)) hx hb dc_M_number_31 rfl ?_
      refine lv_aload_n hx hb dc_M_number_32 rfl (lv_at hl 2 rfl) ?_
      refine va_get (D := (dC, dI)) (ci := 7) (v := .ref a1) (C := rn_M) (T := ft_M) (N := 19) hx hb hts fw_M hown hK hP 0 rfl rfl 1 (by decide) (hts _ bw3_160) (fun _ h9 => h9) rfl dc_M_number_33 ?_
      refine lv_iload_n hx hb dc_M_number_36 rfl (lv_at hl 3 rfl) ?_
      refine lv_iload hx hb dc_M_number_37 (lv_at hl 0 rfl) ?_
      refine lv_iadd hx hb dc_M_number_39 ?_
      have h_3 : (nI a) + (nI i) = nI (a + i) := by exact nI_add a i
      rw [h_3]
      refine va_iald hx hb hK hP 1 0 rfl rfl (vp_in_nI (by omega) (by omega)) dc_M_number_40 ?_
      rw [show (nI (a + i)).toNatClampNeg = a + i from nI_clamp (by omega)]
      refine lv_i2l (v := (tp (a + i)).toInt64) hx hb dc_M_number_41 rfl ?_
      refine lv_lor hx hb dc_M_number_42 ?_
      refine lv_lstore_n (lv' := [(3, .long (((mnl tp (if tp a ≤ 127 then 0 else (-1)) a i) <<< ((8 : Int32).toInt64 &&& 63)) ||| ((tp (a + i)).toInt64))), (5, .int (nI i)), (0, .ref aM), (1, .int (nI a)), (2, .int (nI j))]) hx hb dc_M_number_43 rfl hl (by decide) rfl (fun ls hl => ?_)
      refine lv_iinc (v := ((nI i) + 1)) (lv' := [(5, .int ((nI i) + 1)), (3, .long (((mnl tp (if tp a ≤ 127 then 0 else (-1)) a i) <<< ((8 : Int32).toInt64 &&& 63)) ||| ((tp (a + i)).toInt64))), (0, .ref aM), (1, .int (nI a)), (2, .int (nI j))]) hx hb dc_M_number_44 hl (k := 1) rfl rfl (by decide) rfl (fun ls hl => ?_)
      refine lv_goto (tgt := 22) hx hb dc_M_number_47 (by decide) ?_
      have e_4 : ((nI i) + 1) = (nI (i + 1)) := by first | exact nI_1 _ | rfl
      have e_5 : (((mnl tp (if tp a ≤ 127 then 0 else (-1)) a i) <<< ((8 : Int32).toInt64 &&& 63)) ||| ((tp (a + i)).toInt64)) = (mnl tp (if tp a ≤ 127 then 0 else (-1)) a (i + 1)) := by first | exact nI_1 _ | rfl
      have hl := wL_eq (lv' := [(5, .int (nI (i + 1))), (3, .long (mnl tp (if tp a ≤ 127 then 0 else (-1)) a (i + 1))), (0, .ref aM), (1, .int (nI a)), (2, .int (nI j))]) hl (cg2 (fun y0 y1 => ([(5, .int y0), (3, .long y1), (0, .ref aM), (1, .int (nI a)), (2, .int (nI j))] : List (Nat × Value))) e_4 e_5)
      exact ih22 (i + 1) _ _ _ ⟨by show (i + 1) ≤ j; omega, hP.sub [0, 1] rfl, hD.sub [0, 1] (by decide) rfl, hS, lv_sub hl [0, 1, 2, 3, 4] rfl⟩ (by show j - (i + 1) < j - i; omega)
  · refine lv_icmp_le (tgt := 17) hx hb dc_M_number_8 (by decide) (fun c_6 => ?_) (fun c_6 => ?_)
    · refine lv_lconst (v := 0) hx hb dc_M_number_17 rfl ?_
      exact hJ18 0 _ _ _ ⟨by rw [if_pos c_6], hP.sub [0, 1] rfl, hD.sub [0, 1] (by decide) rfl, hS, lv_sub hl [0, 1, 2] rfl⟩
    · refine lv_ldc2 (v := (-1)) hx hb hown (hts _ bw4_74) dc_M_number_11 ?_
      refine lv_goto (tgt := 18) hx hb dc_M_number_14 (by decide) ?_
      exact hJ18 (-1) _ _ _ ⟨by rw [if_neg c_6], hP.sub [0, 1] rfl, hD.sub [0, 1] (by decide) rfl, hS, lv_sub hl [0, 1, 2] rfl⟩

set_option maxHeartbeats 1000000 in
set_option maxRecDepth 100000 in
theorem c_M_start (l : Launch) (dC : Nat → ClassId) (dI : Nat → Nat → Nat) (sz : Nat) (aM : Nat) (co : Int32) (a1 : Nat) (ks : Nat) (dn : Nat) (a2 : Nat) (a3 : Nat) (a4 : Nat) (a5 : Nat) (a6 : Nat) (xa : Nat) (ri : Int32) (fa : Int32) (fq : Int32) (bg : Int32) (tm : Int64) (ka : Int32) (kb : Int64) (va : Int32) (vb : Int64) (c1_ : ClassId) (tp : Nat → Int32) (a : Nat) (v : Int64) (ha : a + st8 v ≤ 16384) : Met l my_M_start (wB my_M_start cd_M_start 7 (some .long)) ({ frames := 0, cells := 0, slots := 0, locals := 0 }) (va_Pc [.ref aM, .int (nI a), .long v] (PcW (dC, dI) [(aM, .inr (7, [.int co, .ref a1, .int (nI ks), .int (nI dn), .ref a2, .ref a3, .ref a4, .ref a5, .ref a6, .int (nI xa), .int ri, .int fa, .int fq, .int bg, .long tm, .int ka, .long kb, .int va, .long vb])), (a1, .inl (c1_, 16384, .inl tp))] [(c1_, .int)] sz)) (va_Ql (fun (r : Int64) => fun (_ : Unit) => r = mnl tp 0 a (st8 v)) (fun _ => EnW (dC, dI) (va_A [(aM, .inr (7, [.int co, .ref a1, .int (nI ks), .int (nI dn), .ref a2, .ref a3, .ref a4, .ref a5, .ref a6, .int (nI xa), .int ri, .int fa, .int fq, .int bg, .long tm, .int ka, .long kb, .int va, .long vb])), (a1, .inl (c1_, 16384, .inl tp))] sz) [(aM, .inr (7, [.int co, .ref a1, .int (nI ks), .int (nI dn), .ref a2, .ref a3, .ref a4, .ref a5, .ref a6, .int (nI xa), .int ri, .int fa, .int fq, .int bg, .long tm, .int ka, .long kb, .int va, .long vb])), (a1, .inl (c1_, 16384, .inl tp))] [(c1_, .int)]) (va_A [(aM, .inr (7, [.int co, .ref a1, .int (nI ks), .int (nI dn), .ref a2, .ref a3, .ref a4, .ref a5, .ref a6, .int (nI xa), .int ri, .int fa, .int fq, .int bg, .long tm, .int ka, .long kb, .int va, .long vb])), (a1, .inl (c1_, 16384, .inl tp))] sz)) 0 0 (va_A [(aM, .inr (7, [.int co, .ref a1, .int (nI ks), .int (nI dn), .ref a2, .ref a3, .ref a4, .ref a5, .ref a6, .int (nI xa), .int ri, .int fa, .int fq, .int bg, .long tm, .int ka, .long kb, .int va, .long vb])), (a1, .inl (c1_, 16384, .inl tp))] sz) := by
  refine Met.ofW (cc := cd_M_start) (maxL := 7) (ret := (some .long)) (by decide) rfl ?_
  intro p e s m args below meth c s₁ B hml hv
  obtain ⟨rfl, hsz, hP, hK, hD0, hG⟩ := hv
  have hx := B.exec
  have hb := B.bytes
  have hr := B.returns
  have hts := fun (w : Cond) (h : w ∈ bigT) => atoms_spec (ws := (wB my_M_start cd_M_start 7 (some .long))) B.pre w (List.mem_cons_of_mem _ h)
  have hown : s.vm.findClass rn_M = some m.cls := findClass_of_methodNamed B.named
  have hlocks := B.notSynchronized
  subst hsz
  have hD := hD0.self (sz := s.heap.size)
  generalize hAe : va_A [(aM, .inr (7, [.int co, .ref a1, .int (nI ks), .int (nI dn), .ref a2, .ref a3, .ref a4, .ref a5, .ref a6, .int (nI xa), .int ri, .int fa, .int fq, .int bg, .long tm, .int ka, .long kb, .int va, .long vb])), (a1, .inl (c1_, 16384, .inl tp))] s.heap.size = A at hD hG ⊢
  have hA : ∀ q : Nat, s.heap.size ≤ q → A q := fun q h => by rw [← hAe]; exact Or.inr h
  have hS : va_S A s.heap s.heap [] := va_S.rf
  have hP : va_P (dC, dI) vwCl [(aM, .inr (7, [.int co, .ref a1, .int (nI ks), .int (nI dn), .ref a2, .ref a3, .ref a4, .ref a5, .ref a6, .int (nI xa), .int ri, .int fa, .int fq, .int bg, .long tm, .int ka, .long kb, .int va, .long vb])), (a1, .inl (c1_, 16384, .inl tp))] s.heap := hP
  have hl := lv_entry ([.ref aM, .int (nI a), .long v]) (n := 7) (Nat.le_of_ble_eq_true rfl)
  rw [lg_entry_eq]
  generalize (lg_sl ([.ref aM, .int (nI a), .long v]) ++ List.replicate (7 - (lg_sl ([.ref aM, .int (nI a), .long v])).length) Slot.unset).toArray = ls at hl ⊢
  have hl : lv_has ls 7 [(0, .ref aM), (1, .int (nI a)), (2, .long v)] := hl
  refine lv_lconst (v := 0) hx hb dc_M_start_0 rfl ?_
  refine lv_lstore (lv' := [(4, .long 0), (0, .ref aM), (1, .int (nI a)), (2, .long v)]) hx hb dc_M_start_1 hl (by decide) rfl (fun ls hl => ?_)
  refine lv_iconst (v := 0) hx hb dc_M_start_3 (by decide) ?_
  refine lv_istore (lv' := [(6, .int 0), (4, .long 0), (0, .ref aM), (1, .int (nI a)), (2, .long v)]) hx hb dc_M_start_4 hl (by decide) rfl (fun ls hl => ?_)
  have e_1 : 0 = (mnl tp 0 a 0) := by rfl
  have hl := wL_eq (lv' := [(6, .int (nI 0)), (4, .long (mnl tp 0 a 0)), (0, .ref aM), (1, .int (nI a)), (2, .long v)]) hl (cg1 (fun y0 => ([(6, .int (nI 0)), (4, .long y0), (0, .ref aM), (1, .int (nI a)), (2, .long v)] : List (Nat × Value))) e_1)
  refine w_loop (σ := Nat) (fun i H locs ls => i ≤ st8 v ∧ va_P (dC, dI) vwCl [(aM, .inr (7, [.int co, .ref a1, .int (nI ks), .int (nI dn), .ref a2, .ref a3, .ref a4, .ref a5, .ref a6, .int (nI xa), .int ri, .int fa, .int fq, .int bg, .long tm, .int ka, .long kb, .int va, .long vb])), (a1, .inl (c1_, 16384, .inl tp))] H ∧ va_D A [(aM, .inr (7, [.int co, .ref a1, .int (nI ks), .int (nI dn), .ref a2, .ref a3, .ref a4, .ref a5, .ref a6, .int (nI xa), .int ri, .int fa, .int fq, .int bg, .long tm, .int ka, .long kb, .int va, .long vb])), (a1, .inl (c1_, 16384, .inl tp))] ∧ va_S A s.heap H locs ∧ lv_has ls 7 [(6, .int (nI i)), (4, .long (mnl tp 0 a i)), (0, .ref aM), (1, .int (nI a)), (2, .long v)]) (fun i ls => F0 m 6 ls []) (fun _ => 0) (fun _ => 0) (fun i => 8 - i) ?_ 0 _ _ _ ⟨(show 0 ≤ st8 v from Nat.zero_le _), hP.sub [0, 1] rfl, hD.sub [0, 1] (by decide) rfl, hS, lv_sub hl [0, 1, 2, 3, 4] rfl⟩
  rintro i H locs ls ⟨hi, hP, hD, hS, hl⟩ ih6
  have hP : va_P (dC, dI) vwCl [(aM, .inr (7, [.int co, .ref a1, .int (nI ks), .int (nI dn), .ref a2, .ref a3, .ref a4, .ref a5, .ref a6, .int (nI xa), .int ri, .int fa, .int fq, .int bg, .long tm, .int ka, .long kb, .int va, .long vb])), (a1, .inl (c1_, 16384, .inl tp))] H := hP
  have hD : va_D A [(aM, .inr (7, [.int co, .ref a1, .int (nI ks), .int (nI dn), .ref a2, .ref a3, .ref a4, .ref a5, .ref a6, .int (nI xa), .int ri, .int fa, .int fq, .int bg, .long tm, .int ka, .long kb, .int va, .long vb])), (a1, .inl (c1_, 16384, .inl tp))] := hD
  have hl : lv_has ls 7 [(6, .int (nI i)), (4, .long (mnl tp 0 a i)), (0, .ref aM), (1, .int (nI a)), (2, .long v)] := hl
  show W _ _ _ _ _ _ _ _ _ _ _ _ _ _ _ (F0 m 6 ls [])
  have hi : i ≤ st8 v := hi
  refine lv_iload hx hb dc_M_start_6 (lv_at hl 0 rfl) ?_
  refine lv_i2l (v := (nI i).toInt64) hx hb dc_M_start_8 rfl ?_
  refine lv_lload_n hx hb dc_M_start_9 rfl (lv_at hl 4 rfl) ?_
  refine W.lcmp hx hb dc_M_start_10 ?_
  refine lv_if_ge (tgt := 45) hx hb dc_M_start_11 (by decide) (fun c_2 => ?_) (fun c_2 => ?_)
  · have c_2 : v ≤ ((nI i).toInt64) := (lg_cmp_ge _ _).mp c_2
    have hs := st8_a hi c_2
    refine lv_lload hx hb dc_M_start_45 (lv_at hl 1 rfl) ?_
    have hP9 := hP.sub (ws' := [(aM, .inr (7, [.int co, .ref a1, .int (nI ks), .int (nI dn), .ref a2, .ref a3, .ref a4, .ref a5, .ref a6, .int (nI xa), .int ri, .int fa, .int fq, .int bg, .long tm, .int ka, .long kb, .int va, .long vb])), (a1, .inl (c1_, 16384, .inl tp))]) [0, 1] rfl
    have hD9 := hD.sub (ws' := [(aM, .inr (7, [.int co, .ref a1, .int (nI ks), .int (nI dn), .ref a2, .ref a3, .ref a4, .ref a5, .ref a6, .int (nI xa), .int ri, .int fa, .int fq, .int bg, .long tm, .int ka, .long kb, .int va, .long vb])), (a1, .inl (c1_, 16384, .inl tp))]) [0, 1] (by decide) rfl
    have hK9 := hK.sub (tys' := [(c1_, .int)]) [0] rfl
    exact W.lret (v := (mnl tp 0 a i)) hx hb hr (fun t ht hW => ⟨⟨(mnl tp 0 a i), (), rfl, by rw [hs], by rw [ht]; exact hP9, va_K.moved hW.alike hK9, hD9⟩, hS.F ht⟩) hS.2.2 dc_M_start_47
  · have c_2 : ¬ (v ≤ ((nI i).toInt64)) := fun h => c_2 ((lg_cmp_ge _ _).mpr h)
    have hs1 := c_2
    refine lv_iload hx hb dc_M_start_14 (lv_at hl 0 rfl) ?_
    refine lv_bipush (v := 8) hx hb dc_M_start_16 (by decide) ?_
    refine lv_icmp_ge (tgt := 45) hx hb dc_M_start_18 (by decide) (fun c_3 => ?_) (fun c_3 => ?_)
    · have hs := st8_b hi c_3
      refine lv_lload hx hb dc_M_start_45 (lv_at hl 1 rfl) ?_
      have hP9 := hP.sub (ws' := [(aM, .inr (7, [.int co, .ref a1, .int (nI ks), .int (nI dn), .ref a2, .ref a3, .ref a4, .ref a5, .ref a6, .int (nI xa), .int ri, .int fa, .int fq, .int bg, .long tm, .int ka, .long kb, .int va, .long vb])), (a1, .inl (c1_, 16384, .inl tp))]) [0, 1] rfl
      have hD9 := hD.sub (ws' := [(aM, .inr (7, [.int co, .ref a1, .int (nI ks), .int (nI dn), .ref a2, .ref a3, .ref a4, .ref a5, .ref a6, .int (nI xa), .int ri, .int fa, .int fq, .int bg, .long tm, .int ka, .long kb, .int va, .long vb])), (a1, .inl (c1_, 16384, .inl tp))]) [0, 1] (by decide) rfl
      have hK9 := hK.sub (tys' := [(c1_, .int)]) [0] rfl
      exact W.lret (v := (mnl tp 0 a i)) hx hb hr (fun t ht hW => ⟨⟨(mnl tp 0 a i), (), rfl, by rw [hs], by rw [ht]; exact hP9, va_K.moved hW.alike hK9, hD9⟩, hS.F ht⟩) hS.2.2 dc_M_start_47
    · have hlt : i < st8 v := st8_c hi hs1 c_3
      have hl8 := st8_8 v
      refine lv_lload hx hb dc_M_start_21 (lv_at hl 1 rfl) ?_
      refine lv_bipush (v := 8) hx hb dc_M_start_23 (by decide) ?_
      refine lv_lshl (v := (mnl tp 0 a i) <<< ((8 : Int32).toInt64 &&& 63)) hx hb dc_M_start_25 rfl ?_
      refine lv_aload_n hx hb dc_M_start_26 rfl (lv_at hl 2 rfl) ?_
      refine va_get (D := (dC, dI)) (ci := 7) (v := .ref a1) (C := rn_M) (T := ft_M) (N := 19) hx hb hts fw_M hown hK hP 0 rfl rfl 1 (by decide) (hts _ bw3_160) (fun _ h9 => h9) rfl dc_M_start_27 ?_
      refine lv_iload_n hx hb dc_M_start_30 rfl (lv_at hl 3 rfl) ?_
      refine lv_iload hx hb dc_M_start_31 (lv_at hl 0 rfl) ?_
      refine lv_iadd hx hb dc_M_start_33 ?_
      have h_4 : (nI a) + (nI i) = nI (a + i) := by exact nI_add a i
      rw [h_4]
      refine va_iald hx hb hK hP 1 0 rfl rfl (vp_in_nI (by omega) (by omega)) dc_M_start_34 ?_
      rw [show (nI (a + i)).toNatClampNeg = a + i from nI_clamp (by omega)]
      refine lv_i2l (v := (tp (a + i)).toInt64) hx hb dc_M_start_35 rfl ?_
      refine lv_lor hx hb dc_M_start_36 ?_
      refine lv_lstore (lv' := [(4, .long (((mnl tp 0 a i) <<< ((8 : Int32).toInt64 &&& 63)) ||| ((tp (a + i)).toInt64))), (6, .int (nI i)), (0, .ref aM), (1, .int (nI a)), (2, .long v)]) hx hb dc_M_start_37 hl (by decide) rfl (fun ls hl => ?_)
      refine lv_iinc (v := ((nI i) + 1)) (lv' := [(6, .int ((nI i) + 1)), (4, .long (((mnl tp 0 a i) <<< ((8 : Int32).toInt64 &&& 63)) ||| ((tp (a + i)).toInt64))), (0, .ref aM), (1, .int (nI a)), (2, .long v)]) hx hb dc_M_start_39 hl (k := 1) rfl rfl (by decide) rfl (fun ls hl => ?_)
      refine lv_goto (tgt := 6) hx hb dc_M_start_42 (by decide) ?_
      have e_5 : ((nI i) + 1) = (nI (i + 1)) := by first | exact nI_1 _ | rfl
      have e_6 : (((mnl tp 0 a i) <<< ((8 : Int32).toInt64 &&& 63)) ||| ((tp (a + i)).toInt64)) = (mnl tp 0 a (i + 1)) := by first | exact nI_1 _ | rfl
      have hl := wL_eq (lv' := [(6, .int (nI (i + 1))), (4, .long (mnl tp 0 a (i + 1))), (0, .ref aM), (1, .int (nI a)), (2, .long v)]) hl (cg2 (fun y0 y1 => ([(6, .int y0), (4, .long y1), (0, .ref aM), (1, .int (nI a)), (2, .long v)] : List (Nat × Value))) e_5 e_6)
      exact ih6 (i + 1) _ _ _ ⟨by show (i + 1) ≤ st8 v; omega, hP.sub [0, 1] rfl, hD.sub [0, 1] (by decide) rfl, hS, lv_sub hl [0, 1, 2, 3, 4] rfl⟩ (by show 8 - (i + 1) < 8 - i; omega)

set_option maxHeartbeats 1000000 in
set_option maxRecDepth 100000 in
theorem c_M_sum (l : Launch) (dC : Nat → ClassId) (dI : Nat → Nat → Nat) (sz : Nat) (aM : Nat) (co : Int32) (a1 : Nat) (ks : Nat) (dn : Nat) (a2 : Nat) (a3 : Nat) (a4 : Nat) (a5 : Nat) (a6 : Nat) (xa : Nat) (ri : Int32) (fa : Int32) (fq : Int32) (bg : Int32) (tm : Int64) (ka : Int32) (kb : Int64) (va : Int32) (vb : Int64) (c1_ : ClassId) (tp : Nat → Int32) (a : Nat) (b : Nat) (ha : a ≤ b) (hb1 : b ≤ 16384) : Met l my_M_sum (wB my_M_sum cd_M_sum 8 (some .long)) ({ frames := 0, cells := 0, slots := 0, locals := 0 }) (va_Pc [.ref aM, .int (nI a), .int (nI b)] (PcW (dC, dI) [(aM, .inr (7, [.int co, .ref a1, .int (nI ks), .int (nI dn), .ref a2, .ref a3, .ref a4, .ref a5, .ref a6, .int (nI xa), .int ri, .int fa, .int fq, .int bg, .long tm, .int ka, .long kb, .int va, .long vb])), (a1, .inl (c1_, 16384, .inl tp))] [(c1_, .int)] sz)) (va_Ql (fun (r : Int64) => fun (_ : Unit) => r = ckM tp a (b - a)) (fun _ => EnW (dC, dI) (va_A [(aM, .inr (7, [.int co, .ref a1, .int (nI ks), .int (nI dn), .ref a2, .ref a3, .ref a4, .ref a5, .ref a6, .int (nI xa), .int ri, .int fa, .int fq, .int bg, .long tm, .int ka, .long kb, .int va, .long vb])), (a1, .inl (c1_, 16384, .inl tp))] sz) [(aM, .inr (7, [.int co, .ref a1, .int (nI ks), .int (nI dn), .ref a2, .ref a3, .ref a4, .ref a5, .ref a6, .int (nI xa), .int ri, .int fa, .int fq, .int bg, .long tm, .int ka, .long kb, .int va, .long vb])), (a1, .inl (c1_, 16384, .inl tp))] [(c1_, .int)]) (va_A [(aM, .inr (7, [.int co, .ref a1, .int (nI ks), .int (nI dn), .ref a2, .ref a3, .ref a4, .ref a5, .ref a6, .int (nI xa), .int ri, .int fa, .int fq, .int bg, .long tm, .int ka, .long kb, .int va, .long vb])), (a1, .inl (c1_, 16384, .inl tp))] sz)) 0 0 (va_A [(aM, .inr (7, [.int co, .ref a1, .int (nI ks), .int (nI dn), .ref a2, .ref a3, .ref a4, .ref a5, .ref a6, .int (nI xa), .int ri, .int fa, .int fq, .int bg, .long tm, .int ka, .long kb, .int va, .long vb])), (a1, .inl (c1_, 16384, .inl tp))] sz) := by
  refine Met.ofW (cc := cd_M_sum) (maxL := 8) (ret := (some .long)) (by decide) rfl ?_
  intro p e s m args below meth c s₁ B hml hv
  obtain ⟨rfl, hsz, hP, hK, hD0, hG⟩ := hv
  have hx := B.exec
  have hb := B.bytes
  have hr := B.returns
  have hts := fun (w : Cond) (h : w ∈ bigT) => atoms_spec (ws := (wB my_M_sum cd_M_sum 8 (some .long))) B.pre w (List.mem_cons_of_mem _ h)
  have hown : s.vm.findClass rn_M = some m.cls := findClass_of_methodNamed B.named
  have hlocks := B.notSynchronized
  subst hsz
  have hD := hD0.self (sz := s.heap.size)
  generalize hAe : va_A [(aM, .inr (7, [.int co, .ref a1, .int (nI ks), .int (nI dn), .ref a2, .ref a3, .ref a4, .ref a5, .ref a6, .int (nI xa), .int ri, .int fa, .int fq, .int bg, .long tm, .int ka, .long kb, .int va, .long vb])), (a1, .inl (c1_, 16384, .inl tp))] s.heap.size = A at hD hG ⊢
  have hA : ∀ q : Nat, s.heap.size ≤ q → A q := fun q h => by rw [← hAe]; exact Or.inr h
  have hS : va_S A s.heap s.heap [] := va_S.rf
  have hP : va_P (dC, dI) vwCl [(aM, .inr (7, [.int co, .ref a1, .int (nI ks), .int (nI dn), .ref a2, .ref a3, .ref a4, .ref a5, .ref a6, .int (nI xa), .int ri, .int fa, .int fq, .int bg, .long tm, .int ka, .long kb, .int va, .long vb])), (a1, .inl (c1_, 16384, .inl tp))] s.heap := hP
  have hl := lv_entry ([.ref aM, .int (nI a), .int (nI b)]) (n := 8) (Nat.le_of_ble_eq_true rfl)
  rw [lg_entry_eq]
  generalize (lg_sl ([.ref aM, .int (nI a), .int (nI b)]) ++ List.replicate (8 - (lg_sl ([.ref aM, .int (nI a), .int (nI b)])).length) Slot.unset).toArray = ls at hl ⊢
  have hl : lv_has ls 8 [(0, .ref aM), (1, .int (nI a)), (2, .int (nI b))] := hl
  refine lv_ldc2 (v := 4294967295) hx hb hown (hts _ bw4_19) dc_M_sum_0 ?_
  refine lv_lstore_n (lv' := [(3, .long 4294967295), (0, .ref aM), (1, .int (nI a)), (2, .int (nI b))]) hx hb dc_M_sum_3 rfl hl (by decide) rfl (fun ls hl => ?_)
  refine lv_iload_n hx hb dc_M_sum_4 rfl (lv_at hl 2 rfl) ?_
  refine lv_istore (lv' := [(5, .int (nI a)), (3, .long 4294967295), (0, .ref aM), (1, .int (nI a)), (2, .int (nI b))]) hx hb dc_M_sum_5 hl (by decide) rfl (fun ls hl => ?_)
  refine w_loop (σ := Nat × Int64) (fun x H locs ls => x.1 ≤ b ∧ crcM tp x.2 x.1 (b - x.1) = crcM tp 4294967295 a (b - a) ∧ va_P (dC, dI) vwCl [(aM, .inr (7, [.int co, .ref a1, .int (nI ks), .int (nI dn), .ref a2, .ref a3, .ref a4, .ref a5, .ref a6, .int (nI xa), .int ri, .int fa, .int fq, .int bg, .long tm, .int ka, .long kb, .int va, .long vb])), (a1, .inl (c1_, 16384, .inl tp))] H ∧ va_D A [(aM, .inr (7, [.int co, .ref a1, .int (nI ks), .int (nI dn), .ref a2, .ref a3, .ref a4, .ref a5, .ref a6, .int (nI xa), .int ri, .int fa, .int fq, .int bg, .long tm, .int ka, .long kb, .int va, .long vb])), (a1, .inl (c1_, 16384, .inl tp))] ∧ va_S A s.heap H locs ∧ lv_has ls 8 [(5, .int (nI x.1)), (3, .long x.2), (0, .ref aM), (1, .int (nI a)), (2, .int (nI b))]) (fun x ls => F0 m 7 ls []) (fun _ => 0) (fun _ => 0) (fun x => b - x.1) ?_ (a, 4294967295) _ _ _ ⟨by show a ≤ b; omega, (show crcM tp 4294967295 a (b - a) = crcM tp 4294967295 a (b - a) from rfl), hP.sub [0, 1] rfl, hD.sub [0, 1] (by decide) rfl, hS, lv_sub hl [0, 1, 2, 3, 4] rfl⟩
  rintro ⟨i, cr⟩ H locs ls ⟨hi, hc, hP, hD, hS, hl⟩ ih7
  have hP : va_P (dC, dI) vwCl [(aM, .inr (7, [.int co, .ref a1, .int (nI ks), .int (nI dn), .ref a2, .ref a3, .ref a4, .ref a5, .ref a6, .int (nI xa), .int ri, .int fa, .int fq, .int bg, .long tm, .int ka, .long kb, .int va, .long vb])), (a1, .inl (c1_, 16384, .inl tp))] H := hP
  have hD : va_D A [(aM, .inr (7, [.int co, .ref a1, .int (nI ks), .int (nI dn), .ref a2, .ref a3, .ref a4, .ref a5, .ref a6, .int (nI xa), .int ri, .int fa, .int fq, .int bg, .long tm, .int ka, .long kb, .int va, .long vb])), (a1, .inl (c1_, 16384, .inl tp))] := hD
  have hl : lv_has ls 8 [(5, .int (nI i)), (3, .long cr), (0, .ref aM), (1, .int (nI a)), (2, .int (nI b))] := hl
  show W _ _ _ _ _ _ _ _ _ _ _ _ _ _ _ (F0 m 7 ls [])
  have hi : i ≤ b := hi
  have hc : crcM tp cr i (b - i) = crcM tp 4294967295 a (b - a) := hc
  refine lv_iload hx hb dc_M_sum_7 (lv_at hl 0 rfl) ?_
  refine lv_iload_n hx hb dc_M_sum_9 rfl (lv_at hl 4 rfl) ?_
  refine lv_icmp_ge (tgt := 80) hx hb dc_M_sum_10 (by decide) (fun c_1 => ?_) (fun c_1 => ?_)
  · have hij : i = b := by have := (nI_leI (by omega) (by omega)).mp c_1; omega
    refine lv_lload_n hx hb dc_M_sum_80 rfl (lv_at hl 1 rfl) ?_
    refine lv_ldc2 (v := 4294967295) hx hb hown (hts _ bw4_19) dc_M_sum_81 ?_
    refine lv_lxor hx hb dc_M_sum_84 ?_
    have hP9 := hP.sub (ws' := [(aM, .inr (7, [.int co, .ref a1, .int (nI ks), .int (nI dn), .ref a2, .ref a3, .ref a4, .ref a5, .ref a6, .int (nI xa), .int ri, .int fa, .int fq, .int bg, .long tm, .int ka, .long kb, .int va, .long vb])), (a1, .inl (c1_, 16384, .inl tp))]) [0, 1] rfl
    have hD9 := hD.sub (ws' := [(aM, .inr (7, [.int co, .ref a1, .int (nI ks), .int (nI dn), .ref a2, .ref a3, .ref a4, .ref a5, .ref a6, .int (nI xa), .int ri, .int fa, .int fq, .int bg, .long tm, .int ka, .long kb, .int va, .long vb])), (a1, .inl (c1_, 16384, .inl tp))]) [0, 1] (by decide) rfl
    have hK9 := hK.sub (tys' := [(c1_, .int)]) [0] rfl
    exact W.lret (v := (cr ^^^ 4294967295)) hx hb hr (fun t ht hW => ⟨⟨(cr ^^^ 4294967295), (), rfl, by unfold ckM; rw [← hc, hij, Nat.sub_self]; rfl, by rw [ht]; exact hP9, va_K.moved hW.alike hK9, hD9⟩, hS.F ht⟩) hS.2.2 dc_M_sum_85
  · have hlt : i < b := by rcases Nat.lt_or_ge i b with h | h; exact h; exact absurd (nI_le h (by omega)) c_1
    refine lv_lload_n hx hb dc_M_sum_13 rfl (lv_at hl 1 rfl) ?_
    refine lv_aload_n hx hb dc_M_sum_14 rfl (lv_at hl 2 rfl) ?_
    refine va_get (D := (dC, dI)) (ci := 7) (v := .ref a1) (C := rn_M) (T := ft_M) (N := 19) hx hb hts fw_M hown hK hP 0 rfl rfl 1 (by decide) (hts _ bw3_160) (fun _ h9 => h9) rfl dc_M_sum_15 ?_
    refine lv_iload hx hb dc_M_sum_18 (lv_at hl 0 rfl) ?_
    refine va_iald hx hb hK hP 1 0 rfl rfl (vp_in_nI (by omega) (by omega)) dc_M_sum_20 ?_
    rw [show (nI i).toNatClampNeg = i from nI_clamp (by omega)]
    refine lv_i2l (v := (tp i).toInt64) hx hb dc_M_sum_21 rfl ?_
    refine lv_lxor hx hb dc_M_sum_22 ?_
    refine lv_lstore_n (lv' := [(3, .long (cr ^^^ ((tp i).toInt64))), (5, .int (nI i)), (0, .ref aM), (1, .int (nI a)), (2, .int (nI b))]) hx hb dc_M_sum_23 rfl hl (by decide) rfl (fun ls hl => ?_)
    refine lv_iconst (v := 0) hx hb dc_M_sum_24 (by decide) ?_
    refine lv_istore (lv' := [(6, .int 0), (3, .long (cr ^^^ ((tp i).toInt64))), (5, .int (nI i)), (0, .ref aM), (1, .int (nI a)), (2, .int (nI b))]) hx hb dc_M_sum_25 hl (by decide) rfl (fun ls hl => ?_)
    have e_2 : 0 = (nI (8 - 8)) := by rfl
    have e_3 : (cr ^^^ ((tp i).toInt64)) = (cr ^^^ (tp i).toInt64) := by rfl
    have hl := wL_eq (lv' := [(6, .int (nI (8 - 8))), (3, .long (cr ^^^ (tp i).toInt64)), (5, .int (nI i)), (0, .ref aM), (1, .int (nI a)), (2, .int (nI b))]) hl (cg2 (fun y0 y1 => ([(6, .int y0), (3, .long y1), (5, .int (nI i)), (0, .ref aM), (1, .int (nI a)), (2, .int (nI b))] : List (Nat × Value))) e_2 e_3)
    refine w_loop (σ := Nat × Int64) (fun x H locs ls => x.1 ≤ 8 ∧ mS8 x.2 x.1 = mS8 (cr ^^^ (tp i).toInt64) 8 ∧ va_P (dC, dI) vwCl [(aM, .inr (7, [.int co, .ref a1, .int (nI ks), .int (nI dn), .ref a2, .ref a3, .ref a4, .ref a5, .ref a6, .int (nI xa), .int ri, .int fa, .int fq, .int bg, .long tm, .int ka, .long kb, .int va, .long vb])), (a1, .inl (c1_, 16384, .inl tp))] H ∧ va_D A [(aM, .inr (7, [.int co, .ref a1, .int (nI ks), .int (nI dn), .ref a2, .ref a3, .ref a4, .ref a5, .ref a6, .int (nI xa), .int ri, .int fa, .int fq, .int bg, .long tm, .int ka, .long kb, .int va, .long vb])), (a1, .inl (c1_, 16384, .inl tp))] ∧ va_S A s.heap H locs ∧ lv_has ls 8 [(6, .int (nI (8 - x.1))), (3, .long x.2), (5, .int (nI i)), (0, .ref aM), (1, .int (nI a)), (2, .int (nI b))]) (fun x ls => F0 m 27 ls []) (fun _ => 0) (fun _ => 0) (fun x => x.1) ?_ (8, cr ^^^ (tp i).toInt64) _ _ _ ⟨by show 8 ≤ 8; omega, (show mS8 (cr ^^^ (tp i).toInt64) 8 = mS8 (cr ^^^ (tp i).toInt64) 8 from rfl), hP.sub [0, 1] rfl, hD.sub [0, 1] (by decide) rfl, hS, lv_sub hl [0, 1, 2, 3, 4, 5] rfl⟩
    rintro ⟨r, c2⟩ H locs ls ⟨hr8, hm, hP, hD, hS, hl⟩ ih27
    have hP : va_P (dC, dI) vwCl [(aM, .inr (7, [.int co, .ref a1, .int (nI ks), .int (nI dn), .ref a2, .ref a3, .ref a4, .ref a5, .ref a6, .int (nI xa), .int ri, .int fa, .int fq, .int bg, .long tm, .int ka, .long kb, .int va, .long vb])), (a1, .inl (c1_, 16384, .inl tp))] H := hP
    have hD : va_D A [(aM, .inr (7, [.int co, .ref a1, .int (nI ks), .int (nI dn), .ref a2, .ref a3, .ref a4, .ref a5, .ref a6, .int (nI xa), .int ri, .int fa, .int fq, .int bg, .long tm, .int ka, .long kb, .int va, .long vb])), (a1, .inl (c1_, 16384, .inl tp))] := hD
    have hl : lv_has ls 8 [(6, .int (nI (8 - r))), (3, .long c2), (5, .int (nI i)), (0, .ref aM), (1, .int (nI a)), (2, .int (nI b))] := hl
    show W _ _ _ _ _ _ _ _ _ _ _ _ _ _ _ (F0 m 27 ls [])
    have hr8 : r ≤ 8 := hr8
    have hm : mS8 c2 r = mS8 (cr ^^^ (tp i).toInt64) 8 := hm
    refine lv_iload hx hb dc_M_sum_27 (lv_at hl 0 rfl) ?_
    refine lv_bipush (v := 8) hx hb dc_M_sum_29 (by decide) ?_
    refine lv_icmp_ge (tgt := 74) hx hb dc_M_sum_31 (by decide) (fun c_4 => ?_) (fun c_4 => ?_)
    · have hr0 : r = 0 := by have := (nI_leI (a := 8) (b := 8 - r) (by omega) (by omega)).mp c_4; omega
      refine lv_iinc (v := ((nI i) + 1)) (lv' := [(5, .int ((nI i) + 1)), (6, .int (nI (8 - r))), (3, .long c2), (0, .ref aM), (1, .int (nI a)), (2, .int (nI b))]) hx hb dc_M_sum_74 hl (k := 2) rfl rfl (by decide) rfl (fun ls hl => ?_)
      refine lv_goto (tgt := 7) hx hb dc_M_sum_77 (by decide) ?_
      have e_5 : ((nI i) + 1) = (nI (i + 1)) := by exact nI_1 _
      have hl := wL_eq (lv' := [(5, .int (nI (i + 1))), (6, .int (nI (8 - r))), (3, .long c2), (0, .ref aM), (1, .int (nI a)), (2, .int (nI b))]) hl (cg1 (fun y0 => ([(5, .int y0), (6, .int (nI (8 - r))), (3, .long c2), (0, .ref aM), (1, .int (nI a)), (2, .int (nI b))] : List (Nat × Value))) e_5)
      exact ih7 (i + 1, c2) _ _ _ ⟨by show (i + 1) ≤ b; omega, by show crcM tp c2 (i + 1) (b - (i + 1)) = crcM tp 4294967295 a (b - a); rw [← hc, show b - i = (b - (i + 1)) + 1 by omega, crcM, ← hm, hr0]; rfl, hP.sub [0, 1] rfl, hD.sub [0, 1] (by decide) rfl, hS, lv_sub hl [0, 2, 3, 4, 5] rfl⟩ (by show b - (i + 1) < b - i; omega)
    · have hrp : 0 < r := by rcases Nat.eq_zero_or_pos r with h | h; exact absurd (by rw [h]; decide) c_4; exact h
      refine lv_lload_n hx hb dc_M_sum_34 rfl (lv_at hl 1 rfl) ?_
      refine lv_lconst (v := 1) hx hb dc_M_sum_35 rfl ?_
      refine lv_land hx hb dc_M_sum_36 ?_
      refine lv_lconst (v := 1) hx hb dc_M_sum_37 rfl ?_
      refine W.lcmp hx hb dc_M_sum_38 ?_
      refine w_join (σ := Int32) (fun v47_0 H locs ls => v47_0 = (if (c2 &&& 1) = 1 then 1 else 0) ∧ va_P (dC, dI) vwCl [(aM, .inr (7, [.int co, .ref a1, .int (nI ks), .int (nI dn), .ref a2, .ref a3, .ref a4, .ref a5, .ref a6, .int (nI xa), .int ri, .int fa, .int fq, .int bg, .long tm, .int ka, .long kb, .int va, .long vb])), (a1, .inl (c1_, 16384, .inl tp))] H ∧ va_D A [(aM, .inr (7, [.int co, .ref a1, .int (nI ks), .int (nI dn), .ref a2, .ref a3, .ref a4, .ref a5, .ref a6, .int (nI xa), .int ri, .int fa, .int fq, .int bg, .long tm, .int ka, .long kb, .int va, .long vb])), (a1, .inl (c1_, 16384, .inl tp))] ∧ va_S A s.heap H locs ∧ lv_has ls 8 [(6, .int (nI (8 - r))), (3, .long c2), (5, .int (nI i)), (0, .ref aM), (1, .int (nI a)), (2, .int (nI b))]) (fun v47_0 ls => F0 m 47 ls [.int v47_0]) ?_ (fun hJ47 => ?_)
      · rintro v47_0 H locs ls ⟨ev47_0, hP, hD, hS, hl⟩
        have hP : va_P (dC, dI) vwCl [(aM, .inr (7, [.int co, .ref a1, .int (nI ks), .int (nI dn), .ref a2, .ref a3, .ref a4, .ref a5, .ref a6, .int (nI xa), .int ri, .int fa, .int fq, .int bg, .long tm, .int ka, .long kb, .int va, .long vb])), (a1, .inl (c1_, 16384, .inl tp))] H := hP
        have hD : va_D A [(aM, .inr (7, [.int co, .ref a1, .int (nI ks), .int (nI dn), .ref a2, .ref a3, .ref a4, .ref a5, .ref a6, .int (nI xa), .int ri, .int fa, .int fq, .int bg, .long tm, .int ka, .long kb, .int va, .long vb])), (a1, .inl (c1_, 16384, .inl tp))] := hD
        have hl : lv_has ls 8 [(6, .int (nI (8 - r))), (3, .long c2), (5, .int (nI i)), (0, .ref aM), (1, .int (nI a)), (2, .int (nI b))] := hl
        show W _ _ _ _ _ _ _ _ _ _ _ _ _ _ _ (F0 m 47 ls [.int v47_0])
        have h01v47_0 : v47_0 = 0 ∨ v47_0 = 1 := by rw [ev47_0]; exact i01 (Or.inr rfl) (Or.inl rfl)
        refine lv_istore (lv' := [(7, .int v47_0), (6, .int (nI (8 - r))), (3, .long c2), (5, .int (nI i)), (0, .ref aM), (1, .int (nI a)), (2, .int (nI b))]) hx hb dc_M_sum_47 hl (by decide) rfl (fun ls hl => ?_)
        refine lv_lload_n hx hb dc_M_sum_49 rfl (lv_at hl 2 rfl) ?_
        refine lv_iconst (v := 1) hx hb dc_M_sum_50 (by decide) ?_
        refine lv_lshr (v := c2 >>> ((1 : Int32).toInt64 &&& 63)) hx hb dc_M_sum_51 rfl ?_
        refine lv_lstore_n (lv' := [(3, .long (c2 >>> ((1 : Int32).toInt64 &&& 63))), (7, .int v47_0), (6, .int (nI (8 - r))), (5, .int (nI i)), (0, .ref aM), (1, .int (nI a)), (2, .int (nI b))]) hx hb dc_M_sum_52 rfl hl (by decide) rfl (fun ls hl => ?_)
        refine lv_lload_n hx hb dc_M_sum_53 rfl (lv_at hl 0 rfl) ?_
        refine lv_iload hx hb dc_M_sum_54 (lv_at hl 1 rfl) ?_
        refine w_join (σ := Int64) (fun v66_0 H locs ls => v66_0 = (if v47_0 = 0 then 0 else 2197175160) ∧ va_P (dC, dI) vwCl [(aM, .inr (7, [.int co, .ref a1, .int (nI ks), .int (nI dn), .ref a2, .ref a3, .ref a4, .ref a5, .ref a6, .int (nI xa), .int ri, .int fa, .int fq, .int bg, .long tm, .int ka, .long kb, .int va, .long vb])), (a1, .inl (c1_, 16384, .inl tp))] H ∧ va_D A [(aM, .inr (7, [.int co, .ref a1, .int (nI ks), .int (nI dn), .ref a2, .ref a3, .ref a4, .ref a5, .ref a6, .int (nI xa), .int ri, .int fa, .int fq, .int bg, .long tm, .int ka, .long kb, .int va, .long vb])), (a1, .inl (c1_, 16384, .inl tp))] ∧ va_S A s.heap H locs ∧ lv_has ls 8 [(3, .long (c2 >>> ((1 : Int32).toInt64 &&& 63))), (7, .int v47_0), (6, .int (nI (8 - r))), (5, .int (nI i)), (0, .ref aM), (1, .int (nI a)), (2, .int (nI b))]) (fun v66_0 ls => F0 m 66 ls [.long v66_0, .long (c2 >>> ((1 : Int32).toInt64 &&& 63))]) ?_ (fun hJ66 => ?_)
        · rintro v66_0 H locs ls ⟨ev66_0, hP, hD, hS, hl⟩
          have hP : va_P (dC, dI) vwCl [(aM, .inr (7, [.int co, .ref a1, .int (nI ks), .int (nI dn), .ref a2, .ref a3, .ref a4, .ref a5, .ref a6, .int (nI xa), .int ri, .int fa, .int fq, .int bg, .long tm, .int ka, .long kb, .int va, .long vb])), (a1, .inl (c1_, 16384, .inl tp))] H := hP
          have hD : va_D A [(aM, .inr (7, [.int co, .ref a1, .int (nI ks), .int (nI dn), .ref a2, .ref a3, .ref a4, .ref a5, .ref a6, .int (nI xa), .int ri, .int fa, .int fq, .int bg, .long tm, .int ka, .long kb, .int va, .long vb])), (a1, .inl (c1_, 16384, .inl tp))] := hD
          have hl : lv_has ls 8 [(3, .long (c2 >>> ((1 : Int32).toInt64 &&& 63))), (7, .int v47_0), (6, .int (nI (8 - r))), (5, .int (nI i)), (0, .ref aM), (1, .int (nI a)), (2, .int (nI b))] := hl
          show W _ _ _ _ _ _ _ _ _ _ _ _ _ _ _ (F0 m 66 ls [.long v66_0, .long (c2 >>> ((1 : Int32).toInt64 &&& 63))])
          refine lv_lxor hx hb dc_M_sum_66 ?_
          refine lv_lstore_n (lv' := [(3, .long ((c2 >>> ((1 : Int32).toInt64 &&& 63)) ^^^ v66_0)), (7, .int v47_0), (6, .int (nI (8 - r))), (5, .int (nI i)), (0, .ref aM), (1, .int (nI a)), (2, .int (nI b))]) hx hb dc_M_sum_67 rfl hl (by decide) rfl (fun ls hl => ?_)
          refine lv_iinc (v := ((nI (8 - r)) + 1)) (lv' := [(6, .int ((nI (8 - r)) + 1)), (3, .long ((c2 >>> ((1 : Int32).toInt64 &&& 63)) ^^^ v66_0)), (7, .int v47_0), (5, .int (nI i)), (0, .ref aM), (1, .int (nI a)), (2, .int (nI b))]) hx hb dc_M_sum_68 hl (k := 2) rfl rfl (by decide) rfl (fun ls hl => ?_)
          refine lv_goto (tgt := 27) hx hb dc_M_sum_71 (by decide) ?_
          have e_6 : ((nI (8 - r)) + 1) = (nI (8 - (r - 1))) := by rw [nI_1, show 8 - r + 1 = 8 - (r - 1) by omega]
          have e_7 : ((c2 >>> ((1 : Int32).toInt64 &&& 63)) ^^^ v66_0) = (mS c2) := by rw [ev66_0, ev47_0]; exact mS_alt c2
          have hl := wL_eq (lv' := [(6, .int (nI (8 - (r - 1)))), (3, .long (mS c2)), (7, .int v47_0), (5, .int (nI i)), (0, .ref aM), (1, .int (nI a)), (2, .int (nI b))]) hl (cg2 (fun y0 y1 => ([(6, .int y0), (3, .long y1), (7, .int v47_0), (5, .int (nI i)), (0, .ref aM), (1, .int (nI a)), (2, .int (nI b))] : List (Nat × Value))) e_6 e_7)
          exact ih27 (r - 1, mS c2) _ _ _ ⟨by show (r - 1) ≤ 8; omega, by show mS8 (mS c2) (r - 1) = mS8 (cr ^^^ (tp i).toInt64) 8; rw [← hm]; exact (mS8_pos hrp).symm, hP.sub [0, 1] rfl, hD.sub [0, 1] (by decide) rfl, hS, lv_sub hl [0, 1, 3, 4, 5, 6] rfl⟩ (by show (r - 1) < r; omega)
        · refine lv_if_eq (tgt := 65) hx hb dc_M_sum_56 (by decide) (fun c_8 => ?_) (fun c_8 => ?_)
          · refine lv_lconst (v := 0) hx hb dc_M_sum_65 rfl ?_
            exact hJ66 0 _ _ _ ⟨by rw [if_pos c_8], hP.sub [0, 1] rfl, hD.sub [0, 1] (by decide) rfl, hS, lv_sub hl [0, 1, 2, 3, 4, 5, 6] rfl⟩
          · refine lv_ldc2 (v := 2197175160) hx hb hown (hts _ bw4_20) dc_M_sum_59 ?_
            refine lv_goto (tgt := 66) hx hb dc_M_sum_62 (by decide) ?_
            exact hJ66 2197175160 _ _ _ ⟨by rw [if_neg c_8], hP.sub [0, 1] rfl, hD.sub [0, 1] (by decide) rfl, hS, lv_sub hl [0, 1, 2, 3, 4, 5, 6] rfl⟩
      · refine lv_if_ne (tgt := 46) hx hb dc_M_sum_39 (by decide) (fun c_9 => ?_) (fun c_9 => ?_)
        · have c_9 : ¬ ((c2 &&& 1) = 1) := fun h => c_9 ((lg_cmp_eq _ _).mpr h)
          refine lv_iconst (v := 0) hx hb dc_M_sum_46 (by decide) ?_
          exact hJ47 0 _ _ _ ⟨by rw [if_neg c_9], hP.sub [0, 1] rfl, hD.sub [0, 1] (by decide) rfl, hS, lv_sub hl [0, 1, 2, 3, 4, 5] rfl⟩
        · have c_9 : (c2 &&& 1) = 1 := (lg_cmp_eq _ _).mp c_9
          refine lv_iconst (v := 1) hx hb dc_M_sum_42 (by decide) ?_
          refine lv_goto (tgt := 47) hx hb dc_M_sum_43 (by decide) ?_
          exact hJ47 1 _ _ _ ⟨by rw [if_pos c_9], hP.sub [0, 1] rfl, hD.sub [0, 1] (by decide) rfl, hS, lv_sub hl [0, 1, 2, 3, 4, 5] rfl⟩

set_option maxHeartbeats 1000000 in
set_option maxRecDepth 100000 in
theorem c_M_putSum (l : Launch) (dC : Nat → ClassId) (dI : Nat → Nat → Nat) (sz : Nat) (aM : Nat) (co : Int32) (a1 : Nat) (ks : Nat) (dn : Nat) (a2 : Nat) (a3 : Nat) (a4 : Nat) (a5 : Nat) (a6 : Nat) (xa : Nat) (ri : Int32) (fa : Int32) (fq : Int32) (bg : Int32) (tm : Int64) (ka : Int32) (kb : Int64) (va : Int32) (vb : Int64) (c1_ : ClassId) (tp : Nat → Int32) (a : Nat) (v : Int64) (ha : a + 21 ≤ 16384) : Met l my_M_putSum (wB my_M_putSum cd_M_putSum 5 none) ({ frames := 0, cells := 0, slots := 0, locals := 0 }) (va_Pc [.ref aM, .int (nI a), .long v] (PcW (dC, dI) [(aM, .inr (7, [.int co, .ref a1, .int (nI ks), .int (nI dn), .ref a2, .ref a3, .ref a4, .ref a5, .ref a6, .int (nI xa), .int ri, .int fa, .int fq, .int bg, .long tm, .int ka, .long kb, .int va, .long vb])), (a1, .inl (c1_, 16384, .inl tp))] [(c1_, .int)] sz)) (va_Qv (fun (_ : Unit) => True) (fun _ => EnW (dC, dI) (va_A [(aM, .inr (7, [.int co, .ref a1, .int (nI ks), .int (nI dn), .ref a2, .ref a3, .ref a4, .ref a5, .ref a6, .int (nI xa), .int ri, .int fa, .int fq, .int bg, .long tm, .int ka, .long kb, .int va, .long vb])), (a1, .inl (c1_, 16384, .inl tp))] sz) [(aM, .inr (7, [.int co, .ref a1, .int (nI ks), .int (nI dn), .ref a2, .ref a3, .ref a4, .ref a5, .ref a6, .int (nI xa), .int ri, .int fa, .int fq, .int bg, .long tm, .int ka, .long kb, .int va, .long vb])), (a1, .inl (c1_, 16384, .inl (mPs tp (a + 17) v 4)))] [(c1_, .int)]) (va_A [(aM, .inr (7, [.int co, .ref a1, .int (nI ks), .int (nI dn), .ref a2, .ref a3, .ref a4, .ref a5, .ref a6, .int (nI xa), .int ri, .int fa, .int fq, .int bg, .long tm, .int ka, .long kb, .int va, .long vb])), (a1, .inl (c1_, 16384, .inl tp))] sz)) 0 0 (va_A [(aM, .inr (7, [.int co, .ref a1, .int (nI ks), .int (nI dn), .ref a2, .ref a3, .ref a4, .ref a5, .ref a6, .int (nI xa), .int ri, .int fa, .int fq, .int bg, .long tm, .int ka, .long kb, .int va, .long vb])), (a1, .inl (c1_, 16384, .inl tp))] sz) := by
  refine Met.ofW (cc := cd_M_putSum) (maxL := 5) (ret := none) (by decide) rfl ?_
  intro p e s m args below meth c s₁ B hml hv
  obtain ⟨rfl, hsz, hP, hK, hD0, hG⟩ := hv
  have hx := B.exec
  have hb := B.bytes
  have hr := B.returns
  have hts := fun (w : Cond) (h : w ∈ bigT) => atoms_spec (ws := (wB my_M_putSum cd_M_putSum 5 none)) B.pre w (List.mem_cons_of_mem _ h)
  have hown : s.vm.findClass rn_M = some m.cls := findClass_of_methodNamed B.named
  have hlocks := B.notSynchronized
  subst hsz
  have hD := hD0.self (sz := s.heap.size)
  generalize hAe : va_A [(aM, .inr (7, [.int co, .ref a1, .int (nI ks), .int (nI dn), .ref a2, .ref a3, .ref a4, .ref a5, .ref a6, .int (nI xa), .int ri, .int fa, .int fq, .int bg, .long tm, .int ka, .long kb, .int va, .long vb])), (a1, .inl (c1_, 16384, .inl tp))] s.heap.size = A at hD hG ⊢
  have hA : ∀ q : Nat, s.heap.size ≤ q → A q := fun q h => by rw [← hAe]; exact Or.inr h
  have hS : va_S A s.heap s.heap [] := va_S.rf
  have hP : va_P (dC, dI) vwCl [(aM, .inr (7, [.int co, .ref a1, .int (nI ks), .int (nI dn), .ref a2, .ref a3, .ref a4, .ref a5, .ref a6, .int (nI xa), .int ri, .int fa, .int fq, .int bg, .long tm, .int ka, .long kb, .int va, .long vb])), (a1, .inl (c1_, 16384, .inl tp))] s.heap := hP
  have hl := lv_entry ([.ref aM, .int (nI a), .long v]) (n := 5) (Nat.le_of_ble_eq_true rfl)
  rw [lg_entry_eq]
  generalize (lg_sl ([.ref aM, .int (nI a), .long v]) ++ List.replicate (5 - (lg_sl ([.ref aM, .int (nI a), .long v])).length) Slot.unset).toArray = ls at hl ⊢
  have hl : lv_has ls 5 [(0, .ref aM), (1, .int (nI a)), (2, .long v)] := hl
  refine lv_iconst (v := 0) hx hb dc_M_putSum_0 (by decide) ?_
  refine lv_istore (lv' := [(4, .int 0), (0, .ref aM), (1, .int (nI a)), (2, .long v)]) hx hb dc_M_putSum_1 hl (by decide) rfl (fun ls hl => ?_)
  have e_1 : tp = (mPs tp (a + 17) v 0) := by rfl
  have hP := wP_eq (ws' := [(aM, .inr (7, [.int co, .ref a1, .int (nI ks), .int (nI dn), .ref a2, .ref a3, .ref a4, .ref a5, .ref a6, .int (nI xa), .int ri, .int fa, .int fq, .int bg, .long tm, .int ka, .long kb, .int va, .long vb])), (a1, .inl (c1_, 16384, .inl (mPs tp (a + 17) v 0)))]) hP (cg1 (fun y0 => ([(aM, .inr (7, [.int co, .ref a1, .int (nI ks), .int (nI dn), .ref a2, .ref a3, .ref a4, .ref a5, .ref a6, .int (nI xa), .int ri, .int fa, .int fq, .int bg, .long tm, .int ka, .long kb, .int va, .long vb])), (a1, .inl (c1_, 16384, .inl y0))] : va_W)) e_1)
  have hD := wD_eq (ws' := [(aM, .inr (7, [.int co, .ref a1, .int (nI ks), .int (nI dn), .ref a2, .ref a3, .ref a4, .ref a5, .ref a6, .int (nI xa), .int ri, .int fa, .int fq, .int bg, .long tm, .int ka, .long kb, .int va, .long vb])), (a1, .inl (c1_, 16384, .inl (mPs tp (a + 17) v 0)))]) hD (cg1 (fun y0 => ([(aM, .inr (7, [.int co, .ref a1, .int (nI ks), .int (nI dn), .ref a2, .ref a3, .ref a4, .ref a5, .ref a6, .int (nI xa), .int ri, .int fa, .int fq, .int bg, .long tm, .int ka, .long kb, .int va, .long vb])), (a1, .inl (c1_, 16384, .inl y0))] : va_W)) e_1)
  refine w_loop (σ := Nat) (fun i H locs ls => i ≤ 4 ∧ va_P (dC, dI) vwCl [(aM, .inr (7, [.int co, .ref a1, .int (nI ks), .int (nI dn), .ref a2, .ref a3, .ref a4, .ref a5, .ref a6, .int (nI xa), .int ri, .int fa, .int fq, .int bg, .long tm, .int ka, .long kb, .int va, .long vb])), (a1, .inl (c1_, 16384, .inl (mPs tp (a + 17) v i)))] H ∧ va_D A [(aM, .inr (7, [.int co, .ref a1, .int (nI ks), .int (nI dn), .ref a2, .ref a3, .ref a4, .ref a5, .ref a6, .int (nI xa), .int ri, .int fa, .int fq, .int bg, .long tm, .int ka, .long kb, .int va, .long vb])), (a1, .inl (c1_, 16384, .inl (mPs tp (a + 17) v i)))] ∧ va_S A s.heap H locs ∧ lv_has ls 5 [(4, .int (nI i)), (0, .ref aM), (1, .int (nI a)), (2, .long v)]) (fun i ls => F0 m 3 ls []) (fun _ => 0) (fun _ => 0) (fun i => 4 - i) ?_ 0 _ _ _ ⟨by show 0 ≤ 4; omega, hP.sub [0, 1] rfl, hD.sub [0, 1] (by decide) rfl, hS, lv_sub hl [0, 1, 2, 3] rfl⟩
  rintro i H locs ls ⟨hi, hP, hD, hS, hl⟩ ih3
  have hP : va_P (dC, dI) vwCl [(aM, .inr (7, [.int co, .ref a1, .int (nI ks), .int (nI dn), .ref a2, .ref a3, .ref a4, .ref a5, .ref a6, .int (nI xa), .int ri, .int fa, .int fq, .int bg, .long tm, .int ka, .long kb, .int va, .long vb])), (a1, .inl (c1_, 16384, .inl (mPs tp (a + 17) v i)))] H := hP
  have hD : va_D A [(aM, .inr (7, [.int co, .ref a1, .int (nI ks), .int (nI dn), .ref a2, .ref a3, .ref a4, .ref a5, .ref a6, .int (nI xa), .int ri, .int fa, .int fq, .int bg, .long tm, .int ka, .long kb, .int va, .long vb])), (a1, .inl (c1_, 16384, .inl (mPs tp (a + 17) v i)))] := hD
  have hl : lv_has ls 5 [(4, .int (nI i)), (0, .ref aM), (1, .int (nI a)), (2, .long v)] := hl
  show W _ _ _ _ _ _ _ _ _ _ _ _ _ _ _ (F0 m 3 ls [])
  have hi : i ≤ 4 := hi
  refine lv_iload hx hb dc_M_putSum_3 (lv_at hl 0 rfl) ?_
  refine lv_iconst (v := 4) hx hb dc_M_putSum_5 (by decide) ?_
  refine lv_icmp_ge (tgt := 42) hx hb dc_M_putSum_6 (by decide) (fun c_2 => ?_) (fun c_2 => ?_)
  · have hi4 : i = 4 := by have := (nI_leI (a := 4) (by omega) (by omega)).mp c_2; omega
    have e_3 : (mPs tp (a + 17) v i) = (mPs tp (a + 17) v 4) := by rw [hi4]
    have hP := wP_eq (ws' := [(aM, .inr (7, [.int co, .ref a1, .int (nI ks), .int (nI dn), .ref a2, .ref a3, .ref a4, .ref a5, .ref a6, .int (nI xa), .int ri, .int fa, .int fq, .int bg, .long tm, .int ka, .long kb, .int va, .long vb])), (a1, .inl (c1_, 16384, .inl (mPs tp (a + 17) v 4)))]) hP (cg1 (fun y0 => ([(aM, .inr (7, [.int co, .ref a1, .int (nI ks), .int (nI dn), .ref a2, .ref a3, .ref a4, .ref a5, .ref a6, .int (nI xa), .int ri, .int fa, .int fq, .int bg, .long tm, .int ka, .long kb, .int va, .long vb])), (a1, .inl (c1_, 16384, .inl y0))] : va_W)) e_3)
    have hD := wD_eq (ws' := [(aM, .inr (7, [.int co, .ref a1, .int (nI ks), .int (nI dn), .ref a2, .ref a3, .ref a4, .ref a5, .ref a6, .int (nI xa), .int ri, .int fa, .int fq, .int bg, .long tm, .int ka, .long kb, .int va, .long vb])), (a1, .inl (c1_, 16384, .inl (mPs tp (a + 17) v 4)))]) hD (cg1 (fun y0 => ([(aM, .inr (7, [.int co, .ref a1, .int (nI ks), .int (nI dn), .ref a2, .ref a3, .ref a4, .ref a5, .ref a6, .int (nI xa), .int ri, .int fa, .int fq, .int bg, .long tm, .int ka, .long kb, .int va, .long vb])), (a1, .inl (c1_, 16384, .inl y0))] : va_W)) e_3)
    have hP9 := hP.sub (ws' := [(aM, .inr (7, [.int co, .ref a1, .int (nI ks), .int (nI dn), .ref a2, .ref a3, .ref a4, .ref a5, .ref a6, .int (nI xa), .int ri, .int fa, .int fq, .int bg, .long tm, .int ka, .long kb, .int va, .long vb])), (a1, .inl (c1_, 16384, .inl (mPs tp (a + 17) v 4)))]) [0, 1] rfl
    have hD9 := hD.sub (ws' := [(aM, .inr (7, [.int co, .ref a1, .int (nI ks), .int (nI dn), .ref a2, .ref a3, .ref a4, .ref a5, .ref a6, .int (nI xa), .int ri, .int fa, .int fq, .int bg, .long tm, .int ka, .long kb, .int va, .long vb])), (a1, .inl (c1_, 16384, .inl (mPs tp (a + 17) v 4)))]) [0, 1] (by decide) rfl
    have hK9 := hK.sub (tys' := [(c1_, .int)]) [0] rfl
    exact W.vret hx hb hr (fun t ht hW => ⟨⟨(), rfl, trivial, by rw [ht]; exact hP9, va_K.moved hW.alike hK9, hD9⟩, hS.F ht⟩) hS.2.2 dc_M_putSum_42
  · have hlt : i < 4 := by rcases Nat.lt_or_ge i 4 with h | h; exact h; exact absurd (nI_le (a := 4) h (by omega)) c_2
    refine lv_aload_n hx hb dc_M_putSum_9 rfl (lv_at hl 1 rfl) ?_
    refine va_get (D := (dC, dI)) (ci := 7) (v := .ref a1) (C := rn_M) (T := ft_M) (N := 19) hx hb hts fw_M hown hK hP 0 rfl rfl 1 (by decide) (hts _ bw3_160) (fun _ h9 => h9) rfl dc_M_putSum_10 ?_
    refine lv_iload_n hx hb dc_M_putSum_13 rfl (lv_at hl 2 rfl) ?_
    refine lv_bipush (v := 17) hx hb dc_M_putSum_14 (by decide) ?_
    refine lv_iadd hx hb dc_M_putSum_16 ?_
    refine lv_iload hx hb dc_M_putSum_17 (lv_at hl 0 rfl) ?_
    refine lv_iadd hx hb dc_M_putSum_19 ?_
    refine lv_lload_n hx hb dc_M_putSum_20 rfl (lv_at hl 3 rfl) ?_
    refine lv_bipush (v := 24) hx hb dc_M_putSum_21 (by decide) ?_
    refine lv_bipush (v := 8) hx hb dc_M_putSum_23 (by decide) ?_
    refine lv_iload hx hb dc_M_putSum_25 (lv_at hl 0 rfl) ?_
    refine lv_imul hx hb dc_M_putSum_27 ?_
    refine lv_isub hx hb dc_M_putSum_28 ?_
    refine lv_lshr (v := v >>> ((24 - (8 * (nI i)) : Int32).toInt64 &&& 63)) hx hb dc_M_putSum_29 rfl ?_
    refine lv_l2i (v := (v >>> ((24 - (8 * (nI i)) : Int32).toInt64 &&& 63)).toInt32) hx hb dc_M_putSum_30 rfl ?_
    refine lv_sipush (v := 255) hx hb dc_M_putSum_31 (by decide) ?_
    refine lv_iand hx hb dc_M_putSum_34 ?_
    refine W.eq (g2 := F0 m 35 ls [.int (((v >>> ((24 - (8 * (nI i)) : Int32).toInt64 &&& 63)).toInt32) &&& 255), .int (nI (a + 17 + i)), .ref a1]) (by rw [show (((nI a) + 17) + (nI i)) = (nI (a + 17 + i)) by rw [show (17 : Int32) = nI 17 from rfl, nI_add, nI_add]]) ?_
    refine va_iast hx hb hK hP hD hS 1 0 rfl rfl (vp_in_nI (by omega) (by omega)) dc_M_putSum_35 (fun H locs hP hD hS => ?_)
    rw [show (nI (a + 17 + i)).toNatClampNeg = (a + 17 + i) from nI_clamp (by omega)] at hP hD
    have hP : va_P (dC, dI) vwCl [(aM, .inr (7, [.int co, .ref a1, .int (nI ks), .int (nI dn), .ref a2, .ref a3, .ref a4, .ref a5, .ref a6, .int (nI xa), .int ri, .int fa, .int fq, .int bg, .long tm, .int ka, .long kb, .int va, .long vb])), (a1, .inl (c1_, 16384, .inl (upd (mPs tp (a + 17) v i) (a + 17 + i) (((v >>> ((24 - (8 * (nI i)) : Int32).toInt64 &&& 63)).toInt32) &&& 255))))] H := hP
    have hD : va_D A [(aM, .inr (7, [.int co, .ref a1, .int (nI ks), .int (nI dn), .ref a2, .ref a3, .ref a4, .ref a5, .ref a6, .int (nI xa), .int ri, .int fa, .int fq, .int bg, .long tm, .int ka, .long kb, .int va, .long vb])), (a1, .inl (c1_, 16384, .inl (upd (mPs tp (a + 17) v i) (a + 17 + i) (((v >>> ((24 - (8 * (nI i)) : Int32).toInt64 &&& 63)).toInt32) &&& 255))))] := hD
    refine lv_iinc (v := ((nI i) + 1)) (lv' := [(4, .int ((nI i) + 1)), (0, .ref aM), (1, .int (nI a)), (2, .long v)]) hx hb dc_M_putSum_36 hl (k := 0) rfl rfl (by decide) rfl (fun ls hl => ?_)
    refine lv_goto (tgt := 3) hx hb dc_M_putSum_39 (by decide) ?_
    have e_4 : (upd (mPs tp (a + 17) v i) (a + 17 + i) (((v >>> ((24 - (8 * (nI i)) : Int32).toInt64 &&& 63)).toInt32) &&& 255)) = (mPs tp (a + 17) v (i + 1)) := by first | exact nI_1 _ | rfl
    have e_5 : ((nI i) + 1) = (nI (i + 1)) := by first | exact nI_1 _ | rfl
    have hP := wP_eq (ws' := [(aM, .inr (7, [.int co, .ref a1, .int (nI ks), .int (nI dn), .ref a2, .ref a3, .ref a4, .ref a5, .ref a6, .int (nI xa), .int ri, .int fa, .int fq, .int bg, .long tm, .int ka, .long kb, .int va, .long vb])), (a1, .inl (c1_, 16384, .inl (mPs tp (a + 17) v (i + 1))))]) hP (cg1 (fun y0 => ([(aM, .inr (7, [.int co, .ref a1, .int (nI ks), .int (nI dn), .ref a2, .ref a3, .ref a4, .ref a5, .ref a6, .int (nI xa), .int ri, .int fa, .int fq, .int bg, .long tm, .int ka, .long kb, .int va, .long vb])), (a1, .inl (c1_, 16384, .inl y0))] : va_W)) e_4)
    have hD := wD_eq (ws' := [(aM, .inr (7, [.int co, .ref a1, .int (nI ks), .int (nI dn), .ref a2, .ref a3, .ref a4, .ref a5, .ref a6, .int (nI xa), .int ri, .int fa, .int fq, .int bg, .long tm, .int ka, .long kb, .int va, .long vb])), (a1, .inl (c1_, 16384, .inl (mPs tp (a + 17) v (i + 1))))]) hD (cg1 (fun y0 => ([(aM, .inr (7, [.int co, .ref a1, .int (nI ks), .int (nI dn), .ref a2, .ref a3, .ref a4, .ref a5, .ref a6, .int (nI xa), .int ri, .int fa, .int fq, .int bg, .long tm, .int ka, .long kb, .int va, .long vb])), (a1, .inl (c1_, 16384, .inl y0))] : va_W)) e_4)
    have hl := wL_eq (lv' := [(4, .int (nI (i + 1))), (0, .ref aM), (1, .int (nI a)), (2, .long v)]) hl (cg1 (fun y0 => ([(4, .int y0), (0, .ref aM), (1, .int (nI a)), (2, .long v)] : List (Nat × Value))) e_5)
    exact ih3 (i + 1) _ _ _ ⟨by show (i + 1) ≤ 4; omega, hP.sub [0, 1] rfl, hD.sub [0, 1] (by decide) rfl, hS, lv_sub hl [0, 1, 2, 3] rfl⟩ (by show 4 - (i + 1) < 4 - i; omega)

set_option maxHeartbeats 1000000 in
set_option maxRecDepth 100000 in
theorem c_M_check_ok (l : Launch) (dC : Nat → ClassId) (dI : Nat → Nat → Nat) (sz : Nat) (aM : Nat) (co : Int32) (a1 : Nat) (ks : Nat) (dn : Nat) (a2 : Nat) (a3 : Nat) (a4 : Nat) (a5 : Nat) (a6 : Nat) (xa : Nat) (ri : Int32) (fa : Int32) (fq : Int32) (bg : Int32) (tm : Int64) (ka : Int32) (kb : Int64) (va : Int32) (vb : Int64) (c1_ : ClassId) (tp : Nat → Int32) (hk : ks ≤ 16384) (h61 : 61 ≤ ks) : Met l my_M_check (wB my_M_check cd_M_check 3 (some .int)) ({ frames := 1, cells := 0, slots := 0, locals := 27 }) (va_Pc [.ref aM] (PcW (dC, dI) [(aM, .inr (7, [.int co, .ref a1, .int (nI ks), .int (nI dn), .ref a2, .ref a3, .ref a4, .ref a5, .ref a6, .int (nI xa), .int ri, .int fa, .int fq, .int bg, .long tm, .int ka, .long kb, .int va, .long vb])), (a1, .inl (c1_, 16384, .inl tp))] [(c1_, .int)] sz)) (va_Qi (fun (r : Int32) => fun (_ : Unit) => r = (ckM tp 21 (ks - 21)).toInt32) (fun _ => EnW (dC, dI) (va_A [(aM, .inr (7, [.int co, .ref a1, .int (nI ks), .int (nI dn), .ref a2, .ref a3, .ref a4, .ref a5, .ref a6, .int (nI xa), .int ri, .int fa, .int fq, .int bg, .long tm, .int ka, .long kb, .int va, .long vb])), (a1, .inl (c1_, 16384, .inl tp))] sz) [(aM, .inr (7, [.int 0, .ref a1, .int (nI ks), .int (nI dn), .ref a2, .ref a3, .ref a4, .ref a5, .ref a6, .int (nI xa), .int ri, .int fa, .int fq, .int bg, .long tm, .int ka, .long kb, .int va, .long vb])), (a1, .inl (c1_, 16384, .inl (mPs tp (0 + 17) (ckM tp 21 (ks - 21)) 4)))] [(c1_, .int)]) (va_A [(aM, .inr (7, [.int co, .ref a1, .int (nI ks), .int (nI dn), .ref a2, .ref a3, .ref a4, .ref a5, .ref a6, .int (nI xa), .int ri, .int fa, .int fq, .int bg, .long tm, .int ka, .long kb, .int va, .long vb])), (a1, .inl (c1_, 16384, .inl tp))] sz)) 0 0 (va_A [(aM, .inr (7, [.int co, .ref a1, .int (nI ks), .int (nI dn), .ref a2, .ref a3, .ref a4, .ref a5, .ref a6, .int (nI xa), .int ri, .int fa, .int fq, .int bg, .long tm, .int ka, .long kb, .int va, .long vb])), (a1, .inl (c1_, 16384, .inl tp))] sz) := by
  refine Met.ofW (cc := cd_M_check) (maxL := 3) (ret := (some .int)) (by decide) rfl ?_
  intro p e s m args below meth c s₁ B hml hv
  obtain ⟨rfl, hsz, hP, hK, hD0, hG⟩ := hv
  have hx := B.exec
  have hb := B.bytes
  have hr := B.returns
  have hts := fun (w : Cond) (h : w ∈ bigT) => atoms_spec (ws := (wB my_M_check cd_M_check 3 (some .int))) B.pre w (List.mem_cons_of_mem _ h)
  have hown : s.vm.findClass rn_M = some m.cls := findClass_of_methodNamed B.named
  have hlocks := B.notSynchronized
  subst hsz
  have hD := hD0.self (sz := s.heap.size)
  generalize hAe : va_A [(aM, .inr (7, [.int co, .ref a1, .int (nI ks), .int (nI dn), .ref a2, .ref a3, .ref a4, .ref a5, .ref a6, .int (nI xa), .int ri, .int fa, .int fq, .int bg, .long tm, .int ka, .long kb, .int va, .long vb])), (a1, .inl (c1_, 16384, .inl tp))] s.heap.size = A at hD hG ⊢
  have hA : ∀ q : Nat, s.heap.size ≤ q → A q := fun q h => by rw [← hAe]; exact Or.inr h
  have hS : va_S A s.heap s.heap [] := va_S.rf
  have hP : va_P (dC, dI) vwCl [(aM, .inr (7, [.int co, .ref a1, .int (nI ks), .int (nI dn), .ref a2, .ref a3, .ref a4, .ref a5, .ref a6, .int (nI xa), .int ri, .int fa, .int fq, .int bg, .long tm, .int ka, .long kb, .int va, .long vb])), (a1, .inl (c1_, 16384, .inl tp))] s.heap := hP
  have hl := lv_entry ([.ref aM]) (n := 3) (Nat.le_of_ble_eq_true rfl)
  rw [lg_entry_eq]
  generalize (lg_sl ([.ref aM]) ++ List.replicate (3 - (lg_sl ([.ref aM])).length) Slot.unset).toArray = ls at hl ⊢
  have hl : lv_has ls 3 [(0, .ref aM)] := hl
  refine lv_aload_n hx hb dc_M_check_0 rfl (lv_at hl 0 rfl) ?_
  refine lv_iconst (v := 0) hx hb dc_M_check_1 (by decide) ?_
  refine va_put (D := (dC, dI)) (ci := 7) (v := .int 0) (ty := .int) (C := rn_M) (T := ft_M) (N := 19) hx hb hts fw_M fy_M fo_M fn_M hown hK hP hD hS 0 rfl rfl 0 (by decide) (hts _ bw3_159) (fun _ h9 => h9) rfl (by decide +kernel) rfl rfl (Nat.le_of_ble_eq_true rfl) dc_M_check_2 (fun H locs hP hD hS => ?_)
  have hP : va_P (dC, dI) vwCl [(aM, .inr (7, [.int 0, .ref a1, .int (nI ks), .int (nI dn), .ref a2, .ref a3, .ref a4, .ref a5, .ref a6, .int (nI xa), .int ri, .int fa, .int fq, .int bg, .long tm, .int ka, .long kb, .int va, .long vb])), (a1, .inl (c1_, 16384, .inl tp))] H := hP
  have hD : va_D A [(aM, .inr (7, [.int 0, .ref a1, .int (nI ks), .int (nI dn), .ref a2, .ref a3, .ref a4, .ref a5, .ref a6, .int (nI xa), .int ri, .int fa, .int fq, .int bg, .long tm, .int ka, .long kb, .int va, .long vb])), (a1, .inl (c1_, 16384, .inl tp))] := hD
  refine lv_aload_n hx hb dc_M_check_5 rfl (lv_at hl 0 rfl) ?_
  refine va_get (D := (dC, dI)) (ci := 7) (v := .int (nI ks)) (C := rn_M) (T := ft_M) (N := 19) hx hb hts fw_M hown hK hP 0 rfl rfl 2 (by decide) (hts _ bw3_161) (fun _ h9 => h9) rfl dc_M_check_6 ?_
  refine lv_bipush (v := 61) hx hb dc_M_check_9 (by decide) ?_
  refine lv_icmp_ge (tgt := 16) hx hb dc_M_check_11 (by decide) (fun c_1 => ?_) (fun c_1 => ?_)
  · refine lv_aload_n hx hb dc_M_check_16 rfl (lv_at hl 0 rfl) ?_
    refine lv_bipush (v := 21) hx hb dc_M_check_17 (by decide) ?_
    refine lv_aload_n hx hb dc_M_check_19 rfl (lv_at hl 0 rfl) ?_
    refine va_get (D := (dC, dI)) (ci := 7) (v := .int (nI ks)) (C := rn_M) (T := ft_M) (N := 19) hx hb hts fw_M hown hK hP 0 rfl rfl 2 (by decide) (hts _ bw3_161) (fun _ h9 => h9) rfl dc_M_check_20 ?_
    refine kc_l (wc := [(aM, .inr (7, [.int 0, .ref a1, .int (nI ks), .int (nI dn), .ref a2, .ref a3, .ref a4, .ref a5, .ref a6, .int (nI xa), .int ri, .int fa, .int fq, .int bg, .long tm, .int ka, .long kb, .int va, .long vb])), (a1, .inl (c1_, 16384, .inl tp))]) (wr := []) hP hD hS hA [0, 1] [] rfl rfl (by decide) (by decide) (va_runV (As := [.int 21, .int (nI ks)]) (rest := []) ⟨hx, hb, hml, hown, hts⟩ (c_M_sum l dC dI _ aM 0 a1 ks dn a2 a3 a4 a5 a6 xa ri fa fq bg tm ka kb va vb c1_ tp 21 ks (by omega) (by omega)) (kw_V 2 hts bw4_15 bw4_17 bws_14 bw1_9 bw4_18 rfl rfl (by decide +kernel) ⟨Nat.le_of_ble_eq_true rfl, Nat.le_of_ble_eq_true rfl⟩) (kp_V (wc := [(aM, .inr (7, [.int 0, .ref a1, .int (nI ks), .int (nI dn), .ref a2, .ref a3, .ref a4, .ref a5, .ref a6, .int (nI xa), .int ri, .int fa, .int fq, .int bg, .long tm, .int ka, .long kb, .int va, .long vb])), (a1, .inl (c1_, 16384, .inl tp))]) (tc := [(c1_, .int)]) (As := [.int 21, .int (nI ks)]) hG hS hA hP hD hK [0, 1] rfl (by decide) rfl [0] rfl (ci := 7) (q0 := 0) rfl rfl) rfl rfl hl.1 rfl (lv_room (Nat.le_of_ble_eq_true rfl)) dc_M_check_23 ⟨Nat.zero_le _, Nat.zero_le _⟩) (fun r_2 _ H locs hw hP hD hK1 hS => ?_)
    subst hw
    have hP : va_P (dC, dI) vwCl [(aM, .inr (7, [.int 0, .ref a1, .int (nI ks), .int (nI dn), .ref a2, .ref a3, .ref a4, .ref a5, .ref a6, .int (nI xa), .int ri, .int fa, .int fq, .int bg, .long tm, .int ka, .long kb, .int va, .long vb])), (a1, .inl (c1_, 16384, .inl tp))] H := hP
    have hD : va_D A [(aM, .inr (7, [.int 0, .ref a1, .int (nI ks), .int (nI dn), .ref a2, .ref a3, .ref a4, .ref a5, .ref a6, .int (nI xa), .int ri, .int fa, .int fq, .int bg, .long tm, .int ka, .long kb, .int va, .long vb])), (a1, .inl (c1_, 16384, .inl tp))] := hD
    refine lv_lstore_n (lv' := [(1, .long (ckM tp 21 (ks - 21))), (0, .ref aM)]) hx hb dc_M_check_26 rfl hl (by decide) rfl (fun ls hl => ?_)
    refine lv_aload_n hx hb dc_M_check_27 rfl (lv_at hl 1 rfl) ?_
    refine lv_iconst (v := 0) hx hb dc_M_check_28 (by decide) ?_
    refine lv_lload_n hx hb dc_M_check_29 rfl (lv_at hl 0 rfl) ?_
    refine kc_v (wc := [(aM, .inr (7, [.int 0, .ref a1, .int (nI ks), .int (nI dn), .ref a2, .ref a3, .ref a4, .ref a5, .ref a6, .int (nI xa), .int ri, .int fa, .int fq, .int bg, .long tm, .int ka, .long kb, .int va, .long vb])), (a1, .inl (c1_, 16384, .inl tp))]) (wr := []) hP hD hS hA [0, 1] [] rfl rfl (by decide) (by decide) (va_runV (As := [.int 0, .long (ckM tp 21 (ks - 21))]) (rest := []) ⟨hx, hb, hml, hown, hts⟩ (c_M_putSum l dC dI _ aM 0 a1 ks dn a2 a3 a4 a5 a6 xa ri fa fq bg tm ka kb va vb c1_ tp 0 (ckM tp 21 (ks - 21)) (by omega)) (kw_V 2 hts bw4_21 bw4_23 bws_15 bw1_9 bw4_24 rfl rfl (by decide +kernel) ⟨Nat.le_of_ble_eq_true rfl, Nat.le_of_ble_eq_true rfl⟩) (kp_V (wc := [(aM, .inr (7, [.int 0, .ref a1, .int (nI ks), .int (nI dn), .ref a2, .ref a3, .ref a4, .ref a5, .ref a6, .int (nI xa), .int ri, .int fa, .int fq, .int bg, .long tm, .int ka, .long kb, .int va, .long vb])), (a1, .inl (c1_, 16384, .inl tp))]) (tc := [(c1_, .int)]) (As := [.int 0, .long (ckM tp 21 (ks - 21))]) hG hS hA hP hD hK [0, 1] rfl (by decide) rfl [0] rfl (ci := 7) (q0 := 0) rfl rfl) rfl rfl hl.1 rfl (lv_room (Nat.le_of_ble_eq_true rfl)) dc_M_check_30 ⟨Nat.zero_le _, Nat.zero_le _⟩) (fun _ H locs hw hP hD hK1 hS => ?_)
    have hP : va_P (dC, dI) vwCl [(aM, .inr (7, [.int 0, .ref a1, .int (nI ks), .int (nI dn), .ref a2, .ref a3, .ref a4, .ref a5, .ref a6, .int (nI xa), .int ri, .int fa, .int fq, .int bg, .long tm, .int ka, .long kb, .int va, .long vb])), (a1, .inl (c1_, 16384, .inl (mPs tp (0 + 17) (ckM tp 21 (ks - 21)) 4)))] H := hP
    have hD : va_D A [(aM, .inr (7, [.int 0, .ref a1, .int (nI ks), .int (nI dn), .ref a2, .ref a3, .ref a4, .ref a5, .ref a6, .int (nI xa), .int ri, .int fa, .int fq, .int bg, .long tm, .int ka, .long kb, .int va, .long vb])), (a1, .inl (c1_, 16384, .inl (mPs tp (0 + 17) (ckM tp 21 (ks - 21)) 4)))] := hD
    refine lv_lload_n hx hb dc_M_check_33 rfl (lv_at hl 0 rfl) ?_
    refine lv_l2i (v := (ckM tp 21 (ks - 21)).toInt32) hx hb dc_M_check_34 rfl ?_
    have hP9 := hP.sub (ws' := [(aM, .inr (7, [.int 0, .ref a1, .int (nI ks), .int (nI dn), .ref a2, .ref a3, .ref a4, .ref a5, .ref a6, .int (nI xa), .int ri, .int fa, .int fq, .int bg, .long tm, .int ka, .long kb, .int va, .long vb])), (a1, .inl (c1_, 16384, .inl (mPs tp (0 + 17) (ckM tp 21 (ks - 21)) 4)))]) [0, 1] rfl
    have hD9 := hD.sub (ws' := [(aM, .inr (7, [.int 0, .ref a1, .int (nI ks), .int (nI dn), .ref a2, .ref a3, .ref a4, .ref a5, .ref a6, .int (nI xa), .int ri, .int fa, .int fq, .int bg, .long tm, .int ka, .long kb, .int va, .long vb])), (a1, .inl (c1_, 16384, .inl (mPs tp (0 + 17) (ckM tp 21 (ks - 21)) 4)))]) [0, 1] (by decide) rfl
    have hK9 := hK.sub (tys' := [(c1_, .int)]) [0] rfl
    exact W.iret (v := ((ckM tp 21 (ks - 21)).toInt32)) hx hb hr (fun t ht hW => ⟨⟨((ckM tp 21 (ks - 21)).toInt32), (), rfl, rfl, by rw [ht]; exact hP9, va_K.moved hW.alike hK9, hD9⟩, hS.F ht⟩) hS.2.2 dc_M_check_35
  · exact absurd (nI_le (a := 61) h61 (by omega)) c_1

set_option maxHeartbeats 1000000 in
set_option maxRecDepth 100000 in
theorem c_M_check_small (l : Launch) (dC : Nat → ClassId) (dI : Nat → Nat → Nat) (sz : Nat) (aM : Nat) (co : Int32) (a1 : Nat) (ks : Nat) (dn : Nat) (a2 : Nat) (a3 : Nat) (a4 : Nat) (a5 : Nat) (a6 : Nat) (xa : Nat) (ri : Int32) (fa : Int32) (fq : Int32) (bg : Int32) (tm : Int64) (ka : Int32) (kb : Int64) (va : Int32) (vb : Int64) (c1_ : ClassId) (tp : Nat → Int32) (hk : ks ≤ 16384) (h61 : ks < 61) : Met l my_M_check (wB my_M_check cd_M_check 3 (some .int)) ({ frames := 0, cells := 0, slots := 0, locals := 0 }) (va_Pc [.ref aM] (PcW (dC, dI) [(aM, .inr (7, [.int co, .ref a1, .int (nI ks), .int (nI dn), .ref a2, .ref a3, .ref a4, .ref a5, .ref a6, .int (nI xa), .int ri, .int fa, .int fq, .int bg, .long tm, .int ka, .long kb, .int va, .long vb])), (a1, .inl (c1_, 16384, .inl tp))] [(c1_, .int)] sz)) (va_Qi (fun (r : Int32) => fun (_ : Unit) => r = -1) (fun _ => EnW (dC, dI) (va_A [(aM, .inr (7, [.int co, .ref a1, .int (nI ks), .int (nI dn), .ref a2, .ref a3, .ref a4, .ref a5, .ref a6, .int (nI xa), .int ri, .int fa, .int fq, .int bg, .long tm, .int ka, .long kb, .int va, .long vb])), (a1, .inl (c1_, 16384, .inl tp))] sz) [(aM, .inr (7, [.int 0, .ref a1, .int (nI ks), .int (nI dn), .ref a2, .ref a3, .ref a4, .ref a5, .ref a6, .int (nI xa), .int ri, .int fa, .int fq, .int bg, .long tm, .int ka, .long kb, .int va, .long vb])), (a1, .inl (c1_, 16384, .inl tp))] [(c1_, .int)]) (va_A [(aM, .inr (7, [.int co, .ref a1, .int (nI ks), .int (nI dn), .ref a2, .ref a3, .ref a4, .ref a5, .ref a6, .int (nI xa), .int ri, .int fa, .int fq, .int bg, .long tm, .int ka, .long kb, .int va, .long vb])), (a1, .inl (c1_, 16384, .inl tp))] sz)) 0 0 (va_A [(aM, .inr (7, [.int co, .ref a1, .int (nI ks), .int (nI dn), .ref a2, .ref a3, .ref a4, .ref a5, .ref a6, .int (nI xa), .int ri, .int fa, .int fq, .int bg, .long tm, .int ka, .long kb, .int va, .long vb])), (a1, .inl (c1_, 16384, .inl tp))] sz) := by
  refine Met.ofW (cc := cd_M_check) (maxL := 3) (ret := (some .int)) (by decide) rfl ?_
  intro p e s m args below meth c s₁ B hml hv
  obtain ⟨rfl, hsz, hP, hK, hD0, hG⟩ := hv
  have hx := B.exec
  have hb := B.bytes
  have hr := B.returns
  have hts := fun (w : Cond) (h : w ∈ bigT) => atoms_spec (ws := (wB my_M_check cd_M_check 3 (some .int))) B.pre w (List.mem_cons_of_mem _ h)
  have hown : s.vm.findClass rn_M = some m.cls := findClass_of_methodNamed B.named
  have hlocks := B.notSynchronized
  subst hsz
  have hD := hD0.self (sz := s.heap.size)
  generalize hAe : va_A [(aM, .inr (7, [.int co, .ref a1, .int (nI ks), .int (nI dn), .ref a2, .ref a3, .ref a4, .ref a5, .ref a6, .int (nI xa), .int ri, .int fa, .int fq, .int bg, .long tm, .int ka, .long kb, .int va, .long vb])), (a1, .inl (c1_, 16384, .inl tp))] s.heap.size = A at hD hG ⊢
  have hA : ∀ q : Nat, s.heap.size ≤ q → A q := fun q h => by rw [← hAe]; exact Or.inr h
  have hS : va_S A s.heap s.heap [] := va_S.rf
  have hP : va_P (dC, dI) vwCl [(aM, .inr (7, [.int co, .ref a1, .int (nI ks), .int (nI dn), .ref a2, .ref a3, .ref a4, .ref a5, .ref a6, .int (nI xa), .int ri, .int fa, .int fq, .int bg, .long tm, .int ka, .long kb, .int va, .long vb])), (a1, .inl (c1_, 16384, .inl tp))] s.heap := hP
  have hl := lv_entry ([.ref aM]) (n := 3) (Nat.le_of_ble_eq_true rfl)
  rw [lg_entry_eq]
  generalize (lg_sl ([.ref aM]) ++ List.replicate (3 - (lg_sl ([.ref aM])).length) Slot.unset).toArray = ls at hl ⊢
  have hl : lv_has ls 3 [(0, .ref aM)] := hl
  refine lv_aload_n hx hb dc_M_check_0 rfl (lv_at hl 0 rfl) ?_
  refine lv_iconst (v := 0) hx hb dc_M_check_1 (by decide) ?_
  refine va_put (D := (dC, dI)) (ci := 7) (v := .int 0) (ty := .int) (C := rn_M) (T := ft_M) (N := 19) hx hb hts fw_M fy_M fo_M fn_M hown hK hP hD hS 0 rfl rfl 0 (by decide) (hts _ bw3_159) (fun _ h9 => h9) rfl (by decide +kernel) rfl rfl (Nat.le_of_ble_eq_true rfl) dc_M_check_2 (fun H locs hP hD hS => ?_)
  have hP : va_P (dC, dI) vwCl [(aM, .inr (7, [.int 0, .ref a1, .int (nI ks), .int (nI dn), .ref a2, .ref a3, .ref a4, .ref a5, .ref a6, .int (nI xa), .int ri, .int fa, .int fq, .int bg, .long tm, .int ka, .long kb, .int va, .long vb])), (a1, .inl (c1_, 16384, .inl tp))] H := hP
  have hD : va_D A [(aM, .inr (7, [.int 0, .ref a1, .int (nI ks), .int (nI dn), .ref a2, .ref a3, .ref a4, .ref a5, .ref a6, .int (nI xa), .int ri, .int fa, .int fq, .int bg, .long tm, .int ka, .long kb, .int va, .long vb])), (a1, .inl (c1_, 16384, .inl tp))] := hD
  refine lv_aload_n hx hb dc_M_check_5 rfl (lv_at hl 0 rfl) ?_
  refine va_get (D := (dC, dI)) (ci := 7) (v := .int (nI ks)) (C := rn_M) (T := ft_M) (N := 19) hx hb hts fw_M hown hK hP 0 rfl rfl 2 (by decide) (hts _ bw3_161) (fun _ h9 => h9) rfl dc_M_check_6 ?_
  refine lv_bipush (v := 61) hx hb dc_M_check_9 (by decide) ?_
  refine lv_icmp_ge (tgt := 16) hx hb dc_M_check_11 (by decide) (fun c_1 => ?_) (fun c_1 => ?_)
  · exfalso; exact absurd ((nI_leI (a := 61) (by omega) (by omega)).mp c_1) (by omega)
  · refine lv_iconst (v := (-1)) hx hb dc_M_check_14 (by decide) ?_
    have hP9 := hP.sub (ws' := [(aM, .inr (7, [.int 0, .ref a1, .int (nI ks), .int (nI dn), .ref a2, .ref a3, .ref a4, .ref a5, .ref a6, .int (nI xa), .int ri, .int fa, .int fq, .int bg, .long tm, .int ka, .long kb, .int va, .long vb])), (a1, .inl (c1_, 16384, .inl tp))]) [0, 1] rfl
    have hD9 := hD.sub (ws' := [(aM, .inr (7, [.int 0, .ref a1, .int (nI ks), .int (nI dn), .ref a2, .ref a3, .ref a4, .ref a5, .ref a6, .int (nI xa), .int ri, .int fa, .int fq, .int bg, .long tm, .int ka, .long kb, .int va, .long vb])), (a1, .inl (c1_, 16384, .inl tp))]) [0, 1] (by decide) rfl
    have hK9 := hK.sub (tys' := [(c1_, .int)]) [0] rfl
    exact W.iret (v := (-1)) hx hb hr (fun t ht hW => ⟨⟨(-1), (), rfl, rfl, by rw [ht]; exact hP9, va_K.moved hW.alike hK9, hD9⟩, hS.F ht⟩) hS.2.2 dc_M_check_15
