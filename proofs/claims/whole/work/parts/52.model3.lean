set_option maxHeartbeats 1000000 in
set_option maxRecDepth 100000 in
theorem c_M_readZero (l : Launch) (dC : Nat → ClassId) (dI : Nat → Nat → Nat) (sz : Nat) (aM : Nat) (co : Int32) (a1 : Nat) (ks : Nat) (dn : Nat) (a2 : Nat) (a3 : Nat) (a4 : Nat) (a5 : Nat) (a6 : Nat) (xa : Nat) (ri : Int32) (fa : Int32) (fq : Int32) (bg : Int32) (tm : Int64) (ka : Int32) (kb : Int64) (va : Int32) (vb : Int64) (c1_ : ClassId) (tp : Nat → Int32) (hk : ks ≤ 16384) (hxa : xa ≤ 20000) : Met l my_M_readZero (wB my_M_readZero cd_M_readZero 1 none) ({ frames := 0, cells := 0, slots := 0, locals := 0 }) (va_Pc [.ref aM] (PcW (dC, dI) [(aM, .inr (7, [.int co, .ref a1, .int (nI ks), .int (nI dn), .ref a2, .ref a3, .ref a4, .ref a5, .ref a6, .int (nI xa), .int ri, .int fa, .int fq, .int bg, .long tm, .int ka, .long kb, .int va, .long vb])), (a1, .inl (c1_, 16384, .inl tp))] [(c1_, .int)] sz)) (va_Qv (fun (_ : Unit) => True) (fun _ => EnW (dC, dI) (va_A [(aM, .inr (7, [.int co, .ref a1, .int (nI ks), .int (nI dn), .ref a2, .ref a3, .ref a4, .ref a5, .ref a6, .int (nI xa), .int ri, .int fa, .int fq, .int bg, .long tm, .int ka, .long kb, .int va, .long vb])), (a1, .inl (c1_, 16384, .inl tp))] sz) [(aM, .inr (7, [.int co, .ref a1, .int (nI ks), .int (nI dn), .ref a2, .ref a3, .ref a4, .ref a5, .ref a6, .int (nI ((m1 tp ks xa ri).1)), .int ((m1 tp ks xa ri).2), .int fa, .int fq, .int bg, .long tm, .int ka, .long kb, .int va, .long vb])), (a1, .inl (c1_, 16384, .inl tp))] [(c1_, .int)]) (va_A [(aM, .inr (7, [.int co, .ref a1, .int (nI ks), .int (nI dn), .ref a2, .ref a3, .ref a4, .ref a5, .ref a6, .int (nI xa), .int ri, .int fa, .int fq, .int bg, .long tm, .int ka, .long kb, .int va, .long vb])), (a1, .inl (c1_, 16384, .inl tp))] sz)) 0 0 (va_A [(aM, .inr (7, [.int co, .ref a1, .int (nI ks), .int (nI dn), .ref a2, .ref a3, .ref a4, .ref a5, .ref a6, .int (nI xa), .int ri, .int fa, .int fq, .int bg, .long tm, .int ka, .long kb, .int va, .long vb])), (a1, .inl (c1_, 16384, .inl tp))] sz) := by
  refine Met.ofW (cc := cd_M_readZero) (maxL := 1) (ret := none) (by decide) rfl ?_
  intro p e s m args below meth c s₁ B hml hv
  obtain ⟨rfl, hsz, hP, hK, hD0, hG⟩ := hv
  have hx := B.exec
  have hb := B.bytes
  have hr := B.returns
  have hts := fun (w : Cond) (h : w ∈ bigT) => atoms_spec (ws := (wB my_M_readZero cd_M_readZero 1 none)) B.pre w (List.mem_cons_of_mem _ h)
  have hown : s.vm.findClass rn_M = some m.cls := findClass_of_methodNamed B.named
  have hlocks := B.notSynchronized
  subst hsz
  have hD := hD0.self (sz := s.heap.size)
  generalize hAe : va_A [(aM, .inr (7, [.int co, .ref a1, .int (nI ks), .int (nI dn), .ref a2, .ref a3, .ref a4, .ref a5, .ref a6, .int (nI xa), .int ri, .int fa, .int fq, .int bg, .long tm, .int ka, .long kb, .int va, .long vb])), (a1, .inl (c1_, 16384, .inl tp))] s.heap.size = A at hD hG ⊢
  have hA : ∀ q : Nat, s.heap.size ≤ q → A q := fun q h => by rw [← hAe]; exact Or.inr h
  have hS : va_S A s.heap s.heap [] := va_S.rf
  have hP : va_P (dC, dI) vwCl [(aM, .inr (7, [.int co, .ref a1, .int (nI ks), .int (nI dn), .ref a2, .ref a3, .ref a4, .ref a5, .ref a6, .int (nI xa), .int ri, .int fa, .int fq, .int bg, .long tm, .int ka, .long kb, .int va, .long vb])), (a1, .inl (c1_, 16384, .inl tp))] s.heap := hP
  have hl := lv_entry ([.ref aM]) (n := 1) (Nat.le_of_ble_eq_true rfl)
  rw [lg_entry_eq]
  generalize (lg_sl ([.ref aM]) ++ List.replicate (1 - (lg_sl ([.ref aM])).length) Slot.unset).toArray = ls at hl ⊢
  have hl : lv_has ls 1 [(0, .ref aM)] := hl
  refine lv_aload_n hx hb dc_M_readZero_0 rfl (lv_at hl 0 rfl) ?_
  refine lv_aload_n hx hb dc_M_readZero_1 rfl (lv_at hl 0 rfl) ?_
  refine va_get (D := (dC, dI)) (ci := 7) (v := .int ri) (C := rn_M) (T := ft_M) (N := 19) hx hb hts fw_M hown hK hP 0 rfl rfl 10 (by decide) (hts _ bw3_169) (fun _ h9 => h9) rfl dc_M_readZero_2 ?_
  refine w_join (σ := Int32) (fun v36_0 H locs ls => v36_0 = (if ri = 0 then 0 else if (nI ks) ≤ (nI xa) then 0 else if (tp xa) = 0 then 1 else 0) ∧ va_P (dC, dI) vwCl [(aM, .inr (7, [.int co, .ref a1, .int (nI ks), .int (nI dn), .ref a2, .ref a3, .ref a4, .ref a5, .ref a6, .int (nI xa), .int ri, .int fa, .int fq, .int bg, .long tm, .int ka, .long kb, .int va, .long vb])), (a1, .inl (c1_, 16384, .inl tp))] H ∧ va_D A [(aM, .inr (7, [.int co, .ref a1, .int (nI ks), .int (nI dn), .ref a2, .ref a3, .ref a4, .ref a5, .ref a6, .int (nI xa), .int ri, .int fa, .int fq, .int bg, .long tm, .int ka, .long kb, .int va, .long vb])), (a1, .inl (c1_, 16384, .inl tp))] ∧ va_S A s.heap H locs ∧ lv_has ls 1 [(0, .ref aM)]) (fun v36_0 ls => F0 m 36 ls [.int v36_0, .ref aM]) ?_ (fun hJ36 => ?_)
  · rintro v36_0 H locs ls ⟨ev36_0, hP, hD, hS, hl⟩
    have hP : va_P (dC, dI) vwCl [(aM, .inr (7, [.int co, .ref a1, .int (nI ks), .int (nI dn), .ref a2, .ref a3, .ref a4, .ref a5, .ref a6, .int (nI xa), .int ri, .int fa, .int fq, .int bg, .long tm, .int ka, .long kb, .int va, .long vb])), (a1, .inl (c1_, 16384, .inl tp))] H := hP
    have hD : va_D A [(aM, .inr (7, [.int co, .ref a1, .int (nI ks), .int (nI dn), .ref a2, .ref a3, .ref a4, .ref a5, .ref a6, .int (nI xa), .int ri, .int fa, .int fq, .int bg, .long tm, .int ka, .long kb, .int va, .long vb])), (a1, .inl (c1_, 16384, .inl tp))] := hD
    have hl : lv_has ls 1 [(0, .ref aM)] := hl
    show W _ _ _ _ _ _ _ _ _ _ _ _ _ _ _ (F0 m 36 ls [.int v36_0, .ref aM])
    have h01v36_0 : v36_0 = 0 ∨ v36_0 = 1 := by rw [ev36_0]; exact i01 (Or.inl rfl) (i01 (Or.inl rfl) (i01 (Or.inr rfl) (Or.inl rfl)))
    refine va_put (D := (dC, dI)) (ci := 7) (v := .int v36_0) (ty := .boolean) (C := rn_M) (T := ft_M) (N := 19) hx hb hts fw_M fy_M fo_M fn_M hown hK hP hD hS 0 rfl rfl 10 (by decide) (hts _ bw3_169) (fun _ h9 => h9) rfl (by decide +kernel) (by rcases h01v36_0 with h | h <;> rw [h] <;> rfl) (by rcases h01v36_0 with h | h <;> rw [h] <;> rfl) (Nat.le_of_ble_eq_true rfl) dc_M_readZero_36 (fun H locs hP hD hS => ?_)
    have hP : va_P (dC, dI) vwCl [(aM, .inr (7, [.int co, .ref a1, .int (nI ks), .int (nI dn), .ref a2, .ref a3, .ref a4, .ref a5, .ref a6, .int (nI xa), .int v36_0, .int fa, .int fq, .int bg, .long tm, .int ka, .long kb, .int va, .long vb])), (a1, .inl (c1_, 16384, .inl tp))] H := hP
    have hD : va_D A [(aM, .inr (7, [.int co, .ref a1, .int (nI ks), .int (nI dn), .ref a2, .ref a3, .ref a4, .ref a5, .ref a6, .int (nI xa), .int v36_0, .int fa, .int fq, .int bg, .long tm, .int ka, .long kb, .int va, .long vb])), (a1, .inl (c1_, 16384, .inl tp))] := hD
    refine lv_aload_n hx hb dc_M_readZero_39 rfl (lv_at hl 0 rfl) ?_
    refine lv_dup hx hb dc_M_readZero_40 rfl ?_
    refine va_get (D := (dC, dI)) (ci := 7) (v := .int (nI xa)) (C := rn_M) (T := ft_M) (N := 19) hx hb hts fw_M hown hK hP 0 rfl rfl 9 (by decide) (hts _ bw3_168) (fun _ h9 => h9) rfl dc_M_readZero_41 ?_
    refine lv_iconst (v := 1) hx hb dc_M_readZero_44 (by decide) ?_
    refine lv_iadd hx hb dc_M_readZero_45 ?_
    refine va_put (D := (dC, dI)) (ci := 7) (v := .int ((nI xa) + 1)) (ty := .int) (C := rn_M) (T := ft_M) (N := 19) hx hb hts fw_M fy_M fo_M fn_M hown hK hP hD hS 0 rfl rfl 9 (by decide) (hts _ bw3_168) (fun _ h9 => h9) rfl (by decide +kernel) rfl rfl (Nat.le_of_ble_eq_true rfl) dc_M_readZero_46 (fun H locs hP hD hS => ?_)
    have hP : va_P (dC, dI) vwCl [(aM, .inr (7, [.int co, .ref a1, .int (nI ks), .int (nI dn), .ref a2, .ref a3, .ref a4, .ref a5, .ref a6, .int ((nI xa) + 1), .int v36_0, .int fa, .int fq, .int bg, .long tm, .int ka, .long kb, .int va, .long vb])), (a1, .inl (c1_, 16384, .inl tp))] H := hP
    have hD : va_D A [(aM, .inr (7, [.int co, .ref a1, .int (nI ks), .int (nI dn), .ref a2, .ref a3, .ref a4, .ref a5, .ref a6, .int ((nI xa) + 1), .int v36_0, .int fa, .int fq, .int bg, .long tm, .int ka, .long kb, .int va, .long vb])), (a1, .inl (c1_, 16384, .inl tp))] := hD
    have e_1 : ((nI xa) + 1) = (nI ((m1 tp ks xa ri).1)) := by first | (rw [nI_1]; rfl) | (unfold m1; rw [ev36_0]; simp only [nI_leI (show ks < 2 ^ 31 by omega) (show xa < 2 ^ 31 by omega)])
    have e_2 : v36_0 = ((m1 tp ks xa ri).2) := by first | (rw [nI_1]; rfl) | (unfold m1; rw [ev36_0]; simp only [nI_leI (show ks < 2 ^ 31 by omega) (show xa < 2 ^ 31 by omega)])
    have hP := wP_eq (ws' := [(aM, .inr (7, [.int co, .ref a1, .int (nI ks), .int (nI dn), .ref a2, .ref a3, .ref a4, .ref a5, .ref a6, .int (nI ((m1 tp ks xa ri).1)), .int ((m1 tp ks xa ri).2), .int fa, .int fq, .int bg, .long tm, .int ka, .long kb, .int va, .long vb])), (a1, .inl (c1_, 16384, .inl tp))]) hP (cg2 (fun y0 y1 => ([(aM, .inr (7, [.int co, .ref a1, .int (nI ks), .int (nI dn), .ref a2, .ref a3, .ref a4, .ref a5, .ref a6, .int y0, .int y1, .int fa, .int fq, .int bg, .long tm, .int ka, .long kb, .int va, .long vb])), (a1, .inl (c1_, 16384, .inl tp))] : va_W)) e_1 e_2)
    have hD := wD_eq (ws' := [(aM, .inr (7, [.int co, .ref a1, .int (nI ks), .int (nI dn), .ref a2, .ref a3, .ref a4, .ref a5, .ref a6, .int (nI ((m1 tp ks xa ri).1)), .int ((m1 tp ks xa ri).2), .int fa, .int fq, .int bg, .long tm, .int ka, .long kb, .int va, .long vb])), (a1, .inl (c1_, 16384, .inl tp))]) hD (cg2 (fun y0 y1 => ([(aM, .inr (7, [.int co, .ref a1, .int (nI ks), .int (nI dn), .ref a2, .ref a3, .ref a4, .ref a5, .ref a6, .int y0, .int y1, .int fa, .int fq, .int bg, .long tm, .int ka, .long kb, .int va, .long vb])), (a1, .inl (c1_, 16384, .inl tp))] : va_W)) e_1 e_2)
    have hP9 := hP.sub (ws' := [(aM, .inr (7, [.int co, .ref a1, .int (nI ks), .int (nI dn), .ref a2, .ref a3, .ref a4, .ref a5, .ref a6, .int (nI ((m1 tp ks xa ri).1)), .int ((m1 tp ks xa ri).2), .int fa, .int fq, .int bg, .long tm, .int ka, .long kb, .int va, .long vb])), (a1, .inl (c1_, 16384, .inl tp))]) [0, 1] rfl
    have hD9 := hD.sub (ws' := [(aM, .inr (7, [.int co, .ref a1, .int (nI ks), .int (nI dn), .ref a2, .ref a3, .ref a4, .ref a5, .ref a6, .int (nI ((m1 tp ks xa ri).1)), .int ((m1 tp ks xa ri).2), .int fa, .int fq, .int bg, .long tm, .int ka, .long kb, .int va, .long vb])), (a1, .inl (c1_, 16384, .inl tp))]) [0, 1] (by decide) rfl
    have hK9 := hK.sub (tys' := [(c1_, .int)]) [0] rfl
    exact W.vret hx hb hr (fun t ht hW => ⟨⟨(), rfl, trivial, by rw [ht]; exact hP9, va_K.moved hW.alike hK9, hD9⟩, hS.F ht⟩) hS.2.2 dc_M_readZero_49
  · refine lv_if_eq (tgt := 35) hx hb dc_M_readZero_5 (by decide) (fun c_3 => ?_) (fun c_3 => ?_)
    · refine lv_iconst (v := 0) hx hb dc_M_readZero_35 (by decide) ?_
      exact hJ36 0 _ _ _ ⟨by rw [if_pos c_3], hP.sub [0, 1] rfl, hD.sub [0, 1] (by decide) rfl, hS, lv_sub hl [0] rfl⟩
    · have hr1 := c_3
      refine lv_aload_n hx hb dc_M_readZero_8 rfl (lv_at hl 0 rfl) ?_
      refine va_get (D := (dC, dI)) (ci := 7) (v := .int (nI xa)) (C := rn_M) (T := ft_M) (N := 19) hx hb hts fw_M hown hK hP 0 rfl rfl 9 (by decide) (hts _ bw3_168) (fun _ h9 => h9) rfl dc_M_readZero_9 ?_
      refine lv_aload_n hx hb dc_M_readZero_12 rfl (lv_at hl 0 rfl) ?_
      refine va_get (D := (dC, dI)) (ci := 7) (v := .int (nI ks)) (C := rn_M) (T := ft_M) (N := 19) hx hb hts fw_M hown hK hP 0 rfl rfl 2 (by decide) (hts _ bw3_161) (fun _ h9 => h9) rfl dc_M_readZero_13 ?_
      refine lv_icmp_ge (tgt := 35) hx hb dc_M_readZero_16 (by decide) (fun c_4 => ?_) (fun c_4 => ?_)
      · refine lv_iconst (v := 0) hx hb dc_M_readZero_35 (by decide) ?_
        exact hJ36 0 _ _ _ ⟨by rw [if_neg c_3, if_pos c_4], hP.sub [0, 1] rfl, hD.sub [0, 1] (by decide) rfl, hS, lv_sub hl [0] rfl⟩
      · have hlt : xa < ks := by rcases Nat.lt_or_ge xa ks with h | h; exact h; exact absurd (nI_le h (by omega)) c_4
        refine lv_aload_n hx hb dc_M_readZero_19 rfl (lv_at hl 0 rfl) ?_
        refine va_get (D := (dC, dI)) (ci := 7) (v := .ref a1) (C := rn_M) (T := ft_M) (N := 19) hx hb hts fw_M hown hK hP 0 rfl rfl 1 (by decide) (hts _ bw3_160) (fun _ h9 => h9) rfl dc_M_readZero_20 ?_
        refine lv_aload_n hx hb dc_M_readZero_23 rfl (lv_at hl 0 rfl) ?_
        refine va_get (D := (dC, dI)) (ci := 7) (v := .int (nI xa)) (C := rn_M) (T := ft_M) (N := 19) hx hb hts fw_M hown hK hP 0 rfl rfl 9 (by decide) (hts _ bw3_168) (fun _ h9 => h9) rfl dc_M_readZero_24 ?_
        refine va_iald hx hb hK hP 1 0 rfl rfl (vp_in_nI (by omega) (by omega)) dc_M_readZero_27 ?_
        rw [show (nI xa).toNatClampNeg = xa from nI_clamp (by omega)]
        refine lv_if_ne (tgt := 35) hx hb dc_M_readZero_28 (by decide) (fun c_5 => ?_) (fun c_5 => ?_)
        · refine lv_iconst (v := 0) hx hb dc_M_readZero_35 (by decide) ?_
          exact hJ36 0 _ _ _ ⟨by rw [if_neg c_3, if_neg c_4, if_neg c_5], hP.sub [0, 1] rfl, hD.sub [0, 1] (by decide) rfl, hS, lv_sub hl [0] rfl⟩
        · refine lv_iconst (v := 1) hx hb dc_M_readZero_31 (by decide) ?_
          refine lv_goto (tgt := 36) hx hb dc_M_readZero_32 (by decide) ?_
          exact hJ36 1 _ _ _ ⟨by rw [if_neg c_3, if_neg c_4, if_pos c_5], hP.sub [0, 1] rfl, hD.sub [0, 1] (by decide) rfl, hS, lv_sub hl [0] rfl⟩

set_option maxHeartbeats 1000000 in
set_option maxRecDepth 100000 in
theorem c_M_readVarint (l : Launch) (dC : Nat → ClassId) (dI : Nat → Nat → Nat) (sz : Nat) (aM : Nat) (co : Int32) (a1 : Nat) (ks : Nat) (dn : Nat) (a2 : Nat) (a3 : Nat) (a4 : Nat) (a5 : Nat) (a6 : Nat) (xa : Nat) (ri : Int32) (fa : Int32) (fq : Int32) (bg : Int32) (tm : Int64) (ka : Int32) (kb : Int64) (va : Int32) (vb : Int64) (c1_ : ClassId) (tp : Nat → Int32) (hk : ks ≤ 16384) (hxa : xa ≤ 20000) : Met l my_M_readVarint (wB my_M_readVarint cd_M_readVarint 7 (some .long)) ({ frames := 0, cells := 0, slots := 0, locals := 0 }) (va_Pc [.ref aM] (PcW (dC, dI) [(aM, .inr (7, [.int co, .ref a1, .int (nI ks), .int (nI dn), .ref a2, .ref a3, .ref a4, .ref a5, .ref a6, .int (nI xa), .int ri, .int fa, .int fq, .int bg, .long tm, .int ka, .long kb, .int va, .long vb])), (a1, .inl (c1_, 16384, .inl tp))] [(c1_, .int)] sz)) (va_Ql (fun (r : Int64) => fun (_ : Unit) => r = (mv tp ks xa ri).1) (fun _ => EnW (dC, dI) (va_A [(aM, .inr (7, [.int co, .ref a1, .int (nI ks), .int (nI dn), .ref a2, .ref a3, .ref a4, .ref a5, .ref a6, .int (nI xa), .int ri, .int fa, .int fq, .int bg, .long tm, .int ka, .long kb, .int va, .long vb])), (a1, .inl (c1_, 16384, .inl tp))] sz) [(aM, .inr (7, [.int co, .ref a1, .int (nI ks), .int (nI dn), .ref a2, .ref a3, .ref a4, .ref a5, .ref a6, .int (nI ((mv tp ks xa ri).2.1)), .int ((mv tp ks xa ri).2.2), .int fa, .int fq, .int bg, .long tm, .int ka, .long kb, .int va, .long vb])), (a1, .inl (c1_, 16384, .inl tp))] [(c1_, .int)]) (va_A [(aM, .inr (7, [.int co, .ref a1, .int (nI ks), .int (nI dn), .ref a2, .ref a3, .ref a4, .ref a5, .ref a6, .int (nI xa), .int ri, .int fa, .int fq, .int bg, .long tm, .int ka, .long kb, .int va, .long vb])), (a1, .inl (c1_, 16384, .inl tp))] sz)) 0 0 (va_A [(aM, .inr (7, [.int co, .ref a1, .int (nI ks), .int (nI dn), .ref a2, .ref a3, .ref a4, .ref a5, .ref a6, .int (nI xa), .int ri, .int fa, .int fq, .int bg, .long tm, .int ka, .long kb, .int va, .long vb])), (a1, .inl (c1_, 16384, .inl tp))] sz) := by
  refine Met.ofW (cc := cd_M_readVarint) (maxL := 7) (ret := (some .long)) (by decide) rfl ?_
  intro p e s m args below meth c s₁ B hml hv
  obtain ⟨rfl, hsz, hP, hK, hD0, hG⟩ := hv
  have hx := B.exec
  have hb := B.bytes
  have hr := B.returns
  have hts := fun (w : Cond) (h : w ∈ bigT) => atoms_spec (ws := (wB my_M_readVarint cd_M_readVarint 7 (some .long))) B.pre w (List.mem_cons_of_mem _ h)
  have hown : s.vm.findClass rn_M = some m.cls := findClass_of_methodNamed B.named
  have hlocks := B.notSynchronized
  subst hsz
  have hD := hD0.self (sz := s.heap.size)
  generalize hAe : va_A [(aM, .inr (7, [.int co, .ref a1, .int (nI ks), .int (nI dn), .ref a2, .ref a3, .ref a4, .ref a5, .ref a6, .int (nI xa), .int ri, .int fa, .int fq, .int bg, .long tm, .int ka, .long kb, .int va, .long vb])), (a1, .inl (c1_, 16384, .inl tp))] s.heap.size = A at hD hG ⊢
  have hA : ∀ q : Nat, s.heap.size ≤ q → A q := fun q h => by rw [← hAe]; exact Or.inr h
  have hS : va_S A s.heap s.heap [] := va_S.rf
  have hP : va_P (dC, dI) vwCl [(aM, .inr (7, [.int co, .ref a1, .int (nI ks), .int (nI dn), .ref a2, .ref a3, .ref a4, .ref a5, .ref a6, .int (nI xa), .int ri, .int fa, .int fq, .int bg, .long tm, .int ka, .long kb, .int va, .long vb])), (a1, .inl (c1_, 16384, .inl tp))] s.heap := hP
  have hl := lv_entry ([.ref aM]) (n := 7) (Nat.le_of_ble_eq_true rfl)
  rw [lg_entry_eq]
  generalize (lg_sl ([.ref aM]) ++ List.replicate (7 - (lg_sl ([.ref aM])).length) Slot.unset).toArray = ls at hl ⊢
  have hl : lv_has ls 7 [(0, .ref aM)] := hl
  refine lv_lconst (v := 0) hx hb dc_M_readVarint_0 rfl ?_
  refine lv_lstore_n (lv' := [(1, .long 0), (0, .ref aM)]) hx hb dc_M_readVarint_1 rfl hl (by decide) rfl (fun ls hl => ?_)
  refine lv_iconst (v := 0) hx hb dc_M_readVarint_2 (by decide) ?_
  refine lv_istore_n (lv' := [(3, .int 0), (1, .long 0), (0, .ref aM)]) hx hb dc_M_readVarint_3 rfl hl (by decide) rfl (fun ls hl => ?_)
  refine lv_iconst (v := 1) hx hb dc_M_readVarint_4 (by decide) ?_
  refine lv_istore (lv' := [(4, .int 1), (3, .int 0), (1, .long 0), (0, .ref aM)]) hx hb dc_M_readVarint_5 hl (by decide) rfl (fun ls hl => ?_)
  refine w_loop (σ := Nat × Nat × Int64 × Nat × Int32 × Int32) (fun x H locs ls => x.2.1 ≤ 10 ∧ x.2.2.2.1 ≤ 20000 ∧ (x.2.2.2.2.1 = 0 ∨ x.2.2.2.2.2 = 0 ∨ x.1 + x.2.1 = 11) ∧ rvW tp ks x.2.2.2.2.1 x.2.2.2.2.2 x.1 x.2.1 x.2.2.1 x.2.2.2.1 = rvW tp ks 1 ri 11 0 0 xa ∧ va_P (dC, dI) vwCl [(aM, .inr (7, [.int co, .ref a1, .int (nI ks), .int (nI dn), .ref a2, .ref a3, .ref a4, .ref a5, .ref a6, .int (nI x.2.2.2.1), .int x.2.2.2.2.2, .int fa, .int fq, .int bg, .long tm, .int ka, .long kb, .int va, .long vb])), (a1, .inl (c1_, 16384, .inl tp))] H ∧ va_D A [(aM, .inr (7, [.int co, .ref a1, .int (nI ks), .int (nI dn), .ref a2, .ref a3, .ref a4, .ref a5, .ref a6, .int (nI x.2.2.2.1), .int x.2.2.2.2.2, .int fa, .int fq, .int bg, .long tm, .int ka, .long kb, .int va, .long vb])), (a1, .inl (c1_, 16384, .inl tp))] ∧ va_S A s.heap H locs ∧ lv_has ls 7 [(4, .int x.2.2.2.2.1), (3, .int (nI x.2.1)), (1, .long x.2.2.1), (0, .ref aM)]) (fun x ls => F0 m 7 ls []) (fun _ => 0) (fun _ => 0) (fun x => x.1) ?_ (11, 0, 0, xa, 1, ri) _ _ _ ⟨by show 0 ≤ 10; omega, by show xa ≤ 20000; omega, (show 1 = 0 ∨ ri = 0 ∨ 11 + 0 = 11 from Or.inr (Or.inr rfl)), (show rvW tp ks 1 ri 11 0 0 xa = rvW tp ks 1 ri 11 0 0 xa from rfl), hP.sub [0, 1] rfl, hD.sub [0, 1] (by decide) rfl, hS, lv_sub hl [0, 1, 2, 3] rfl⟩
  rintro ⟨fl, i, z, a2_, mo, r2⟩ H locs ls ⟨hi, ha2, hfi, hR, hP, hD, hS, hl⟩ ih7
  have hP : va_P (dC, dI) vwCl [(aM, .inr (7, [.int co, .ref a1, .int (nI ks), .int (nI dn), .ref a2, .ref a3, .ref a4, .ref a5, .ref a6, .int (nI a2_), .int r2, .int fa, .int fq, .int bg, .long tm, .int ka, .long kb, .int va, .long vb])), (a1, .inl (c1_, 16384, .inl tp))] H := hP
  have hD : va_D A [(aM, .inr (7, [.int co, .ref a1, .int (nI ks), .int (nI dn), .ref a2, .ref a3, .ref a4, .ref a5, .ref a6, .int (nI a2_), .int r2, .int fa, .int fq, .int bg, .long tm, .int ka, .long kb, .int va, .long vb])), (a1, .inl (c1_, 16384, .inl tp))] := hD
  have hl : lv_has ls 7 [(4, .int mo), (3, .int (nI i)), (1, .long z), (0, .ref aM)] := hl
  show W _ _ _ _ _ _ _ _ _ _ _ _ _ _ _ (F0 m 7 ls [])
  have hi : i ≤ 10 := hi
  have ha2 : a2_ ≤ 20000 := ha2
  have hfi : mo = 0 ∨ r2 = 0 ∨ fl + i = 11 := hfi
  have hR : rvW tp ks mo r2 fl i z a2_ = rvW tp ks 1 ri 11 0 0 xa := hR
  refine lv_iload hx hb dc_M_readVarint_7 (lv_at hl 0 rfl) ?_
  refine lv_if_eq (tgt := 142) hx hb dc_M_readVarint_9 (by decide) (fun c_1 => ?_) (fun c_1 => ?_)
  · have hE := (rvW_exit (Or.inl c_1)).symm.trans hR
    refine lv_lload_n hx hb dc_M_readVarint_142 rfl (lv_at hl 2 rfl) ?_
    refine lv_iconst (v := 1) hx hb dc_M_readVarint_143 (by decide) ?_
    refine lv_lushr (v := (z.toUInt64 >>> ((1 : Int32).toInt64.toUInt64 &&& Int64.toUInt64 63)).toInt64) hx hb dc_M_readVarint_144 rfl ?_
    refine lv_lstore (lv' := [(5, .long ((z.toUInt64 >>> ((1 : Int32).toInt64.toUInt64 &&& Int64.toUInt64 63)).toInt64)), (4, .int mo), (3, .int (nI i)), (1, .long z), (0, .ref aM)]) hx hb dc_M_readVarint_145 hl (by decide) rfl (fun ls hl => ?_)
    refine lv_lload_n hx hb dc_M_readVarint_147 rfl (lv_at hl 3 rfl) ?_
    refine lv_lconst (v := 1) hx hb dc_M_readVarint_148 rfl ?_
    refine lv_land hx hb dc_M_readVarint_149 ?_
    refine lv_lconst (v := 0) hx hb dc_M_readVarint_150 rfl ?_
    refine W.lcmp hx hb dc_M_readVarint_151 ?_
    refine w_join (σ := Int64) (fun v165_0 H locs ls => v165_0 = (if (z &&& 1) = 0 then (z.toUInt64 >>> ((1 : Int32).toInt64.toUInt64 &&& Int64.toUInt64 63)).toInt64 else (-((z.toUInt64 >>> ((1 : Int32).toInt64.toUInt64 &&& Int64.toUInt64 63)).toInt64)) - 1) ∧ va_P (dC, dI) vwCl [(aM, .inr (7, [.int co, .ref a1, .int (nI ks), .int (nI dn), .ref a2, .ref a3, .ref a4, .ref a5, .ref a6, .int (nI a2_), .int r2, .int fa, .int fq, .int bg, .long tm, .int ka, .long kb, .int va, .long vb])), (a1, .inl (c1_, 16384, .inl tp))] H ∧ va_D A [(aM, .inr (7, [.int co, .ref a1, .int (nI ks), .int (nI dn), .ref a2, .ref a3, .ref a4, .ref a5, .ref a6, .int (nI a2_), .int r2, .int fa, .int fq, .int bg, .long tm, .int ka, .long kb, .int va, .long vb])), (a1, .inl (c1_, 16384, .inl tp))] ∧ va_S A s.heap H locs ∧ lv_has ls 7 [(5, .long ((z.toUInt64 >>> ((1 : Int32).toInt64.toUInt64 &&& Int64.toUInt64 63)).toInt64)), (4, .int mo), (3, .int (nI i)), (1, .long z), (0, .ref aM)]) (fun v165_0 ls => F0 m 165 ls [.long v165_0]) ?_ (fun hJ165 => ?_)
    · rintro v165_0 H locs ls ⟨ev165_0, hP, hD, hS, hl⟩
      have hP : va_P (dC, dI) vwCl [(aM, .inr (7, [.int co, .ref a1, .int (nI ks), .int (nI dn), .ref a2, .ref a3, .ref a4, .ref a5, .ref a6, .int (nI a2_), .int r2, .int fa, .int fq, .int bg, .long tm, .int ka, .long kb, .int va, .long vb])), (a1, .inl (c1_, 16384, .inl tp))] H := hP
      have hD : va_D A [(aM, .inr (7, [.int co, .ref a1, .int (nI ks), .int (nI dn), .ref a2, .ref a3, .ref a4, .ref a5, .ref a6, .int (nI a2_), .int r2, .int fa, .int fq, .int bg, .long tm, .int ka, .long kb, .int va, .long vb])), (a1, .inl (c1_, 16384, .inl tp))] := hD
      have hl : lv_has ls 7 [(5, .long ((z.toUInt64 >>> ((1 : Int32).toInt64.toUInt64 &&& Int64.toUInt64 63)).toInt64)), (4, .int mo), (3, .int (nI i)), (1, .long z), (0, .ref aM)] := hl
      show W _ _ _ _ _ _ _ _ _ _ _ _ _ _ _ (F0 m 165 ls [.long v165_0])
      have e_2 : (nI a2_) = (nI ((mv tp ks xa ri).2.1)) := by first | (rw [mv_W, ← hE]; done)
      have e_3 : r2 = ((mv tp ks xa ri).2.2) := by first | (rw [mv_W, ← hE]; done)
      have hP := wP_eq (ws' := [(aM, .inr (7, [.int co, .ref a1, .int (nI ks), .int (nI dn), .ref a2, .ref a3, .ref a4, .ref a5, .ref a6, .int (nI ((mv tp ks xa ri).2.1)), .int ((mv tp ks xa ri).2.2), .int fa, .int fq, .int bg, .long tm, .int ka, .long kb, .int va, .long vb])), (a1, .inl (c1_, 16384, .inl tp))]) hP (cg2 (fun y0 y1 => ([(aM, .inr (7, [.int co, .ref a1, .int (nI ks), .int (nI dn), .ref a2, .ref a3, .ref a4, .ref a5, .ref a6, .int y0, .int y1, .int fa, .int fq, .int bg, .long tm, .int ka, .long kb, .int va, .long vb])), (a1, .inl (c1_, 16384, .inl tp))] : va_W)) e_2 e_3)
      have hD := wD_eq (ws' := [(aM, .inr (7, [.int co, .ref a1, .int (nI ks), .int (nI dn), .ref a2, .ref a3, .ref a4, .ref a5, .ref a6, .int (nI ((mv tp ks xa ri).2.1)), .int ((mv tp ks xa ri).2.2), .int fa, .int fq, .int bg, .long tm, .int ka, .long kb, .int va, .long vb])), (a1, .inl (c1_, 16384, .inl tp))]) hD (cg2 (fun y0 y1 => ([(aM, .inr (7, [.int co, .ref a1, .int (nI ks), .int (nI dn), .ref a2, .ref a3, .ref a4, .ref a5, .ref a6, .int y0, .int y1, .int fa, .int fq, .int bg, .long tm, .int ka, .long kb, .int va, .long vb])), (a1, .inl (c1_, 16384, .inl tp))] : va_W)) e_2 e_3)
      have hP9 := hP.sub (ws' := [(aM, .inr (7, [.int co, .ref a1, .int (nI ks), .int (nI dn), .ref a2, .ref a3, .ref a4, .ref a5, .ref a6, .int (nI ((mv tp ks xa ri).2.1)), .int ((mv tp ks xa ri).2.2), .int fa, .int fq, .int bg, .long tm, .int ka, .long kb, .int va, .long vb])), (a1, .inl (c1_, 16384, .inl tp))]) [0, 1] rfl
      have hD9 := hD.sub (ws' := [(aM, .inr (7, [.int co, .ref a1, .int (nI ks), .int (nI dn), .ref a2, .ref a3, .ref a4, .ref a5, .ref a6, .int (nI ((mv tp ks xa ri).2.1)), .int ((mv tp ks xa ri).2.2), .int fa, .int fq, .int bg, .long tm, .int ka, .long kb, .int va, .long vb])), (a1, .inl (c1_, 16384, .inl tp))]) [0, 1] (by decide) rfl
      have hK9 := hK.sub (tys' := [(c1_, .int)]) [0] rfl
      exact W.lret (v := v165_0) hx hb hr (fun t ht hW => ⟨⟨v165_0, (), rfl, by rw [mv_W, ← hE, ev165_0]; rfl, by rw [ht]; exact hP9, va_K.moved hW.alike hK9, hD9⟩, hS.F ht⟩) hS.2.2 dc_M_readVarint_165
    · refine lv_if_ne (tgt := 160) hx hb dc_M_readVarint_152 (by decide) (fun c_4 => ?_) (fun c_4 => ?_)
      · have c_4 : ¬ ((z &&& 1) = 0) := fun h => c_4 ((lg_cmp_eq _ _).mpr h)
        refine lv_lload hx hb dc_M_readVarint_160 (lv_at hl 0 rfl) ?_
        refine lv_lneg hx hb dc_M_readVarint_162 ?_
        refine lv_lconst (v := 1) hx hb dc_M_readVarint_163 rfl ?_
        refine lv_lsub hx hb dc_M_readVarint_164 ?_
        exact hJ165 ((-((z.toUInt64 >>> ((1 : Int32).toInt64.toUInt64 &&& Int64.toUInt64 63)).toInt64)) - 1) _ _ _ ⟨by rw [if_neg c_4], hP.sub [0, 1] rfl, hD.sub [0, 1] (by decide) rfl, hS, lv_sub hl [0, 1, 2, 3, 4] rfl⟩
      · have c_4 : (z &&& 1) = 0 := (lg_cmp_eq _ _).mp c_4
        refine lv_lload hx hb dc_M_readVarint_155 (lv_at hl 0 rfl) ?_
        refine lv_goto (tgt := 165) hx hb dc_M_readVarint_157 (by decide) ?_
        exact hJ165 ((z.toUInt64 >>> ((1 : Int32).toInt64.toUInt64 &&& Int64.toUInt64 63)).toInt64) _ _ _ ⟨by rw [if_pos c_4], hP.sub [0, 1] rfl, hD.sub [0, 1] (by decide) rfl, hS, lv_sub hl [0, 1, 2, 3, 4] rfl⟩
  · have hmo := c_1
    refine lv_aload_n hx hb dc_M_readVarint_12 rfl (lv_at hl 3 rfl) ?_
    refine va_get (D := (dC, dI)) (ci := 7) (v := .int r2) (C := rn_M) (T := ft_M) (N := 19) hx hb hts fw_M hown hK hP 0 rfl rfl 10 (by decide) (hts _ bw3_169) (fun _ h9 => h9) rfl dc_M_readVarint_13 ?_
    refine lv_if_eq (tgt := 142) hx hb dc_M_readVarint_16 (by decide) (fun c_5 => ?_) (fun c_5 => ?_)
    · have hE := (rvW_exit (Or.inr c_5)).symm.trans hR
      refine lv_lload_n hx hb dc_M_readVarint_142 rfl (lv_at hl 2 rfl) ?_
      refine lv_iconst (v := 1) hx hb dc_M_readVarint_143 (by decide) ?_
      refine lv_lushr (v := (z.toUInt64 >>> ((1 : Int32).toInt64.toUInt64 &&& Int64.toUInt64 63)).toInt64) hx hb dc_M_readVarint_144 rfl ?_
      refine lv_lstore (lv' := [(5, .long ((z.toUInt64 >>> ((1 : Int32).toInt64.toUInt64 &&& Int64.toUInt64 63)).toInt64)), (4, .int mo), (3, .int (nI i)), (1, .long z), (0, .ref aM)]) hx hb dc_M_readVarint_145 hl (by decide) rfl (fun ls hl => ?_)
      refine lv_lload_n hx hb dc_M_readVarint_147 rfl (lv_at hl 3 rfl) ?_
      refine lv_lconst (v := 1) hx hb dc_M_readVarint_148 rfl ?_
      refine lv_land hx hb dc_M_readVarint_149 ?_
      refine lv_lconst (v := 0) hx hb dc_M_readVarint_150 rfl ?_
      refine W.lcmp hx hb dc_M_readVarint_151 ?_
      refine w_join (σ := Int64) (fun v165_0 H locs ls => v165_0 = (if (z &&& 1) = 0 then (z.toUInt64 >>> ((1 : Int32).toInt64.toUInt64 &&& Int64.toUInt64 63)).toInt64 else (-((z.toUInt64 >>> ((1 : Int32).toInt64.toUInt64 &&& Int64.toUInt64 63)).toInt64)) - 1) ∧ va_P (dC, dI) vwCl [(aM, .inr (7, [.int co, .ref a1, .int (nI ks), .int (nI dn), .ref a2, .ref a3, .ref a4, .ref a5, .ref a6, .int (nI a2_), .int r2, .int fa, .int fq, .int bg, .long tm, .int ka, .long kb, .int va, .long vb])), (a1, .inl (c1_, 16384, .inl tp))] H ∧ va_D A [(aM, .inr (7, [.int co, .ref a1, .int (nI ks), .int (nI dn), .ref a2, .ref a3, .ref a4, .ref a5, .ref a6, .int (nI a2_), .int r2, .int fa, .int fq, .int bg, .long tm, .int ka, .long kb, .int va, .long vb])), (a1, .inl (c1_, 16384, .inl tp))] ∧ va_S A s.heap H locs ∧ lv_has ls 7 [(5, .long ((z.toUInt64 >>> ((1 : Int32).toInt64.toUInt64 &&& Int64.toUInt64 63)).toInt64)), (4, .int mo), (3, .int (nI i)), (1, .long z), (0, .ref aM)]) (fun v165_0 ls => F0 m 165 ls [.long v165_0]) ?_ (fun hJ165 => ?_)
      · rintro v165_0 H locs ls ⟨ev165_0, hP, hD, hS, hl⟩
        have hP : va_P (dC, dI) vwCl [(aM, .inr (7, [.int co, .ref a1, .int (nI ks), .int (nI dn), .ref a2, .ref a3, .ref a4, .ref a5, .ref a6, .int (nI a2_), .int r2, .int fa, .int fq, .int bg, .long tm, .int ka, .long kb, .int va, .long vb])), (a1, .inl (c1_, 16384, .inl tp))] H := hP
        have hD : va_D A [(aM, .inr (7, [.int co, .ref a1, .int (nI ks), .int (nI dn), .ref a2, .ref a3, .ref a4, .ref a5, .ref a6, .int (nI a2_), .int r2, .int fa, .int fq, .int bg, .long tm, .int ka, .long kb, .int va, .long vb])), (a1, .inl (c1_, 16384, .inl tp))] := hD
        have hl : lv_has ls 7 [(5, .long ((z.toUInt64 >>> ((1 : Int32).toInt64.toUInt64 &&& Int64.toUInt64 63)).toInt64)), (4, .int mo), (3, .int (nI i)), (1, .long z), (0, .ref aM)] := hl
        show W _ _ _ _ _ _ _ _ _ _ _ _ _ _ _ (F0 m 165 ls [.long v165_0])
        have e_6 : (nI a2_) = (nI ((mv tp ks xa ri).2.1)) := by first | (rw [mv_W, ← hE]; done)
        have e_7 : r2 = ((mv tp ks xa ri).2.2) := by first | (rw [mv_W, ← hE]; done)
        have hP := wP_eq (ws' := [(aM, .inr (7, [.int co, .ref a1, .int (nI ks), .int (nI dn), .ref a2, .ref a3, .ref a4, .ref a5, .ref a6, .int (nI ((mv tp ks xa ri).2.1)), .int ((mv tp ks xa ri).2.2), .int fa, .int fq, .int bg, .long tm, .int ka, .long kb, .int va, .long vb])), (a1, .inl (c1_, 16384, .inl tp))]) hP (cg2 (fun y0 y1 => ([(aM, .inr (7, [.int co, .ref a1, .int (nI ks), .int (nI dn), .ref a2, .ref a3, .ref a4, .ref a5, .ref a6, .int y0, .int y1, .int fa, .int fq, .int bg, .long tm, .int ka, .long kb, .int va, .long vb])), (a1, .inl (c1_, 16384, .inl tp))] : va_W)) e_6 e_7)
        have hD := wD_eq (ws' := [(aM, .inr (7, [.int co, .ref a1, .int (nI ks), .int (nI dn), .ref a2, .ref a3, .ref a4, .ref a5, .ref a6, .int (nI ((mv tp ks xa ri).2.1)), .int ((mv tp ks xa ri).2.2), .int fa, .int fq, .int bg, .long tm, .int ka, .long kb, .int va, .long vb])), (a1, .inl (c1_, 16384, .inl tp))]) hD (cg2 (fun y0 y1 => ([(aM, .inr (7, [.int co, .ref a1, .int (nI ks), .int (nI dn), .ref a2, .ref a3, .ref a4, .ref a5, .ref a6, .int y0, .int y1, .int fa, .int fq, .int bg, .long tm, .int ka, .long kb, .int va, .long vb])), (a1, .inl (c1_, 16384, .inl tp))] : va_W)) e_6 e_7)
        have hP9 := hP.sub (ws' := [(aM, .inr (7, [.int co, .ref a1, .int (nI ks), .int (nI dn), .ref a2, .ref a3, .ref a4, .ref a5, .ref a6, .int (nI ((mv tp ks xa ri).2.1)), .int ((mv tp ks xa ri).2.2), .int fa, .int fq, .int bg, .long tm, .int ka, .long kb, .int va, .long vb])), (a1, .inl (c1_, 16384, .inl tp))]) [0, 1] rfl
        have hD9 := hD.sub (ws' := [(aM, .inr (7, [.int co, .ref a1, .int (nI ks), .int (nI dn), .ref a2, .ref a3, .ref a4, .ref a5, .ref a6, .int (nI ((mv tp ks xa ri).2.1)), .int ((mv tp ks xa ri).2.2), .int fa, .int fq, .int bg, .long tm, .int ka, .long kb, .int va, .long vb])), (a1, .inl (c1_, 16384, .inl tp))]) [0, 1] (by decide) rfl
        have hK9 := hK.sub (tys' := [(c1_, .int)]) [0] rfl
        exact W.lret (v := v165_0) hx hb hr (fun t ht hW => ⟨⟨v165_0, (), rfl, by rw [mv_W, ← hE, ev165_0]; rfl, by rw [ht]; exact hP9, va_K.moved hW.alike hK9, hD9⟩, hS.F ht⟩) hS.2.2 dc_M_readVarint_165
      · refine lv_if_ne (tgt := 160) hx hb dc_M_readVarint_152 (by decide) (fun c_8 => ?_) (fun c_8 => ?_)
        · have c_8 : ¬ ((z &&& 1) = 0) := fun h => c_8 ((lg_cmp_eq _ _).mpr h)
          refine lv_lload hx hb dc_M_readVarint_160 (lv_at hl 0 rfl) ?_
          refine lv_lneg hx hb dc_M_readVarint_162 ?_
          refine lv_lconst (v := 1) hx hb dc_M_readVarint_163 rfl ?_
          refine lv_lsub hx hb dc_M_readVarint_164 ?_
          exact hJ165 ((-((z.toUInt64 >>> ((1 : Int32).toInt64.toUInt64 &&& Int64.toUInt64 63)).toInt64)) - 1) _ _ _ ⟨by rw [if_neg c_8], hP.sub [0, 1] rfl, hD.sub [0, 1] (by decide) rfl, hS, lv_sub hl [0, 1, 2, 3, 4] rfl⟩
        · have c_8 : (z &&& 1) = 0 := (lg_cmp_eq _ _).mp c_8
          refine lv_lload hx hb dc_M_readVarint_155 (lv_at hl 0 rfl) ?_
          refine lv_goto (tgt := 165) hx hb dc_M_readVarint_157 (by decide) ?_
          exact hJ165 ((z.toUInt64 >>> ((1 : Int32).toInt64.toUInt64 &&& Int64.toUInt64 63)).toInt64) _ _ _ ⟨by rw [if_pos c_8], hP.sub [0, 1] rfl, hD.sub [0, 1] (by decide) rfl, hS, lv_sub hl [0, 1, 2, 3, 4] rfl⟩
    · have hr2 := c_5
      have h11 : fl + i = 11 := by rcases hfi with h | h | h; exact absurd h hmo; exact absurd h hr2; exact h
      have hfl : 0 < fl := by omega
      refine lv_aload_n hx hb dc_M_readVarint_19 rfl (lv_at hl 3 rfl) ?_
      refine lv_aload_n hx hb dc_M_readVarint_20 rfl (lv_at hl 3 rfl) ?_
      refine va_get (D := (dC, dI)) (ci := 7) (v := .int (nI a2_)) (C := rn_M) (T := ft_M) (N := 19) hx hb hts fw_M hown hK hP 0 rfl rfl 9 (by decide) (hts _ bw3_168) (fun _ h9 => h9) rfl dc_M_readVarint_21 ?_
      refine lv_aload_n hx hb dc_M_readVarint_24 rfl (lv_at hl 3 rfl) ?_
      refine va_get (D := (dC, dI)) (ci := 7) (v := .int (nI ks)) (C := rn_M) (T := ft_M) (N := 19) hx hb hts fw_M hown hK hP 0 rfl rfl 2 (by decide) (hts _ bw3_161) (fun _ h9 => h9) rfl dc_M_readVarint_25 ?_
      refine lv_icmp_ge (tgt := 41) hx hb dc_M_readVarint_28 (by decide) (fun c_9 => ?_) (fun c_9 => ?_)
      · have hno : ks ≤ a2_ ∨ 10 ≤ i := Or.inl ((nI_leI (by omega) (by omega)).mp c_9)
        refine lv_iconst (v := 0) hx hb dc_M_readVarint_41 (by decide) ?_
        refine va_put (D := (dC, dI)) (ci := 7) (v := .int 0) (ty := .boolean) (C := rn_M) (T := ft_M) (N := 19) hx hb hts fw_M fy_M fo_M fn_M hown hK hP hD hS 0 rfl rfl 10 (by decide) (hts _ bw3_169) (fun _ h9 => h9) rfl (by decide +kernel) rfl rfl (Nat.le_of_ble_eq_true rfl) dc_M_readVarint_42 (fun H locs hP hD hS => ?_)
        have hP : va_P (dC, dI) vwCl [(aM, .inr (7, [.int co, .ref a1, .int (nI ks), .int (nI dn), .ref a2, .ref a3, .ref a4, .ref a5, .ref a6, .int (nI a2_), .int 0, .int fa, .int fq, .int bg, .long tm, .int ka, .long kb, .int va, .long vb])), (a1, .inl (c1_, 16384, .inl tp))] H := hP
        have hD : va_D A [(aM, .inr (7, [.int co, .ref a1, .int (nI ks), .int (nI dn), .ref a2, .ref a3, .ref a4, .ref a5, .ref a6, .int (nI a2_), .int 0, .int fa, .int fq, .int bg, .long tm, .int ka, .long kb, .int va, .long vb])), (a1, .inl (c1_, 16384, .inl tp))] := hD
        refine lv_aload_n hx hb dc_M_readVarint_45 rfl (lv_at hl 3 rfl) ?_
        refine va_get (D := (dC, dI)) (ci := 7) (v := .int 0) (C := rn_M) (T := ft_M) (N := 19) hx hb hts fw_M hown hK hP 0 rfl rfl 10 (by decide) (hts _ bw3_169) (fun _ h9 => h9) rfl dc_M_readVarint_46 ?_
        refine lv_if_eq (tgt := 7) hx hb dc_M_readVarint_49 (by decide) (fun c_10 => ?_) (fun c_10 => ?_)
        · exact ih7 (fl - 1, i, z, a2_, mo, 0) _ _ _ ⟨by show i ≤ 10; omega, by show a2_ ≤ 20000; omega, by show mo = 0 ∨ 0 = 0 ∨ (fl - 1) + i = 11; first | exact Or.inr (Or.inl rfl) | (exact Or.inr (Or.inr (by omega))), by show rvW tp ks mo 0 (fl - 1) i z a2_ = rvW tp ks 1 ri 11 0 0 xa; first | (rw [← hR]; exact rvW_no hfl hmo hr2 hno) | (rw [← hR, rvW_step hfl hmo hr2 hlt hn10, ev85_0]), hP.sub [0, 1] rfl, hD.sub [0, 1] (by decide) rfl, hS, lv_sub hl [0, 1, 2, 3] rfl⟩ (by show fl - 1 < fl; omega)
        · exact absurd (by decide) c_10
      · have hlt : a2_ < ks := by rcases Nat.lt_or_ge a2_ ks with h | h; exact h; exact absurd (nI_le h (by omega)) c_9
        refine lv_iload_n hx hb dc_M_readVarint_31 rfl (lv_at hl 1 rfl) ?_
        refine lv_bipush (v := 10) hx hb dc_M_readVarint_32 (by decide) ?_
        refine lv_icmp_ge (tgt := 41) hx hb dc_M_readVarint_34 (by decide) (fun c_11 => ?_) (fun c_11 => ?_)
        · have hno : ks ≤ a2_ ∨ 10 ≤ i := Or.inr ((nI_leI (a := 10) (by omega) (by omega)).mp c_11)
          refine lv_iconst (v := 0) hx hb dc_M_readVarint_41 (by decide) ?_
          refine va_put (D := (dC, dI)) (ci := 7) (v := .int 0) (ty := .boolean) (C := rn_M) (T := ft_M) (N := 19) hx hb hts fw_M fy_M fo_M fn_M hown hK hP hD hS 0 rfl rfl 10 (by decide) (hts _ bw3_169) (fun _ h9 => h9) rfl (by decide +kernel) rfl rfl (Nat.le_of_ble_eq_true rfl) dc_M_readVarint_42 (fun H locs hP hD hS => ?_)
          have hP : va_P (dC, dI) vwCl [(aM, .inr (7, [.int co, .ref a1, .int (nI ks), .int (nI dn), .ref a2, .ref a3, .ref a4, .ref a5, .ref a6, .int (nI a2_), .int 0, .int fa, .int fq, .int bg, .long tm, .int ka, .long kb, .int va, .long vb])), (a1, .inl (c1_, 16384, .inl tp))] H := hP
          have hD : va_D A [(aM, .inr (7, [.int co, .ref a1, .int (nI ks), .int (nI dn), .ref a2, .ref a3, .ref a4, .ref a5, .ref a6, .int (nI a2_), .int 0, .int fa, .int fq, .int bg, .long tm, .int ka, .long kb, .int va, .long vb])), (a1, .inl (c1_, 16384, .inl tp))] := hD
          refine lv_aload_n hx hb dc_M_readVarint_45 rfl (lv_at hl 3 rfl) ?_
          refine va_get (D := (dC, dI)) (ci := 7) (v := .int 0) (C := rn_M) (T := ft_M) (N := 19) hx hb hts fw_M hown hK hP 0 rfl rfl 10 (by decide) (hts _ bw3_169) (fun _ h9 => h9) rfl dc_M_readVarint_46 ?_
          refine lv_if_eq (tgt := 7) hx hb dc_M_readVarint_49 (by decide) (fun c_12 => ?_) (fun c_12 => ?_)
          · exact ih7 (fl - 1, i, z, a2_, mo, 0) _ _ _ ⟨by show i ≤ 10; omega, by show a2_ ≤ 20000; omega, by show mo = 0 ∨ 0 = 0 ∨ (fl - 1) + i = 11; first | exact Or.inr (Or.inl rfl) | (exact Or.inr (Or.inr (by omega))), by show rvW tp ks mo 0 (fl - 1) i z a2_ = rvW tp ks 1 ri 11 0 0 xa; first | (rw [← hR]; exact rvW_no hfl hmo hr2 hno) | (rw [← hR, rvW_step hfl hmo hr2 hlt hn10, ev85_0]), hP.sub [0, 1] rfl, hD.sub [0, 1] (by decide) rfl, hS, lv_sub hl [0, 1, 2, 3] rfl⟩ (by show fl - 1 < fl; omega)
          · exact absurd (by decide) c_12
        · have hn10 : i < 10 := by rcases Nat.lt_or_ge i 10 with h | h; exact h; exact absurd (nI_le (a := 10) h (by omega)) c_11
          refine lv_iconst (v := 1) hx hb dc_M_readVarint_37 (by decide) ?_
          refine lv_goto (tgt := 42) hx hb dc_M_readVarint_38 (by decide) ?_
          refine va_put (D := (dC, dI)) (ci := 7) (v := .int 1) (ty := .boolean) (C := rn_M) (T := ft_M) (N := 19) hx hb hts fw_M fy_M fo_M fn_M hown hK hP hD hS 0 rfl rfl 10 (by decide) (hts _ bw3_169) (fun _ h9 => h9) rfl (by decide +kernel) rfl rfl (Nat.le_of_ble_eq_true rfl) dc_M_readVarint_42 (fun H locs hP hD hS => ?_)
          have hP : va_P (dC, dI) vwCl [(aM, .inr (7, [.int co, .ref a1, .int (nI ks), .int (nI dn), .ref a2, .ref a3, .ref a4, .ref a5, .ref a6, .int (nI a2_), .int 1, .int fa, .int fq, .int bg, .long tm, .int ka, .long kb, .int va, .long vb])), (a1, .inl (c1_, 16384, .inl tp))] H := hP
          have hD : va_D A [(aM, .inr (7, [.int co, .ref a1, .int (nI ks), .int (nI dn), .ref a2, .ref a3, .ref a4, .ref a5, .ref a6, .int (nI a2_), .int 1, .int fa, .int fq, .int bg, .long tm, .int ka, .long kb, .int va, .long vb])), (a1, .inl (c1_, 16384, .inl tp))] := hD
          refine lv_aload_n hx hb dc_M_readVarint_45 rfl (lv_at hl 3 rfl) ?_
          refine va_get (D := (dC, dI)) (ci := 7) (v := .int 1) (C := rn_M) (T := ft_M) (N := 19) hx hb hts fw_M hown hK hP 0 rfl rfl 10 (by decide) (hts _ bw3_169) (fun _ h9 => h9) rfl dc_M_readVarint_46 ?_
          refine lv_if_eq (tgt := 7) hx hb dc_M_readVarint_49 (by decide) (fun c_13 => ?_) (fun c_13 => ?_)
          · exact absurd c_13 (by decide)
          · refine lv_aload_n hx hb dc_M_readVarint_52 rfl (lv_at hl 3 rfl) ?_
            refine va_get (D := (dC, dI)) (ci := 7) (v := .ref a1) (C := rn_M) (T := ft_M) (N := 19) hx hb hts fw_M hown hK hP 0 rfl rfl 1 (by decide) (hts _ bw3_160) (fun _ h9 => h9) rfl dc_M_readVarint_53 ?_
            refine lv_aload_n hx hb dc_M_readVarint_56 rfl (lv_at hl 3 rfl) ?_
            refine va_get (D := (dC, dI)) (ci := 7) (v := .int (nI a2_)) (C := rn_M) (T := ft_M) (N := 19) hx hb hts fw_M hown hK hP 0 rfl rfl 9 (by decide) (hts _ bw3_168) (fun _ h9 => h9) rfl dc_M_readVarint_57 ?_
            refine va_iald hx hb hK hP 1 0 rfl rfl (vp_in_nI (by omega) (by omega)) dc_M_readVarint_60 ?_
            rw [show (nI a2_).toNatClampNeg = a2_ from nI_clamp (by omega)]
            refine lv_istore (lv' := [(5, .int (tp a2_)), (4, .int mo), (3, .int (nI i)), (1, .long z), (0, .ref aM)]) hx hb dc_M_readVarint_61 hl (by decide) rfl (fun ls hl => ?_)
            refine lv_aload_n hx hb dc_M_readVarint_63 rfl (lv_at hl 4 rfl) ?_
            refine lv_dup hx hb dc_M_readVarint_64 rfl ?_
            refine va_get (D := (dC, dI)) (ci := 7) (v := .int (nI a2_)) (C := rn_M) (T := ft_M) (N := 19) hx hb hts fw_M hown hK hP 0 rfl rfl 9 (by decide) (hts _ bw3_168) (fun _ h9 => h9) rfl dc_M_readVarint_65 ?_
            refine lv_iconst (v := 1) hx hb dc_M_readVarint_68 (by decide) ?_
            refine lv_iadd hx hb dc_M_readVarint_69 ?_
            refine va_put (D := (dC, dI)) (ci := 7) (v := .int ((nI a2_) + 1)) (ty := .int) (C := rn_M) (T := ft_M) (N := 19) hx hb hts fw_M fy_M fo_M fn_M hown hK hP hD hS 0 rfl rfl 9 (by decide) (hts _ bw3_168) (fun _ h9 => h9) rfl (by decide +kernel) rfl rfl (Nat.le_of_ble_eq_true rfl) dc_M_readVarint_70 (fun H locs hP hD hS => ?_)
            have hP : va_P (dC, dI) vwCl [(aM, .inr (7, [.int co, .ref a1, .int (nI ks), .int (nI dn), .ref a2, .ref a3, .ref a4, .ref a5, .ref a6, .int ((nI a2_) + 1), .int 1, .int fa, .int fq, .int bg, .long tm, .int ka, .long kb, .int va, .long vb])), (a1, .inl (c1_, 16384, .inl tp))] H := hP
            have hD : va_D A [(aM, .inr (7, [.int co, .ref a1, .int (nI ks), .int (nI dn), .ref a2, .ref a3, .ref a4, .ref a5, .ref a6, .int ((nI a2_) + 1), .int 1, .int fa, .int fq, .int bg, .long tm, .int ka, .long kb, .int va, .long vb])), (a1, .inl (c1_, 16384, .inl tp))] := hD
            refine lv_iload hx hb dc_M_readVarint_73 (lv_at hl 0 rfl) ?_
            refine lv_bipush (v := 127) hx hb dc_M_readVarint_75 (by decide) ?_
            refine w_join (σ := Int32) (fun v85_0 H locs ls => v85_0 = (if (tp a2_) ≤ 127 then 0 else 1) ∧ va_P (dC, dI) vwCl [(aM, .inr (7, [.int co, .ref a1, .int (nI ks), .int (nI dn), .ref a2, .ref a3, .ref a4, .ref a5, .ref a6, .int ((nI a2_) + 1), .int 1, .int fa, .int fq, .int bg, .long tm, .int ka, .long kb, .int va, .long vb])), (a1, .inl (c1_, 16384, .inl tp))] H ∧ va_D A [(aM, .inr (7, [.int co, .ref a1, .int (nI ks), .int (nI dn), .ref a2, .ref a3, .ref a4, .ref a5, .ref a6, .int ((nI a2_) + 1), .int 1, .int fa, .int fq, .int bg, .long tm, .int ka, .long kb, .int va, .long vb])), (a1, .inl (c1_, 16384, .inl tp))] ∧ va_S A s.heap H locs ∧ lv_has ls 7 [(5, .int (tp a2_)), (4, .int mo), (3, .int (nI i)), (1, .long z), (0, .ref aM)]) (fun v85_0 ls => F0 m 85 ls [.int v85_0]) ?_ (fun hJ85 => ?_)
            · rintro v85_0 H locs ls ⟨ev85_0, hP, hD, hS, hl⟩
              have hP : va_P (dC, dI) vwCl [(aM, .inr (7, [.int co, .ref a1, .int (nI ks), .int (nI dn), .ref a2, .ref a3, .ref a4, .ref a5, .ref a6, .int ((nI a2_) + 1), .int 1, .int fa, .int fq, .int bg, .long tm, .int ka, .long kb, .int va, .long vb])), (a1, .inl (c1_, 16384, .inl tp))] H := hP
              have hD : va_D A [(aM, .inr (7, [.int co, .ref a1, .int (nI ks), .int (nI dn), .ref a2, .ref a3, .ref a4, .ref a5, .ref a6, .int ((nI a2_) + 1), .int 1, .int fa, .int fq, .int bg, .long tm, .int ka, .long kb, .int va, .long vb])), (a1, .inl (c1_, 16384, .inl tp))] := hD
              have hl : lv_has ls 7 [(5, .int (tp a2_)), (4, .int mo), (3, .int (nI i)), (1, .long z), (0, .ref aM)] := hl
              show W _ _ _ _ _ _ _ _ _ _ _ _ _ _ _ (F0 m 85 ls [.int v85_0])
              have h01v85_0 : v85_0 = 0 ∨ v85_0 = 1 := by rw [ev85_0]; exact i01 (Or.inl rfl) (Or.inr rfl)
              refine lv_istore (lv' := [(4, .int v85_0), (5, .int (tp a2_)), (3, .int (nI i)), (1, .long z), (0, .ref aM)]) hx hb dc_M_readVarint_85 hl (by decide) rfl (fun ls hl => ?_)
              refine lv_aload_n hx hb dc_M_readVarint_87 rfl (lv_at hl 4 rfl) ?_
              refine lv_iload_n hx hb dc_M_readVarint_88 rfl (lv_at hl 2 rfl) ?_
              refine lv_bipush (v := 9) hx hb dc_M_readVarint_89 (by decide) ?_
              refine w_join (σ := Int32) (fun v119_0 H locs ls => v119_0 = (if (nI i) < 9 then if v85_0 = 0 then if 0 < (tp a2_) then 1 else if (nI i) = 0 then 1 else 0 else 1 else if 2 ≤ (tp a2_) then 0 else if v85_0 = 0 then if 0 < (tp a2_) then 1 else if (nI i) = 0 then 1 else 0 else 1) ∧ va_P (dC, dI) vwCl [(aM, .inr (7, [.int co, .ref a1, .int (nI ks), .int (nI dn), .ref a2, .ref a3, .ref a4, .ref a5, .ref a6, .int ((nI a2_) + 1), .int 1, .int fa, .int fq, .int bg, .long tm, .int ka, .long kb, .int va, .long vb])), (a1, .inl (c1_, 16384, .inl tp))] H ∧ va_D A [(aM, .inr (7, [.int co, .ref a1, .int (nI ks), .int (nI dn), .ref a2, .ref a3, .ref a4, .ref a5, .ref a6, .int ((nI a2_) + 1), .int 1, .int fa, .int fq, .int bg, .long tm, .int ka, .long kb, .int va, .long vb])), (a1, .inl (c1_, 16384, .inl tp))] ∧ va_S A s.heap H locs ∧ lv_has ls 7 [(4, .int v85_0), (5, .int (tp a2_)), (3, .int (nI i)), (1, .long z), (0, .ref aM)]) (fun v119_0 ls => F0 m 119 ls [.int v119_0, .ref aM]) ?_ (fun hJ119 => ?_)
              · rintro v119_0 H locs ls ⟨ev119_0, hP, hD, hS, hl⟩
                have hP : va_P (dC, dI) vwCl [(aM, .inr (7, [.int co, .ref a1, .int (nI ks), .int (nI dn), .ref a2, .ref a3, .ref a4, .ref a5, .ref a6, .int ((nI a2_) + 1), .int 1, .int fa, .int fq, .int bg, .long tm, .int ka, .long kb, .int va, .long vb])), (a1, .inl (c1_, 16384, .inl tp))] H := hP
                have hD : va_D A [(aM, .inr (7, [.int co, .ref a1, .int (nI ks), .int (nI dn), .ref a2, .ref a3, .ref a4, .ref a5, .ref a6, .int ((nI a2_) + 1), .int 1, .int fa, .int fq, .int bg, .long tm, .int ka, .long kb, .int va, .long vb])), (a1, .inl (c1_, 16384, .inl tp))] := hD
                have hl : lv_has ls 7 [(4, .int v85_0), (5, .int (tp a2_)), (3, .int (nI i)), (1, .long z), (0, .ref aM)] := hl
                show W _ _ _ _ _ _ _ _ _ _ _ _ _ _ _ (F0 m 119 ls [.int v119_0, .ref aM])
                have h01v119_0 : v119_0 = 0 ∨ v119_0 = 1 := by rw [ev119_0]; exact i01 (i01 (i01 (Or.inr rfl) (i01 (Or.inr rfl) (Or.inl rfl))) (Or.inr rfl)) (i01 (Or.inl rfl) (i01 (i01 (Or.inr rfl) (i01 (Or.inr rfl) (Or.inl rfl))) (Or.inr rfl)))
                refine va_put (D := (dC, dI)) (ci := 7) (v := .int v119_0) (ty := .boolean) (C := rn_M) (T := ft_M) (N := 19) hx hb hts fw_M fy_M fo_M fn_M hown hK hP hD hS 0 rfl rfl 10 (by decide) (hts _ bw3_169) (fun _ h9 => h9) rfl (by decide +kernel) (by rcases h01v119_0 with h | h <;> rw [h] <;> rfl) (by rcases h01v119_0 with h | h <;> rw [h] <;> rfl) (Nat.le_of_ble_eq_true rfl) dc_M_readVarint_119 (fun H locs hP hD hS => ?_)
                have hP : va_P (dC, dI) vwCl [(aM, .inr (7, [.int co, .ref a1, .int (nI ks), .int (nI dn), .ref a2, .ref a3, .ref a4, .ref a5, .ref a6, .int ((nI a2_) + 1), .int v119_0, .int fa, .int fq, .int bg, .long tm, .int ka, .long kb, .int va, .long vb])), (a1, .inl (c1_, 16384, .inl tp))] H := hP
                have hD : va_D A [(aM, .inr (7, [.int co, .ref a1, .int (nI ks), .int (nI dn), .ref a2, .ref a3, .ref a4, .ref a5, .ref a6, .int ((nI a2_) + 1), .int v119_0, .int fa, .int fq, .int bg, .long tm, .int ka, .long kb, .int va, .long vb])), (a1, .inl (c1_, 16384, .inl tp))] := hD
                have e_14 : v119_0 = (okM (nI i) (tp a2_)) := by rw [ev119_0, ev85_0]; exact okM_alt _ _
                have hP := wP_eq (ws' := [(aM, .inr (7, [.int co, .ref a1, .int (nI ks), .int (nI dn), .ref a2, .ref a3, .ref a4, .ref a5, .ref a6, .int ((nI a2_) + 1), .int (okM (nI i) (tp a2_)), .int fa, .int fq, .int bg, .long tm, .int ka, .long kb, .int va, .long vb])), (a1, .inl (c1_, 16384, .inl tp))]) hP (cg1 (fun y0 => ([(aM, .inr (7, [.int co, .ref a1, .int (nI ks), .int (nI dn), .ref a2, .ref a3, .ref a4, .ref a5, .ref a6, .int ((nI a2_) + 1), .int y0, .int fa, .int fq, .int bg, .long tm, .int ka, .long kb, .int va, .long vb])), (a1, .inl (c1_, 16384, .inl tp))] : va_W)) e_14)
                have hD := wD_eq (ws' := [(aM, .inr (7, [.int co, .ref a1, .int (nI ks), .int (nI dn), .ref a2, .ref a3, .ref a4, .ref a5, .ref a6, .int ((nI a2_) + 1), .int (okM (nI i) (tp a2_)), .int fa, .int fq, .int bg, .long tm, .int ka, .long kb, .int va, .long vb])), (a1, .inl (c1_, 16384, .inl tp))]) hD (cg1 (fun y0 => ([(aM, .inr (7, [.int co, .ref a1, .int (nI ks), .int (nI dn), .ref a2, .ref a3, .ref a4, .ref a5, .ref a6, .int ((nI a2_) + 1), .int y0, .int fa, .int fq, .int bg, .long tm, .int ka, .long kb, .int va, .long vb])), (a1, .inl (c1_, 16384, .inl tp))] : va_W)) e_14)
                refine lv_lload_n hx hb dc_M_readVarint_122 rfl (lv_at hl 3 rfl) ?_
                refine lv_iload hx hb dc_M_readVarint_123 (lv_at hl 1 rfl) ?_
                refine lv_bipush (v := 127) hx hb dc_M_readVarint_125 (by decide) ?_
                refine lv_iand hx hb dc_M_readVarint_127 ?_
                refine lv_i2l (v := ((tp a2_) &&& 127).toInt64) hx hb dc_M_readVarint_128 rfl ?_
                refine lv_bipush (v := 7) hx hb dc_M_readVarint_129 (by decide) ?_
                refine lv_iload_n hx hb dc_M_readVarint_131 rfl (lv_at hl 2 rfl) ?_
                refine lv_imul hx hb dc_M_readVarint_132 ?_
                refine lv_lshl (v := (((tp a2_) &&& 127).toInt64) <<< ((7 * (nI i) : Int32).toInt64 &&& 63)) hx hb dc_M_readVarint_133 rfl ?_
                refine lv_lor hx hb dc_M_readVarint_134 ?_
                refine lv_lstore_n (lv' := [(1, .long (z ||| ((((tp a2_) &&& 127).toInt64) <<< ((7 * (nI i) : Int32).toInt64 &&& 63)))), (4, .int v85_0), (5, .int (tp a2_)), (3, .int (nI i)), (0, .ref aM)]) hx hb dc_M_readVarint_135 rfl hl (by decide) rfl (fun ls hl => ?_)
                refine lv_iinc (v := ((nI i) + 1)) (lv' := [(3, .int ((nI i) + 1)), (1, .long (z ||| ((((tp a2_) &&& 127).toInt64) <<< ((7 * (nI i) : Int32).toInt64 &&& 63)))), (4, .int v85_0), (5, .int (tp a2_)), (0, .ref aM)]) hx hb dc_M_readVarint_136 hl (k := 3) rfl rfl (by decide) rfl (fun ls hl => ?_)
                refine lv_goto (tgt := 7) hx hb dc_M_readVarint_139 (by decide) ?_
                obtain ⟨w_15, hw_15⟩ : ∃ y, y = (z ||| ((((tp a2_) &&& 127).toInt64) <<< ((7 * (nI i) : Int32).toInt64 &&& 63))) := ⟨_, rfl⟩
                have e_16 : (z ||| ((((tp a2_) &&& 127).toInt64) <<< ((7 * (nI i) : Int32).toInt64 &&& 63))) = w_15 := by exact hw_15.symm
                have hl := wL_eq (lv' := [(3, .int ((nI i) + 1)), (1, .long w_15), (4, .int v85_0), (5, .int (tp a2_)), (0, .ref aM)]) hl (cg1 (fun y0 => ([(3, .int ((nI i) + 1)), (1, .long y0), (4, .int v85_0), (5, .int (tp a2_)), (0, .ref aM)] : List (Nat × Value))) e_16)
                have e_17 : ((nI a2_) + 1) = (nI (a2_ + 1)) := by exact nI_1 _
                have e_18 : ((nI i) + 1) = (nI (i + 1)) := by exact nI_1 _
                have hP := wP_eq (ws' := [(aM, .inr (7, [.int co, .ref a1, .int (nI ks), .int (nI dn), .ref a2, .ref a3, .ref a4, .ref a5, .ref a6, .int (nI (a2_ + 1)), .int (okM (nI i) (tp a2_)), .int fa, .int fq, .int bg, .long tm, .int ka, .long kb, .int va, .long vb])), (a1, .inl (c1_, 16384, .inl tp))]) hP (cg1 (fun y0 => ([(aM, .inr (7, [.int co, .ref a1, .int (nI ks), .int (nI dn), .ref a2, .ref a3, .ref a4, .ref a5, .ref a6, .int y0, .int (okM (nI i) (tp a2_)), .int fa, .int fq, .int bg, .long tm, .int ka, .long kb, .int va, .long vb])), (a1, .inl (c1_, 16384, .inl tp))] : va_W)) e_17)
                have hD := wD_eq (ws' := [(aM, .inr (7, [.int co, .ref a1, .int (nI ks), .int (nI dn), .ref a2, .ref a3, .ref a4, .ref a5, .ref a6, .int (nI (a2_ + 1)), .int (okM (nI i) (tp a2_)), .int fa, .int fq, .int bg, .long tm, .int ka, .long kb, .int va, .long vb])), (a1, .inl (c1_, 16384, .inl tp))]) hD (cg1 (fun y0 => ([(aM, .inr (7, [.int co, .ref a1, .int (nI ks), .int (nI dn), .ref a2, .ref a3, .ref a4, .ref a5, .ref a6, .int y0, .int (okM (nI i) (tp a2_)), .int fa, .int fq, .int bg, .long tm, .int ka, .long kb, .int va, .long vb])), (a1, .inl (c1_, 16384, .inl tp))] : va_W)) e_17)
                have hl := wL_eq (lv' := [(3, .int (nI (i + 1))), (1, .long w_15), (4, .int v85_0), (5, .int (tp a2_)), (0, .ref aM)]) hl (cg1 (fun y0 => ([(3, .int y0), (1, .long w_15), (4, .int v85_0), (5, .int (tp a2_)), (0, .ref aM)] : List (Nat × Value))) e_18)
                exact ih7 (fl - 1, i + 1, w_15, a2_ + 1, v85_0, okM (nI i) (tp a2_)) _ _ _ ⟨by show (i + 1) ≤ 10; omega, by show (a2_ + 1) ≤ 20000; omega, by show v85_0 = 0 ∨ (okM (nI i) (tp a2_)) = 0 ∨ (fl - 1) + (i + 1) = 11; (try simp only [hw_15]); first | exact Or.inr (Or.inl rfl) | (exact Or.inr (Or.inr (by omega))), by show rvW tp ks v85_0 (okM (nI i) (tp a2_)) (fl - 1) (i + 1) w_15 (a2_ + 1) = rvW tp ks 1 ri 11 0 0 xa; (try simp only [hw_15]); first | (rw [← hR]; exact rvW_no hfl hmo hr2 hno) | (rw [← hR, rvW_step hfl hmo hr2 hlt hn10, ev85_0]), hP.sub [0, 1] rfl, hD.sub [0, 1] (by decide) rfl, hS, lv_sub hl [2, 0, 1, 4] rfl⟩ (by show fl - 1 < fl; omega)
              · refine lv_icmp_lt (tgt := 100) hx hb dc_M_readVarint_91 (by decide) (fun c_19 => ?_) (fun c_19 => ?_)
                · refine lv_iload hx hb dc_M_readVarint_100 (lv_at hl 0 rfl) ?_
                  refine lv_if_ne (tgt := 114) hx hb dc_M_readVarint_102 (by decide) (fun c_20 => ?_) (fun c_20 => ?_)
                  · refine lv_iconst (v := 1) hx hb dc_M_readVarint_114 (by decide) ?_
                    refine lv_goto (tgt := 119) hx hb dc_M_readVarint_115 (by decide) ?_
                    exact hJ119 1 _ _ _ ⟨by rw [if_pos c_19, if_neg c_20], hP.sub [0, 1] rfl, hD.sub [0, 1] (by decide) rfl, hS, lv_sub hl [0, 1, 2, 3, 4] rfl⟩
                  · refine lv_iload hx hb dc_M_readVarint_105 (lv_at hl 1 rfl) ?_
                    refine lv_if_gt (tgt := 114) hx hb dc_M_readVarint_107 (by decide) (fun c_21 => ?_) (fun c_21 => ?_)
                    · refine lv_iconst (v := 1) hx hb dc_M_readVarint_114 (by decide) ?_
                      refine lv_goto (tgt := 119) hx hb dc_M_readVarint_115 (by decide) ?_
                      exact hJ119 1 _ _ _ ⟨by rw [if_pos c_19, if_pos c_20, if_pos c_21], hP.sub [0, 1] rfl, hD.sub [0, 1] (by decide) rfl, hS, lv_sub hl [0, 1, 2, 3, 4] rfl⟩
                    · refine lv_iload_n hx hb dc_M_readVarint_110 rfl (lv_at hl 2 rfl) ?_
                      refine lv_if_ne (tgt := 118) hx hb dc_M_readVarint_111 (by decide) (fun c_22 => ?_) (fun c_22 => ?_)
                      · refine lv_iconst (v := 0) hx hb dc_M_readVarint_118 (by decide) ?_
                        exact hJ119 0 _ _ _ ⟨by rw [if_pos c_19, if_pos c_20, if_neg c_21, if_neg c_22], hP.sub [0, 1] rfl, hD.sub [0, 1] (by decide) rfl, hS, lv_sub hl [0, 1, 2, 3, 4] rfl⟩
                      · refine lv_iconst (v := 1) hx hb dc_M_readVarint_114 (by decide) ?_
                        refine lv_goto (tgt := 119) hx hb dc_M_readVarint_115 (by decide) ?_
                        exact hJ119 1 _ _ _ ⟨by rw [if_pos c_19, if_pos c_20, if_neg c_21, if_pos c_22], hP.sub [0, 1] rfl, hD.sub [0, 1] (by decide) rfl, hS, lv_sub hl [0, 1, 2, 3, 4] rfl⟩
                · refine lv_iload hx hb dc_M_readVarint_94 (lv_at hl 1 rfl) ?_
                  refine lv_iconst (v := 2) hx hb dc_M_readVarint_96 (by decide) ?_
                  refine lv_icmp_ge (tgt := 118) hx hb dc_M_readVarint_97 (by decide) (fun c_23 => ?_) (fun c_23 => ?_)
                  · refine lv_iconst (v := 0) hx hb dc_M_readVarint_118 (by decide) ?_
                    exact hJ119 0 _ _ _ ⟨by rw [if_neg c_19, if_pos c_23], hP.sub [0, 1] rfl, hD.sub [0, 1] (by decide) rfl, hS, lv_sub hl [0, 1, 2, 3, 4] rfl⟩
                  · refine lv_iload hx hb dc_M_readVarint_100 (lv_at hl 0 rfl) ?_
                    refine lv_if_ne (tgt := 114) hx hb dc_M_readVarint_102 (by decide) (fun c_24 => ?_) (fun c_24 => ?_)
                    · refine lv_iconst (v := 1) hx hb dc_M_readVarint_114 (by decide) ?_
                      refine lv_goto (tgt := 119) hx hb dc_M_readVarint_115 (by decide) ?_
                      exact hJ119 1 _ _ _ ⟨by rw [if_neg c_19, if_neg c_23, if_neg c_24], hP.sub [0, 1] rfl, hD.sub [0, 1] (by decide) rfl, hS, lv_sub hl [0, 1, 2, 3, 4] rfl⟩
                    · refine lv_iload hx hb dc_M_readVarint_105 (lv_at hl 1 rfl) ?_
                      refine lv_if_gt (tgt := 114) hx hb dc_M_readVarint_107 (by decide) (fun c_25 => ?_) (fun c_25 => ?_)
                      · refine lv_iconst (v := 1) hx hb dc_M_readVarint_114 (by decide) ?_
                        refine lv_goto (tgt := 119) hx hb dc_M_readVarint_115 (by decide) ?_
                        exact hJ119 1 _ _ _ ⟨by rw [if_neg c_19, if_neg c_23, if_pos c_24, if_pos c_25], hP.sub [0, 1] rfl, hD.sub [0, 1] (by decide) rfl, hS, lv_sub hl [0, 1, 2, 3, 4] rfl⟩
                      · refine lv_iload_n hx hb dc_M_readVarint_110 rfl (lv_at hl 2 rfl) ?_
                        refine lv_if_ne (tgt := 118) hx hb dc_M_readVarint_111 (by decide) (fun c_26 => ?_) (fun c_26 => ?_)
                        · refine lv_iconst (v := 0) hx hb dc_M_readVarint_118 (by decide) ?_
                          exact hJ119 0 _ _ _ ⟨by rw [if_neg c_19, if_neg c_23, if_pos c_24, if_neg c_25, if_neg c_26], hP.sub [0, 1] rfl, hD.sub [0, 1] (by decide) rfl, hS, lv_sub hl [0, 1, 2, 3, 4] rfl⟩
                        · refine lv_iconst (v := 1) hx hb dc_M_readVarint_114 (by decide) ?_
                          refine lv_goto (tgt := 119) hx hb dc_M_readVarint_115 (by decide) ?_
                          exact hJ119 1 _ _ _ ⟨by rw [if_neg c_19, if_neg c_23, if_pos c_24, if_neg c_25, if_pos c_26], hP.sub [0, 1] rfl, hD.sub [0, 1] (by decide) rfl, hS, lv_sub hl [0, 1, 2, 3, 4] rfl⟩
            · refine lv_icmp_le (tgt := 84) hx hb dc_M_readVarint_77 (by decide) (fun c_27 => ?_) (fun c_27 => ?_)
              · refine lv_iconst (v := 0) hx hb dc_M_readVarint_84 (by decide) ?_
                exact hJ85 0 _ _ _ ⟨by rw [if_pos c_27], hP.sub [0, 1] rfl, hD.sub [0, 1] (by decide) rfl, hS, lv_sub hl [0, 1, 2, 3, 4] rfl⟩
              · refine lv_iconst (v := 1) hx hb dc_M_readVarint_80 (by decide) ?_
                refine lv_goto (tgt := 85) hx hb dc_M_readVarint_81 (by decide) ?_
                exact hJ85 1 _ _ _ ⟨by rw [if_neg c_27], hP.sub [0, 1] rfl, hD.sub [0, 1] (by decide) rfl, hS, lv_sub hl [0, 1, 2, 3, 4] rfl⟩
