set_option maxHeartbeats 1000000 in
set_option maxRecDepth 100000 in
theorem c_M_readBytes (l : Launch) (dC : Nat → ClassId) (dI : Nat → Nat → Nat) (sz : Nat) (aM : Nat) (co : Int32) (a1 : Nat) (ks : Nat) (dn : Nat) (a2 : Nat) (a3 : Nat) (a4 : Nat) (a5 : Nat) (a6 : Nat) (xa : Nat) (ri : Int32) (fa : Int32) (fq : Int32) (bg : Int32) (tm : Int64) (ka : Int32) (kb : Int64) (va : Int32) (vb : Int64) (c1_ : ClassId) (tp : Nat → Int32) (hk : ks ≤ 16384) (hxa : xa ≤ 20000) : Met l my_M_readBytes (wB my_M_readBytes cd_M_readBytes 3 (some .long)) ({ frames := 1, cells := 0, slots := 0, locals := 26 }) (va_Pc [.ref aM] (PcW (dC, dI) [(aM, .inr (7, [.int co, .ref a1, .int (nI ks), .int (nI dn), .ref a2, .ref a3, .ref a4, .ref a5, .ref a6, .int (nI xa), .int ri, .int fa, .int fq, .int bg, .long tm, .int ka, .long kb, .int va, .long vb])), (a1, .inl (c1_, 16384, .inl tp))] [(c1_, .int)] sz)) (va_Ql (fun (r : Int64) => fun (_ : Unit) => r = (mv tp ks xa ri).1) (fun _ => EnW (dC, dI) (va_A [(aM, .inr (7, [.int co, .ref a1, .int (nI ks), .int (nI dn), .ref a2, .ref a3, .ref a4, .ref a5, .ref a6, .int (nI xa), .int ri, .int fa, .int fq, .int bg, .long tm, .int ka, .long kb, .int va, .long vb])), (a1, .inl (c1_, 16384, .inl tp))] sz) [(aM, .inr (7, [.int co, .ref a1, .int (nI ks), .int (nI dn), .ref a2, .ref a3, .ref a4, .ref a5, .ref a6, .int (nI (m4a tp ks xa ri)), .int (m4s tp ks xa ri), .int fa, .int fq, .int bg, .long tm, .int ka, .long kb, .int va, .long vb])), (a1, .inl (c1_, 16384, .inl tp))] [(c1_, .int)]) (va_A [(aM, .inr (7, [.int co, .ref a1, .int (nI ks), .int (nI dn), .ref a2, .ref a3, .ref a4, .ref a5, .ref a6, .int (nI xa), .int ri, .int fa, .int fq, .int bg, .long tm, .int ka, .long kb, .int va, .long vb])), (a1, .inl (c1_, 16384, .inl tp))] sz)) 0 0 (va_A [(aM, .inr (7, [.int co, .ref a1, .int (nI ks), .int (nI dn), .ref a2, .ref a3, .ref a4, .ref a5, .ref a6, .int (nI xa), .int ri, .int fa, .int fq, .int bg, .long tm, .int ka, .long kb, .int va, .long vb])), (a1, .inl (c1_, 16384, .inl tp))] sz) := by
  refine Met.ofW (cc := cd_M_readBytes) (maxL := 3) (ret := (some .long)) (by decide) rfl ?_
  intro p e s m args below meth c s₁ B hml hv
  obtain ⟨rfl, hsz, hP, hK, hD0, hG⟩ := hv
  have hx := B.exec
  have hb := B.bytes
  have hr := B.returns
  have hts := fun (w : Cond) (h : w ∈ bigT) => atoms_spec (ws := (wB my_M_readBytes cd_M_readBytes 3 (some .long))) B.pre w (List.mem_cons_of_mem _ h)
  have hown : s.vm.findClass rn_M = some m.cls := findClass_of_methodNamed B.named
  have hlocks := B.notSynchronized
  subst hsz
  have hD := hD0.self (sz := s.heap.size)
  generalize hAe : va_A [(aM, .inr (7, [.int co, .ref a1, .int (nI ks), .int (nI dn), .ref a2, .ref a3, .ref a4, .ref a5, .ref a6, .int (nI xa), .int ri, .int fa, .int fq, .int bg, .long tm, .int ka, .long kb, .int va, .long vb])), (a1, .inl (c1_, 16384, .inl tp))] s.heap.size = A at hD hG ⊢
  have hA : ∀ q : Nat, s.heap.size ≤ q → A q := fun q h => by rw [← hAe]; exact Or.inr h
  have hS : va_S A s.heap s.heap [] := va_S.rf
  have hP : va_P (dC, dI) vwCl [(aM, .inr (7, [.int co, .ref a1, .int (nI ks), .int (nI dn), .ref a2, .ref a3, .ref a4, .ref a5, .ref a6, .int (nI xa), .int ri, .int fa, .int fq, .int bg, .long tm, .int ka, .long kb, .int va, .long vb])), (a1, .inl (c1_, 16384, .inl tp))] s.heap := hP
  have hl := lv_entry ([.ref aM]) (n := 3) (Nat.le_of_ble_eq_true rfl)
  rw [lg_entry_eq]
  generalize (lg_sl ([.ref aM]) ++ List.replicate (3 - (lg_sl ([.ref aM])).length) Slot.unset).toArray = ls at hl ⊢
  have hl : lv_has ls 3 [(0, .ref aM)] := hl
  refine lv_aload_n hx hb dc_M_readBytes_0 rfl (lv_at hl 0 rfl) ?_
  refine kc_l (wc := [(aM, .inr (7, [.int co, .ref a1, .int (nI ks), .int (nI dn), .ref a2, .ref a3, .ref a4, .ref a5, .ref a6, .int (nI xa), .int ri, .int fa, .int fq, .int bg, .long tm, .int ka, .long kb, .int va, .long vb])), (a1, .inl (c1_, 16384, .inl tp))]) (wr := []) hP hD hS hA [0, 1] [] rfl rfl (by decide) (by decide) (va_runV (As := []) (rest := []) ⟨hx, hb, hml, hown, hts⟩ (c_M_readVarint l dC dI _ aM co a1 ks dn a2 a3 a4 a5 a6 xa ri fa fq bg tm ka kb va vb c1_ tp (by omega) (by omega)) (kw_V 0 hts bw4_94 bw4_96 bws_26 bw1_9 bw4_97 rfl rfl (by decide +kernel) ⟨Nat.le_of_ble_eq_true rfl, Nat.le_of_ble_eq_true rfl⟩) (kp_V (wc := [(aM, .inr (7, [.int co, .ref a1, .int (nI ks), .int (nI dn), .ref a2, .ref a3, .ref a4, .ref a5, .ref a6, .int (nI xa), .int ri, .int fa, .int fq, .int bg, .long tm, .int ka, .long kb, .int va, .long vb])), (a1, .inl (c1_, 16384, .inl tp))]) (tc := [(c1_, .int)]) (As := []) hG hS hA hP hD hK [0, 1] rfl (by decide) rfl [0] rfl (ci := 7) (q0 := 0) rfl rfl) rfl rfl hl.1 rfl (lv_room (Nat.le_of_ble_eq_true rfl)) dc_M_readBytes_1 ⟨Nat.zero_le _, Nat.zero_le _⟩) (fun r_1 _ H locs hw hP hD hK1 hS => ?_)
  subst hw
  have hP : va_P (dC, dI) vwCl [(aM, .inr (7, [.int co, .ref a1, .int (nI ks), .int (nI dn), .ref a2, .ref a3, .ref a4, .ref a5, .ref a6, .int (nI ((mv tp ks xa ri).2.1)), .int ((mv tp ks xa ri).2.2), .int fa, .int fq, .int bg, .long tm, .int ka, .long kb, .int va, .long vb])), (a1, .inl (c1_, 16384, .inl tp))] H := hP
  have hD : va_D A [(aM, .inr (7, [.int co, .ref a1, .int (nI ks), .int (nI dn), .ref a2, .ref a3, .ref a4, .ref a5, .ref a6, .int (nI ((mv tp ks xa ri).2.1)), .int ((mv tp ks xa ri).2.2), .int fa, .int fq, .int bg, .long tm, .int ka, .long kb, .int va, .long vb])), (a1, .inl (c1_, 16384, .inl tp))] := hD
  refine lv_lstore_n (lv' := [(1, .long ((mv tp ks xa ri).1)), (0, .ref aM)]) hx hb dc_M_readBytes_4 rfl hl (by decide) rfl (fun ls hl => ?_)
  refine lv_aload_n hx hb dc_M_readBytes_5 rfl (lv_at hl 1 rfl) ?_
  refine lv_aload_n hx hb dc_M_readBytes_6 rfl (lv_at hl 1 rfl) ?_
  refine va_get (D := (dC, dI)) (ci := 7) (v := .int ((mv tp ks xa ri).2.2)) (C := rn_M) (T := ft_M) (N := 19) hx hb hts fw_M hown hK hP 0 rfl rfl 10 (by decide) (hts _ bw3_169) (fun _ h9 => h9) rfl dc_M_readBytes_7 ?_
  refine w_join (σ := Int32) (fun v41_0 H locs ls => v41_0 = (if ((mv tp ks xa ri).2.2) = 0 then 0 else if ((mv tp ks xa ri).1) < (-1) then 0 else if (((nI ks) - (nI ((mv tp ks xa ri).2.1))).toInt64) < ((mv tp ks xa ri).1) then 0 else 1) ∧ va_P (dC, dI) vwCl [(aM, .inr (7, [.int co, .ref a1, .int (nI ks), .int (nI dn), .ref a2, .ref a3, .ref a4, .ref a5, .ref a6, .int (nI ((mv tp ks xa ri).2.1)), .int ((mv tp ks xa ri).2.2), .int fa, .int fq, .int bg, .long tm, .int ka, .long kb, .int va, .long vb])), (a1, .inl (c1_, 16384, .inl tp))] H ∧ va_D A [(aM, .inr (7, [.int co, .ref a1, .int (nI ks), .int (nI dn), .ref a2, .ref a3, .ref a4, .ref a5, .ref a6, .int (nI ((mv tp ks xa ri).2.1)), .int ((mv tp ks xa ri).2.2), .int fa, .int fq, .int bg, .long tm, .int ka, .long kb, .int va, .long vb])), (a1, .inl (c1_, 16384, .inl tp))] ∧ va_S A s.heap H locs ∧ lv_has ls 3 [(1, .long ((mv tp ks xa ri).1)), (0, .ref aM)]) (fun v41_0 ls => F0 m 41 ls [.int v41_0, .ref aM]) ?_ (fun hJ41 => ?_)
  · rintro v41_0 H locs ls ⟨ev41_0, hP, hD, hS, hl⟩
    have hP : va_P (dC, dI) vwCl [(aM, .inr (7, [.int co, .ref a1, .int (nI ks), .int (nI dn), .ref a2, .ref a3, .ref a4, .ref a5, .ref a6, .int (nI ((mv tp ks xa ri).2.1)), .int ((mv tp ks xa ri).2.2), .int fa, .int fq, .int bg, .long tm, .int ka, .long kb, .int va, .long vb])), (a1, .inl (c1_, 16384, .inl tp))] H := hP
    have hD : va_D A [(aM, .inr (7, [.int co, .ref a1, .int (nI ks), .int (nI dn), .ref a2, .ref a3, .ref a4, .ref a5, .ref a6, .int (nI ((mv tp ks xa ri).2.1)), .int ((mv tp ks xa ri).2.2), .int fa, .int fq, .int bg, .long tm, .int ka, .long kb, .int va, .long vb])), (a1, .inl (c1_, 16384, .inl tp))] := hD
    have hl : lv_has ls 3 [(1, .long ((mv tp ks xa ri).1)), (0, .ref aM)] := hl
    show W _ _ _ _ _ _ _ _ _ _ _ _ _ _ _ (F0 m 41 ls [.int v41_0, .ref aM])
    have h01v41_0 : v41_0 = 0 ∨ v41_0 = 1 := by rw [ev41_0]; exact i01 (Or.inl rfl) (i01 (Or.inl rfl) (i01 (Or.inl rfl) (Or.inr rfl)))
    refine va_put (D := (dC, dI)) (ci := 7) (v := .int v41_0) (ty := .boolean) (C := rn_M) (T := ft_M) (N := 19) hx hb hts fw_M fy_M fo_M fn_M hown hK hP hD hS 0 rfl rfl 10 (by decide) (hts _ bw3_169) (fun _ h9 => h9) rfl (by decide +kernel) (by rcases h01v41_0 with h | h <;> rw [h] <;> rfl) (by rcases h01v41_0 with h | h <;> rw [h] <;> rfl) (Nat.le_of_ble_eq_true rfl) dc_M_readBytes_41 (fun H locs hP hD hS => ?_)
    have hP : va_P (dC, dI) vwCl [(aM, .inr (7, [.int co, .ref a1, .int (nI ks), .int (nI dn), .ref a2, .ref a3, .ref a4, .ref a5, .ref a6, .int (nI ((mv tp ks xa ri).2.1)), .int v41_0, .int fa, .int fq, .int bg, .long tm, .int ka, .long kb, .int va, .long vb])), (a1, .inl (c1_, 16384, .inl tp))] H := hP
    have hD : va_D A [(aM, .inr (7, [.int co, .ref a1, .int (nI ks), .int (nI dn), .ref a2, .ref a3, .ref a4, .ref a5, .ref a6, .int (nI ((mv tp ks xa ri).2.1)), .int v41_0, .int fa, .int fq, .int bg, .long tm, .int ka, .long kb, .int va, .long vb])), (a1, .inl (c1_, 16384, .inl tp))] := hD
    have e_2 : v41_0 = (m4s tp ks xa ri) := by unfold m4s; rw [ev41_0]
    have hP := wP_eq (ws' := [(aM, .inr (7, [.int co, .ref a1, .int (nI ks), .int (nI dn), .ref a2, .ref a3, .ref a4, .ref a5, .ref a6, .int (nI ((mv tp ks xa ri).2.1)), .int (m4s tp ks xa ri), .int fa, .int fq, .int bg, .long tm, .int ka, .long kb, .int va, .long vb])), (a1, .inl (c1_, 16384, .inl tp))]) hP (cg1 (fun y0 => ([(aM, .inr (7, [.int co, .ref a1, .int (nI ks), .int (nI dn), .ref a2, .ref a3, .ref a4, .ref a5, .ref a6, .int (nI ((mv tp ks xa ri).2.1)), .int y0, .int fa, .int fq, .int bg, .long tm, .int ka, .long kb, .int va, .long vb])), (a1, .inl (c1_, 16384, .inl tp))] : va_W)) e_2)
    have hD := wD_eq (ws' := [(aM, .inr (7, [.int co, .ref a1, .int (nI ks), .int (nI dn), .ref a2, .ref a3, .ref a4, .ref a5, .ref a6, .int (nI ((mv tp ks xa ri).2.1)), .int (m4s tp ks xa ri), .int fa, .int fq, .int bg, .long tm, .int ka, .long kb, .int va, .long vb])), (a1, .inl (c1_, 16384, .inl tp))]) hD (cg1 (fun y0 => ([(aM, .inr (7, [.int co, .ref a1, .int (nI ks), .int (nI dn), .ref a2, .ref a3, .ref a4, .ref a5, .ref a6, .int (nI ((mv tp ks xa ri).2.1)), .int y0, .int fa, .int fq, .int bg, .long tm, .int ka, .long kb, .int va, .long vb])), (a1, .inl (c1_, 16384, .inl tp))] : va_W)) e_2)
    refine lv_aload_n hx hb dc_M_readBytes_44 rfl (lv_at hl 1 rfl) ?_
    refine lv_dup hx hb dc_M_readBytes_45 rfl ?_
    refine va_get (D := (dC, dI)) (ci := 7) (v := .int (nI ((mv tp ks xa ri).2.1))) (C := rn_M) (T := ft_M) (N := 19) hx hb hts fw_M hown hK hP 0 rfl rfl 9 (by decide) (hts _ bw3_168) (fun _ h9 => h9) rfl dc_M_readBytes_46 ?_
    refine lv_aload_n hx hb dc_M_readBytes_49 rfl (lv_at hl 1 rfl) ?_
    refine va_get (D := (dC, dI)) (ci := 7) (v := .int (m4s tp ks xa ri)) (C := rn_M) (T := ft_M) (N := 19) hx hb hts fw_M hown hK hP 0 rfl rfl 10 (by decide) (hts _ bw3_169) (fun _ h9 => h9) rfl dc_M_readBytes_50 ?_
    refine w_join (σ := Int32) (fun v68_0 H locs ls => v68_0 = (if (m4s tp ks xa ri) = 0 then 0 else if ((mv tp ks xa ri).1) ≤ 0 then 0 else ((mv tp ks xa ri).1).toInt32) ∧ va_P (dC, dI) vwCl [(aM, .inr (7, [.int co, .ref a1, .int (nI ks), .int (nI dn), .ref a2, .ref a3, .ref a4, .ref a5, .ref a6, .int (nI ((mv tp ks xa ri).2.1)), .int (m4s tp ks xa ri), .int fa, .int fq, .int bg, .long tm, .int ka, .long kb, .int va, .long vb])), (a1, .inl (c1_, 16384, .inl tp))] H ∧ va_D A [(aM, .inr (7, [.int co, .ref a1, .int (nI ks), .int (nI dn), .ref a2, .ref a3, .ref a4, .ref a5, .ref a6, .int (nI ((mv tp ks xa ri).2.1)), .int (m4s tp ks xa ri), .int fa, .int fq, .int bg, .long tm, .int ka, .long kb, .int va, .long vb])), (a1, .inl (c1_, 16384, .inl tp))] ∧ va_S A s.heap H locs ∧ lv_has ls 3 [(1, .long ((mv tp ks xa ri).1)), (0, .ref aM)]) (fun v68_0 ls => F0 m 68 ls [.int v68_0, .int (nI ((mv tp ks xa ri).2.1)), .ref aM]) ?_ (fun hJ68 => ?_)
    · rintro v68_0 H locs ls ⟨ev68_0, hP, hD, hS, hl⟩
      have hP : va_P (dC, dI) vwCl [(aM, .inr (7, [.int co, .ref a1, .int (nI ks), .int (nI dn), .ref a2, .ref a3, .ref a4, .ref a5, .ref a6, .int (nI ((mv tp ks xa ri).2.1)), .int (m4s tp ks xa ri), .int fa, .int fq, .int bg, .long tm, .int ka, .long kb, .int va, .long vb])), (a1, .inl (c1_, 16384, .inl tp))] H := hP
      have hD : va_D A [(aM, .inr (7, [.int co, .ref a1, .int (nI ks), .int (nI dn), .ref a2, .ref a3, .ref a4, .ref a5, .ref a6, .int (nI ((mv tp ks xa ri).2.1)), .int (m4s tp ks xa ri), .int fa, .int fq, .int bg, .long tm, .int ka, .long kb, .int va, .long vb])), (a1, .inl (c1_, 16384, .inl tp))] := hD
      have hl : lv_has ls 3 [(1, .long ((mv tp ks xa ri).1)), (0, .ref aM)] := hl
      show W _ _ _ _ _ _ _ _ _ _ _ _ _ _ _ (F0 m 68 ls [.int v68_0, .int (nI ((mv tp ks xa ri).2.1)), .ref aM])
      refine lv_iadd hx hb dc_M_readBytes_68 ?_
      refine va_put (D := (dC, dI)) (ci := 7) (v := .int ((nI ((mv tp ks xa ri).2.1)) + v68_0)) (ty := .int) (C := rn_M) (T := ft_M) (N := 19) hx hb hts fw_M fy_M fo_M fn_M hown hK hP hD hS 0 rfl rfl 9 (by decide) (hts _ bw3_168) (fun _ h9 => h9) rfl (by decide +kernel) rfl rfl (Nat.le_of_ble_eq_true rfl) dc_M_readBytes_69 (fun H locs hP hD hS => ?_)
      have hP : va_P (dC, dI) vwCl [(aM, .inr (7, [.int co, .ref a1, .int (nI ks), .int (nI dn), .ref a2, .ref a3, .ref a4, .ref a5, .ref a6, .int ((nI ((mv tp ks xa ri).2.1)) + v68_0), .int (m4s tp ks xa ri), .int fa, .int fq, .int bg, .long tm, .int ka, .long kb, .int va, .long vb])), (a1, .inl (c1_, 16384, .inl tp))] H := hP
      have hD : va_D A [(aM, .inr (7, [.int co, .ref a1, .int (nI ks), .int (nI dn), .ref a2, .ref a3, .ref a4, .ref a5, .ref a6, .int ((nI ((mv tp ks xa ri).2.1)) + v68_0), .int (m4s tp ks xa ri), .int fa, .int fq, .int bg, .long tm, .int ka, .long kb, .int va, .long vb])), (a1, .inl (c1_, 16384, .inl tp))] := hD
      have e_3 : ((nI ((mv tp ks xa ri).2.1)) + v68_0) = (nI (m4a tp ks xa ri)) := by rw [ev68_0]; exact m4a_eq (by omega) (by omega)
      have hP := wP_eq (ws' := [(aM, .inr (7, [.int co, .ref a1, .int (nI ks), .int (nI dn), .ref a2, .ref a3, .ref a4, .ref a5, .ref a6, .int (nI (m4a tp ks xa ri)), .int (m4s tp ks xa ri), .int fa, .int fq, .int bg, .long tm, .int ka, .long kb, .int va, .long vb])), (a1, .inl (c1_, 16384, .inl tp))]) hP (cg1 (fun y0 => ([(aM, .inr (7, [.int co, .ref a1, .int (nI ks), .int (nI dn), .ref a2, .ref a3, .ref a4, .ref a5, .ref a6, .int y0, .int (m4s tp ks xa ri), .int fa, .int fq, .int bg, .long tm, .int ka, .long kb, .int va, .long vb])), (a1, .inl (c1_, 16384, .inl tp))] : va_W)) e_3)
      have hD := wD_eq (ws' := [(aM, .inr (7, [.int co, .ref a1, .int (nI ks), .int (nI dn), .ref a2, .ref a3, .ref a4, .ref a5, .ref a6, .int (nI (m4a tp ks xa ri)), .int (m4s tp ks xa ri), .int fa, .int fq, .int bg, .long tm, .int ka, .long kb, .int va, .long vb])), (a1, .inl (c1_, 16384, .inl tp))]) hD (cg1 (fun y0 => ([(aM, .inr (7, [.int co, .ref a1, .int (nI ks), .int (nI dn), .ref a2, .ref a3, .ref a4, .ref a5, .ref a6, .int y0, .int (m4s tp ks xa ri), .int fa, .int fq, .int bg, .long tm, .int ka, .long kb, .int va, .long vb])), (a1, .inl (c1_, 16384, .inl tp))] : va_W)) e_3)
      refine lv_lload_n hx hb dc_M_readBytes_72 rfl (lv_at hl 0 rfl) ?_
      have hP9 := hP.sub (ws' := [(aM, .inr (7, [.int co, .ref a1, .int (nI ks), .int (nI dn), .ref a2, .ref a3, .ref a4, .ref a5, .ref a6, .int (nI (m4a tp ks xa ri)), .int (m4s tp ks xa ri), .int fa, .int fq, .int bg, .long tm, .int ka, .long kb, .int va, .long vb])), (a1, .inl (c1_, 16384, .inl tp))]) [0, 1] rfl
      have hD9 := hD.sub (ws' := [(aM, .inr (7, [.int co, .ref a1, .int (nI ks), .int (nI dn), .ref a2, .ref a3, .ref a4, .ref a5, .ref a6, .int (nI (m4a tp ks xa ri)), .int (m4s tp ks xa ri), .int fa, .int fq, .int bg, .long tm, .int ka, .long kb, .int va, .long vb])), (a1, .inl (c1_, 16384, .inl tp))]) [0, 1] (by decide) rfl
      have hK9 := hK.sub (tys' := [(c1_, .int)]) [0] rfl
      exact W.lret (v := ((mv tp ks xa ri).1)) hx hb hr (fun t ht hW => ⟨⟨((mv tp ks xa ri).1), (), rfl, rfl, by rw [ht]; exact hP9, va_K.moved hW.alike hK9, hD9⟩, hS.F ht⟩) hS.2.2 dc_M_readBytes_73
    · refine lv_if_eq (tgt := 67) hx hb dc_M_readBytes_53 (by decide) (fun c_4 => ?_) (fun c_4 => ?_)
      · refine lv_iconst (v := 0) hx hb dc_M_readBytes_67 (by decide) ?_
        exact hJ68 0 _ _ _ ⟨by rw [if_pos c_4], hP.sub [0, 1] rfl, hD.sub [0, 1] (by decide) rfl, hS, lv_sub hl [0, 1] rfl⟩
      · refine lv_lload_n hx hb dc_M_readBytes_56 rfl (lv_at hl 0 rfl) ?_
        refine lv_lconst (v := 0) hx hb dc_M_readBytes_57 rfl ?_
        refine W.lcmp hx hb dc_M_readBytes_58 ?_
        refine lv_if_le (tgt := 67) hx hb dc_M_readBytes_59 (by decide) (fun c_5 => ?_) (fun c_5 => ?_)
        · have c_5 : ((mv tp ks xa ri).1) ≤ 0 := (lg_cmp_le _ _).mp c_5
          refine lv_iconst (v := 0) hx hb dc_M_readBytes_67 (by decide) ?_
          exact hJ68 0 _ _ _ ⟨by rw [if_neg c_4, if_pos c_5], hP.sub [0, 1] rfl, hD.sub [0, 1] (by decide) rfl, hS, lv_sub hl [0, 1] rfl⟩
        · have c_5 : ¬ (((mv tp ks xa ri).1) ≤ 0) := fun h => c_5 ((lg_cmp_le _ _).mpr h)
          refine lv_lload_n hx hb dc_M_readBytes_62 rfl (lv_at hl 0 rfl) ?_
          refine lv_l2i (v := ((mv tp ks xa ri).1).toInt32) hx hb dc_M_readBytes_63 rfl ?_
          refine lv_goto (tgt := 68) hx hb dc_M_readBytes_64 (by decide) ?_
          exact hJ68 (((mv tp ks xa ri).1).toInt32) _ _ _ ⟨by rw [if_neg c_4, if_neg c_5], hP.sub [0, 1] rfl, hD.sub [0, 1] (by decide) rfl, hS, lv_sub hl [0, 1] rfl⟩
  · refine lv_if_eq (tgt := 40) hx hb dc_M_readBytes_10 (by decide) (fun c_6 => ?_) (fun c_6 => ?_)
    · refine lv_iconst (v := 0) hx hb dc_M_readBytes_40 (by decide) ?_
      exact hJ41 0 _ _ _ ⟨by rw [if_pos c_6], hP.sub [0, 1] rfl, hD.sub [0, 1] (by decide) rfl, hS, lv_sub hl [0, 1] rfl⟩
    · refine lv_lload_n hx hb dc_M_readBytes_13 rfl (lv_at hl 0 rfl) ?_
      refine lv_ldc2 (v := (-1)) hx hb hown (hts _ bw4_74) dc_M_readBytes_14 ?_
      refine W.lcmp hx hb dc_M_readBytes_17 ?_
      refine lv_if_lt (tgt := 40) hx hb dc_M_readBytes_18 (by decide) (fun c_7 => ?_) (fun c_7 => ?_)
      · have c_7 : ((mv tp ks xa ri).1) < (-1) := (lg_cmp_lt _ _).mp c_7
        refine lv_iconst (v := 0) hx hb dc_M_readBytes_40 (by decide) ?_
        exact hJ41 0 _ _ _ ⟨by rw [if_neg c_6, if_pos c_7], hP.sub [0, 1] rfl, hD.sub [0, 1] (by decide) rfl, hS, lv_sub hl [0, 1] rfl⟩
      · have c_7 : ¬ (((mv tp ks xa ri).1) < (-1)) := fun h => c_7 ((lg_cmp_lt _ _).mpr h)
        refine lv_lload_n hx hb dc_M_readBytes_21 rfl (lv_at hl 0 rfl) ?_
        refine lv_aload_n hx hb dc_M_readBytes_22 rfl (lv_at hl 1 rfl) ?_
        refine va_get (D := (dC, dI)) (ci := 7) (v := .int (nI ks)) (C := rn_M) (T := ft_M) (N := 19) hx hb hts fw_M hown hK hP 0 rfl rfl 2 (by decide) (hts _ bw3_161) (fun _ h9 => h9) rfl dc_M_readBytes_23 ?_
        refine lv_aload_n hx hb dc_M_readBytes_26 rfl (lv_at hl 1 rfl) ?_
        refine va_get (D := (dC, dI)) (ci := 7) (v := .int (nI ((mv tp ks xa ri).2.1))) (C := rn_M) (T := ft_M) (N := 19) hx hb hts fw_M hown hK hP 0 rfl rfl 9 (by decide) (hts _ bw3_168) (fun _ h9 => h9) rfl dc_M_readBytes_27 ?_
        refine lv_isub hx hb dc_M_readBytes_30 ?_
        refine lv_i2l (v := ((nI ks) - (nI ((mv tp ks xa ri).2.1))).toInt64) hx hb dc_M_readBytes_31 rfl ?_
        refine W.lcmp hx hb dc_M_readBytes_32 ?_
        refine lv_if_gt (tgt := 40) hx hb dc_M_readBytes_33 (by decide) (fun c_8 => ?_) (fun c_8 => ?_)
        · have c_8 : (((nI ks) - (nI ((mv tp ks xa ri).2.1))).toInt64) < ((mv tp ks xa ri).1) := (lg_cmp_gt _ _).mp c_8
          refine lv_iconst (v := 0) hx hb dc_M_readBytes_40 (by decide) ?_
          exact hJ41 0 _ _ _ ⟨by rw [if_neg c_6, if_neg c_7, if_pos c_8], hP.sub [0, 1] rfl, hD.sub [0, 1] (by decide) rfl, hS, lv_sub hl [0, 1] rfl⟩
        · have c_8 : ¬ ((((nI ks) - (nI ((mv tp ks xa ri).2.1))).toInt64) < ((mv tp ks xa ri).1)) := fun h => c_8 ((lg_cmp_gt _ _).mpr h)
          refine lv_iconst (v := 1) hx hb dc_M_readBytes_36 (by decide) ?_
          refine lv_goto (tgt := 41) hx hb dc_M_readBytes_37 (by decide) ?_
          exact hJ41 1 _ _ _ ⟨by rw [if_neg c_6, if_neg c_7, if_neg c_8], hP.sub [0, 1] rfl, hD.sub [0, 1] (by decide) rfl, hS, lv_sub hl [0, 1] rfl⟩

set_option maxHeartbeats 1000000 in
set_option maxRecDepth 100000 in
theorem c_M_field (l : Launch) (dC : Nat → ClassId) (dI : Nat → Nat → Nat) (sz : Nat) (aM : Nat) (co : Int32) (a1 : Nat) (ks : Nat) (dn : Nat) (a2 : Nat) (a3 : Nat) (a4 : Nat) (a5 : Nat) (a6 : Nat) (xa : Nat) (ri : Int32) (fa : Int32) (fq : Int32) (bg : Int32) (tm : Int64) (ka : Int32) (kb : Int64) (va : Int32) (vb : Int64) (gd : Int32) (wh : Int32) (hg : gd = 0 ∨ gd = 1) : Met l my_M_field (wB my_M_field cd_M_field 3 (some .boolean)) ({ frames := 0, cells := 0, slots := 0, locals := 0 }) (va_Pc [.ref aM, .int gd, .int wh] (PcW (dC, dI) [(aM, .inr (7, [.int co, .ref a1, .int (nI ks), .int (nI dn), .ref a2, .ref a3, .ref a4, .ref a5, .ref a6, .int (nI xa), .int ri, .int fa, .int fq, .int bg, .long tm, .int ka, .long kb, .int va, .long vb]))] [] sz)) (va_Qi (fun (r : Int32) => fun (_ : Unit) => r = gd) (fun _ => EnW (dC, dI) (va_A [(aM, .inr (7, [.int co, .ref a1, .int (nI ks), .int (nI dn), .ref a2, .ref a3, .ref a4, .ref a5, .ref a6, .int (nI xa), .int ri, .int fa, .int fq, .int bg, .long tm, .int ka, .long kb, .int va, .long vb]))] sz) [(aM, .inr (7, [.int co, .ref a1, .int (nI ks), .int (nI dn), .ref a2, .ref a3, .ref a4, .ref a5, .ref a6, .int (nI xa), .int ri, .int (if fa = 0 then (if gd = 0 then 2 else fa) else fa), .int (if fa = 0 then (if gd = 0 then wh else fq) else fq), .int bg, .long tm, .int ka, .long kb, .int va, .long vb]))] []) (va_A [(aM, .inr (7, [.int co, .ref a1, .int (nI ks), .int (nI dn), .ref a2, .ref a3, .ref a4, .ref a5, .ref a6, .int (nI xa), .int ri, .int fa, .int fq, .int bg, .long tm, .int ka, .long kb, .int va, .long vb]))] sz)) 0 0 (va_A [(aM, .inr (7, [.int co, .ref a1, .int (nI ks), .int (nI dn), .ref a2, .ref a3, .ref a4, .ref a5, .ref a6, .int (nI xa), .int ri, .int fa, .int fq, .int bg, .long tm, .int ka, .long kb, .int va, .long vb]))] sz) := by
  refine Met.ofW (cc := cd_M_field) (maxL := 3) (ret := (some .boolean)) (by decide) rfl ?_
  intro p e s m args below meth c s₁ B hml hv
  obtain ⟨rfl, hsz, hP, hK, hD0, hG⟩ := hv
  have hx := B.exec
  have hb := B.bytes
  have hr := B.returns
  have hts := fun (w : Cond) (h : w ∈ bigT) => atoms_spec (ws := (wB my_M_field cd_M_field 3 (some .boolean))) B.pre w (List.mem_cons_of_mem _ h)
  have hown : s.vm.findClass rn_M = some m.cls := findClass_of_methodNamed B.named
  have hlocks := B.notSynchronized
  subst hsz
  have hD := hD0.self (sz := s.heap.size)
  generalize hAe : va_A [(aM, .inr (7, [.int co, .ref a1, .int (nI ks), .int (nI dn), .ref a2, .ref a3, .ref a4, .ref a5, .ref a6, .int (nI xa), .int ri, .int fa, .int fq, .int bg, .long tm, .int ka, .long kb, .int va, .long vb]))] s.heap.size = A at hD hG ⊢
  have hA : ∀ q : Nat, s.heap.size ≤ q → A q := fun q h => by rw [← hAe]; exact Or.inr h
  have hS : va_S A s.heap s.heap [] := va_S.rf
  have hP : va_P (dC, dI) vwCl [(aM, .inr (7, [.int co, .ref a1, .int (nI ks), .int (nI dn), .ref a2, .ref a3, .ref a4, .ref a5, .ref a6, .int (nI xa), .int ri, .int fa, .int fq, .int bg, .long tm, .int ka, .long kb, .int va, .long vb]))] s.heap := hP
  have hl := lv_entry ([.ref aM, .int gd, .int wh]) (n := 3) (Nat.le_of_ble_eq_true rfl)
  rw [lg_entry_eq]
  generalize (lg_sl ([.ref aM, .int gd, .int wh]) ++ List.replicate (3 - (lg_sl ([.ref aM, .int gd, .int wh])).length) Slot.unset).toArray = ls at hl ⊢
  have hl : lv_has ls 3 [(0, .ref aM), (1, .int gd), (2, .int wh)] := hl
  refine lv_aload_n hx hb dc_M_field_0 rfl (lv_at hl 0 rfl) ?_
  refine va_get (D := (dC, dI)) (ci := 7) (v := .int fa) (C := rn_M) (T := ft_M) (N := 19) hx hb hts fw_M hown hK hP 0 rfl rfl 11 (by decide) (hts _ bw3_170) (fun _ h9 => h9) rfl dc_M_field_1 ?_
  refine w_join (σ := Int32 × Int32) (fun x H locs ls => x.1 = (if fa = 0 then if gd = 0 then 2 else fa else fa) ∧ x.2 = (if fa = 0 then if gd = 0 then wh else fq else fq) ∧ va_P (dC, dI) vwCl [(aM, .inr (7, [.int co, .ref a1, .int (nI ks), .int (nI dn), .ref a2, .ref a3, .ref a4, .ref a5, .ref a6, .int (nI xa), .int ri, .int x.1, .int x.2, .int bg, .long tm, .int ka, .long kb, .int va, .long vb]))] H ∧ va_D A [(aM, .inr (7, [.int co, .ref a1, .int (nI ks), .int (nI dn), .ref a2, .ref a3, .ref a4, .ref a5, .ref a6, .int (nI xa), .int ri, .int x.1, .int x.2, .int bg, .long tm, .int ka, .long kb, .int va, .long vb]))] ∧ va_S A s.heap H locs ∧ lv_has ls 3 [(0, .ref aM), (1, .int gd), (2, .int wh)]) (fun x ls => F0 m 21 ls []) ?_ (fun hJ21 => ?_)
  · rintro ⟨v21_0, v21_1⟩ H locs ls ⟨ev21_0, ev21_1, hP, hD, hS, hl⟩
    have hP : va_P (dC, dI) vwCl [(aM, .inr (7, [.int co, .ref a1, .int (nI ks), .int (nI dn), .ref a2, .ref a3, .ref a4, .ref a5, .ref a6, .int (nI xa), .int ri, .int v21_0, .int v21_1, .int bg, .long tm, .int ka, .long kb, .int va, .long vb]))] H := hP
    have hD : va_D A [(aM, .inr (7, [.int co, .ref a1, .int (nI ks), .int (nI dn), .ref a2, .ref a3, .ref a4, .ref a5, .ref a6, .int (nI xa), .int ri, .int v21_0, .int v21_1, .int bg, .long tm, .int ka, .long kb, .int va, .long vb]))] := hD
    have hl : lv_has ls 3 [(0, .ref aM), (1, .int gd), (2, .int wh)] := hl
    show W _ _ _ _ _ _ _ _ _ _ _ _ _ _ _ (F0 m 21 ls [])
    refine lv_iload_n hx hb dc_M_field_21 rfl (lv_at hl 1 rfl) ?_
    have e_1 : v21_0 = (if fa = 0 then (if gd = 0 then 2 else fa) else fa) := by exact ev21_0.trans rfl
    have e_2 : v21_1 = (if fa = 0 then (if gd = 0 then wh else fq) else fq) := by exact ev21_1.trans rfl
    have hP := wP_eq (ws' := [(aM, .inr (7, [.int co, .ref a1, .int (nI ks), .int (nI dn), .ref a2, .ref a3, .ref a4, .ref a5, .ref a6, .int (nI xa), .int ri, .int (if fa = 0 then (if gd = 0 then 2 else fa) else fa), .int (if fa = 0 then (if gd = 0 then wh else fq) else fq), .int bg, .long tm, .int ka, .long kb, .int va, .long vb]))]) hP (cg2 (fun y0 y1 => ([(aM, .inr (7, [.int co, .ref a1, .int (nI ks), .int (nI dn), .ref a2, .ref a3, .ref a4, .ref a5, .ref a6, .int (nI xa), .int ri, .int y0, .int y1, .int bg, .long tm, .int ka, .long kb, .int va, .long vb]))] : va_W)) e_1 e_2)
    have hD := wD_eq (ws' := [(aM, .inr (7, [.int co, .ref a1, .int (nI ks), .int (nI dn), .ref a2, .ref a3, .ref a4, .ref a5, .ref a6, .int (nI xa), .int ri, .int (if fa = 0 then (if gd = 0 then 2 else fa) else fa), .int (if fa = 0 then (if gd = 0 then wh else fq) else fq), .int bg, .long tm, .int ka, .long kb, .int va, .long vb]))]) hD (cg2 (fun y0 y1 => ([(aM, .inr (7, [.int co, .ref a1, .int (nI ks), .int (nI dn), .ref a2, .ref a3, .ref a4, .ref a5, .ref a6, .int (nI xa), .int ri, .int y0, .int y1, .int bg, .long tm, .int ka, .long kb, .int va, .long vb]))] : va_W)) e_1 e_2)
    have hP9 := hP.sub (ws' := [(aM, .inr (7, [.int co, .ref a1, .int (nI ks), .int (nI dn), .ref a2, .ref a3, .ref a4, .ref a5, .ref a6, .int (nI xa), .int ri, .int (if fa = 0 then (if gd = 0 then 2 else fa) else fa), .int (if fa = 0 then (if gd = 0 then wh else fq) else fq), .int bg, .long tm, .int ka, .long kb, .int va, .long vb]))]) [0] rfl
    have hD9 := hD.sub (ws' := [(aM, .inr (7, [.int co, .ref a1, .int (nI ks), .int (nI dn), .ref a2, .ref a3, .ref a4, .ref a5, .ref a6, .int (nI xa), .int ri, .int (if fa = 0 then (if gd = 0 then 2 else fa) else fa), .int (if fa = 0 then (if gd = 0 then wh else fq) else fq), .int bg, .long tm, .int ka, .long kb, .int va, .long vb]))]) [0] (by decide) rfl
    have hK9 := hK.sub (tys' := []) [] rfl
    exact W.zret (v := gd) hx hb hr (by rcases hg with h | h <;> rw [h] <;> rfl) (fun t ht hW => ⟨⟨gd, (), rfl, rfl, by rw [ht]; exact hP9, va_K.moved hW.alike hK9, hD9⟩, hS.F ht⟩) hS.2.2 dc_M_field_22
  · refine lv_if_ne (tgt := 21) hx hb dc_M_field_4 (by decide) (fun c_3 => ?_) (fun c_3 => ?_)
    · exact hJ21 (fa, fq) _ _ _ ⟨by rw [if_neg c_3], by rw [if_neg c_3], hP.sub [0] rfl, hD.sub [0] (by decide) rfl, hS, lv_sub hl [0, 1, 2] rfl⟩
    · refine lv_iload_n hx hb dc_M_field_7 rfl (lv_at hl 1 rfl) ?_
      refine lv_if_ne (tgt := 21) hx hb dc_M_field_8 (by decide) (fun c_4 => ?_) (fun c_4 => ?_)
      · exact hJ21 (fa, fq) _ _ _ ⟨by rw [if_pos c_3, if_neg c_4], by rw [if_pos c_3, if_neg c_4], hP.sub [0] rfl, hD.sub [0] (by decide) rfl, hS, lv_sub hl [0, 1, 2] rfl⟩
      · refine lv_aload_n hx hb dc_M_field_11 rfl (lv_at hl 0 rfl) ?_
        refine lv_iconst (v := 2) hx hb dc_M_field_12 (by decide) ?_
        refine va_put (D := (dC, dI)) (ci := 7) (v := .int 2) (ty := .int) (C := rn_M) (T := ft_M) (N := 19) hx hb hts fw_M fy_M fo_M fn_M hown hK hP hD hS 0 rfl rfl 11 (by decide) (hts _ bw3_170) (fun _ h9 => h9) rfl (by decide +kernel) rfl rfl (Nat.le_of_ble_eq_true rfl) dc_M_field_13 (fun H locs hP hD hS => ?_)
        have hP : va_P (dC, dI) vwCl [(aM, .inr (7, [.int co, .ref a1, .int (nI ks), .int (nI dn), .ref a2, .ref a3, .ref a4, .ref a5, .ref a6, .int (nI xa), .int ri, .int 2, .int fq, .int bg, .long tm, .int ka, .long kb, .int va, .long vb]))] H := hP
        have hD : va_D A [(aM, .inr (7, [.int co, .ref a1, .int (nI ks), .int (nI dn), .ref a2, .ref a3, .ref a4, .ref a5, .ref a6, .int (nI xa), .int ri, .int 2, .int fq, .int bg, .long tm, .int ka, .long kb, .int va, .long vb]))] := hD
        refine lv_aload_n hx hb dc_M_field_16 rfl (lv_at hl 0 rfl) ?_
        refine lv_iload_n hx hb dc_M_field_17 rfl (lv_at hl 2 rfl) ?_
        refine va_put (D := (dC, dI)) (ci := 7) (v := .int wh) (ty := .int) (C := rn_M) (T := ft_M) (N := 19) hx hb hts fw_M fy_M fo_M fn_M hown hK hP hD hS 0 rfl rfl 12 (by decide) (hts _ bw3_171) (fun _ h9 => h9) rfl (by decide +kernel) rfl rfl (Nat.le_of_ble_eq_true rfl) dc_M_field_18 (fun H locs hP hD hS => ?_)
        have hP : va_P (dC, dI) vwCl [(aM, .inr (7, [.int co, .ref a1, .int (nI ks), .int (nI dn), .ref a2, .ref a3, .ref a4, .ref a5, .ref a6, .int (nI xa), .int ri, .int 2, .int wh, .int bg, .long tm, .int ka, .long kb, .int va, .long vb]))] H := hP
        have hD : va_D A [(aM, .inr (7, [.int co, .ref a1, .int (nI ks), .int (nI dn), .ref a2, .ref a3, .ref a4, .ref a5, .ref a6, .int (nI xa), .int ri, .int 2, .int wh, .int bg, .long tm, .int ka, .long kb, .int va, .long vb]))] := hD
        exact hJ21 (2, wh) _ _ _ ⟨by rw [if_pos c_3, if_pos c_4], by rw [if_pos c_3, if_pos c_4], hP.sub [0] rfl, hD.sub [0] (by decide) rfl, hS, lv_sub hl [0, 1, 2] rfl⟩
