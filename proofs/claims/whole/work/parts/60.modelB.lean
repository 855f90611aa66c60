set_option maxHeartbeats 1000000 in
set_option maxRecDepth 100000 in
theorem c_M_record_bad (l : Launch) (dC : Nat → ClassId) (dI : Nat → Nat → Nat) (sz : Nat) (aM : Nat) (co : Int32) (a1 : Nat) (ks : Nat) (dn : Nat) (a2 : Nat) (a3 : Nat) (a4 : Nat) (a5 : Nat) (a6 : Nat) (xa : Nat) (ri : Int32) (fa : Int32) (fq : Int32) (bg : Int32) (tm : Int64) (ka : Int32) (kb : Int64) (va : Int32) (vb : Int64) (x : Int32) (ky : Int64) (xkb : Int32) (vy : Int64) (xvb : Int32) (la : Int32) (hj : x < 1 ∨ 100 < x ∨ xkb < -1 ∨ 8 < xkb ∨ xvb < -1 ∨ 300 < xvb ∨ la < 0 ∨ ¬ la ≤ 1000000) : Met l my_M_record (wB my_M_record cd_M_record 11 (some .int)) ({ frames := 0, cells := 0, slots := 0, locals := 0 }) (va_Pc [.ref aM, .int x, .long ky, .int xkb, .long vy, .int xvb, .int la] (PcW (dC, dI) [(aM, .inr (7, [.int co, .ref a1, .int (nI ks), .int (nI dn), .ref a2, .ref a3, .ref a4, .ref a5, .ref a6, .int (nI xa), .int ri, .int fa, .int fq, .int bg, .long tm, .int ka, .long kb, .int va, .long vb]))] [] sz)) (va_Qi (fun (r : Int32) => fun (_ : Unit) => r = 0) (fun _ => EnW (dC, dI) (va_A [(aM, .inr (7, [.int co, .ref a1, .int (nI ks), .int (nI dn), .ref a2, .ref a3, .ref a4, .ref a5, .ref a6, .int (nI xa), .int ri, .int fa, .int fq, .int bg, .long tm, .int ka, .long kb, .int va, .long vb]))] sz) [(aM, .inr (7, [.int 1, .ref a1, .int (nI ks), .int (nI dn), .ref a2, .ref a3, .ref a4, .ref a5, .ref a6, .int (nI xa), .int ri, .int fa, .int fq, .int bg, .long tm, .int ka, .long kb, .int va, .long vb]))] []) (va_A [(aM, .inr (7, [.int co, .ref a1, .int (nI ks), .int (nI dn), .ref a2, .ref a3, .ref a4, .ref a5, .ref a6, .int (nI xa), .int ri, .int fa, .int fq, .int bg, .long tm, .int ka, .long kb, .int va, .long vb]))] sz)) 0 0 (va_A [(aM, .inr (7, [.int co, .ref a1, .int (nI ks), .int (nI dn), .ref a2, .ref a3, .ref a4, .ref a5, .ref a6, .int (nI xa), .int ri, .int fa, .int fq, .int bg, .long tm, .int ka, .long kb, .int va, .long vb]))] sz) := by
  refine Met.ofW (cc := cd_M_record) (maxL := 11) (ret := (some .int)) (by decide) rfl ?_
  intro p e s m args below meth c s₁ B hml hv
  obtain ⟨rfl, hsz, hP, hK, hD0, hG⟩ := hv
  have hx := B.exec
  have hb := B.bytes
  have hr := B.returns
  have hts := fun (w : Cond) (h : w ∈ bigT) => atoms_spec (ws := (wB my_M_record cd_M_record 11 (some .int))) B.pre w (List.mem_cons_of_mem _ h)
  have hown : s.vm.findClass rn_M = some m.cls := findClass_of_methodNamed B.named
  have hlocks := B.notSynchronized
  subst hsz
  have hD := hD0.self (sz := s.heap.size)
  generalize hAe : va_A [(aM, .inr (7, [.int co, .ref a1, .int (nI ks), .int (nI dn), .ref a2, .ref a3, .ref a4, .ref a5, .ref a6, .int (nI xa), .int ri, .int fa, .int fq, .int bg, .long tm, .int ka, .long kb, .int va, .long vb]))] s.heap.size = A at hD hG ⊢
  have hA : ∀ q : Nat, s.heap.size ≤ q → A q := fun q h => by rw [← hAe]; exact Or.inr h
  have hS : va_S A s.heap s.heap [] := va_S.rf
  have hP : va_P (dC, dI) vwCl [(aM, .inr (7, [.int co, .ref a1, .int (nI ks), .int (nI dn), .ref a2, .ref a3, .ref a4, .ref a5, .ref a6, .int (nI xa), .int ri, .int fa, .int fq, .int bg, .long tm, .int ka, .long kb, .int va, .long vb]))] s.heap := hP
  have hl := lv_entry ([.ref aM, .int x, .long ky, .int xkb, .long vy, .int xvb, .int la]) (n := 11) (Nat.le_of_ble_eq_true rfl)
  rw [lg_entry_eq]
  generalize (lg_sl ([.ref aM, .int x, .long ky, .int xkb, .long vy, .int xvb, .int la]) ++ List.replicate (11 - (lg_sl ([.ref aM, .int x, .long ky, .int xkb, .long vy, .int xvb, .int la])).length) Slot.unset).toArray = ls at hl ⊢
  have hl : lv_has ls 11 [(0, .ref aM), (1, .int x), (2, .long ky), (4, .int xkb), (5, .long vy), (7, .int xvb), (8, .int la)] := hl
  refine lv_aload_n hx hb dc_M_record_0 rfl (lv_at hl 0 rfl) ?_
  refine lv_iload_n hx hb dc_M_record_1 rfl (lv_at hl 1 rfl) ?_
  refine lv_iconst (v := 1) hx hb dc_M_record_2 (by decide) ?_
  refine w_join (σ := Unit) (fun v72_ H locs ls => va_P (dC, dI) vwCl [(aM, .inr (7, [.int co, .ref a1, .int (nI ks), .int (nI dn), .ref a2, .ref a3, .ref a4, .ref a5, .ref a6, .int (nI xa), .int ri, .int fa, .int fq, .int bg, .long tm, .int ka, .long kb, .int va, .long vb]))] H ∧ va_D A [(aM, .inr (7, [.int co, .ref a1, .int (nI ks), .int (nI dn), .ref a2, .ref a3, .ref a4, .ref a5, .ref a6, .int (nI xa), .int ri, .int fa, .int fq, .int bg, .long tm, .int ka, .long kb, .int va, .long vb]))] ∧ va_S A s.heap H locs ∧ lv_has ls 11 [(0, .ref aM), (1, .int x), (2, .long ky), (4, .int xkb), (5, .long vy), (7, .int xvb), (8, .int la)]) (fun v72_ ls => F0 m 72 ls [.int 1, .ref aM]) ?_ (fun hJ72 => ?_)
  · rintro v72_ H locs ls ⟨hP, hD, hS, hl⟩
    have hP : va_P (dC, dI) vwCl [(aM, .inr (7, [.int co, .ref a1, .int (nI ks), .int (nI dn), .ref a2, .ref a3, .ref a4, .ref a5, .ref a6, .int (nI xa), .int ri, .int fa, .int fq, .int bg, .long tm, .int ka, .long kb, .int va, .long vb]))] H := hP
    have hD : va_D A [(aM, .inr (7, [.int co, .ref a1, .int (nI ks), .int (nI dn), .ref a2, .ref a3, .ref a4, .ref a5, .ref a6, .int (nI xa), .int ri, .int fa, .int fq, .int bg, .long tm, .int ka, .long kb, .int va, .long vb]))] := hD
    have hl : lv_has ls 11 [(0, .ref aM), (1, .int x), (2, .long ky), (4, .int xkb), (5, .long vy), (7, .int xvb), (8, .int la)] := hl
    show W _ _ _ _ _ _ _ _ _ _ _ _ _ _ _ (F0 m 72 ls [.int 1, .ref aM])
    refine va_put (D := (dC, dI)) (ci := 7) (v := .int 1) (ty := .int) (C := rn_M) (T := ft_M) (N := 19) hx hb hts fw_M fy_M fo_M fn_M hown hK hP hD hS 0 rfl rfl 0 (by decide) (hts _ bw3_159) (fun _ h9 => h9) rfl (by decide +kernel) rfl rfl (Nat.le_of_ble_eq_true rfl) dc_M_record_72 (fun H locs hP hD hS => ?_)
    have hP : va_P (dC, dI) vwCl [(aM, .inr (7, [.int 1, .ref a1, .int (nI ks), .int (nI dn), .ref a2, .ref a3, .ref a4, .ref a5, .ref a6, .int (nI xa), .int ri, .int fa, .int fq, .int bg, .long tm, .int ka, .long kb, .int va, .long vb]))] H := hP
    have hD : va_D A [(aM, .inr (7, [.int 1, .ref a1, .int (nI ks), .int (nI dn), .ref a2, .ref a3, .ref a4, .ref a5, .ref a6, .int (nI xa), .int ri, .int fa, .int fq, .int bg, .long tm, .int ka, .long kb, .int va, .long vb]))] := hD
    refine lv_aload_n hx hb dc_M_record_75 rfl (lv_at hl 0 rfl) ?_
    refine va_get (D := (dC, dI)) (ci := 7) (v := .int 1) (C := rn_M) (T := ft_M) (N := 19) hx hb hts fw_M hown hK hP 0 rfl rfl 0 (by decide) (hts _ bw3_159) (fun _ h9 => h9) rfl dc_M_record_76 ?_
    refine lv_if_le (tgt := 84) hx hb dc_M_record_79 (by decide) (fun c_1 => ?_) (fun c_1 => ?_)
    · exact absurd c_1 (by decide)
    · refine lv_iconst (v := 0) hx hb dc_M_record_82 (by decide) ?_
      have hP9 := hP.sub (ws' := [(aM, .inr (7, [.int 1, .ref a1, .int (nI ks), .int (nI dn), .ref a2, .ref a3, .ref a4, .ref a5, .ref a6, .int (nI xa), .int ri, .int fa, .int fq, .int bg, .long tm, .int ka, .long kb, .int va, .long vb]))]) [0] rfl
      have hD9 := hD.sub (ws' := [(aM, .inr (7, [.int 1, .ref a1, .int (nI ks), .int (nI dn), .ref a2, .ref a3, .ref a4, .ref a5, .ref a6, .int (nI xa), .int ri, .int fa, .int fq, .int bg, .long tm, .int ka, .long kb, .int va, .long vb]))]) [0] (by decide) rfl
      have hK9 := hK.sub (tys' := []) [] rfl
      exact W.iret (v := 0) hx hb hr (fun t ht hW => ⟨⟨0, (), rfl, rfl, by rw [ht]; exact hP9, va_K.moved hW.alike hK9, hD9⟩, hS.F ht⟩) hS.2.2 dc_M_record_83
  · refine lv_icmp_lt (tgt := 51) hx hb dc_M_record_3 (by decide) (fun c_2 => ?_) (fun c_2 => ?_)
    · refine lv_iconst (v := 1) hx hb dc_M_record_51 (by decide) ?_
      refine lv_goto (tgt := 72) hx hb dc_M_record_52 (by decide) ?_
      exact hJ72 () _ _ _ ⟨hP.sub [0] rfl, hD.sub [0] (by decide) rfl, hS, lv_sub hl [0, 1, 2, 3, 4, 5, 6] rfl⟩
    · have h3 := c_2
      refine lv_iload_n hx hb dc_M_record_6 rfl (lv_at hl 1 rfl) ?_
      refine lv_bipush (v := 100) hx hb dc_M_record_7 (by decide) ?_
      refine lv_icmp_gt (tgt := 51) hx hb dc_M_record_9 (by decide) (fun c_3 => ?_) (fun c_3 => ?_)
      · refine lv_iconst (v := 1) hx hb dc_M_record_51 (by decide) ?_
        refine lv_goto (tgt := 72) hx hb dc_M_record_52 (by decide) ?_
        exact hJ72 () _ _ _ ⟨hP.sub [0] rfl, hD.sub [0] (by decide) rfl, hS, lv_sub hl [0, 1, 2, 3, 4, 5, 6] rfl⟩
      · have h9 := c_3
        refine lv_iload hx hb dc_M_record_12 (lv_at hl 3 rfl) ?_
        refine lv_iconst (v := (-1)) hx hb dc_M_record_14 (by decide) ?_
        refine lv_icmp_lt (tgt := 51) hx hb dc_M_record_15 (by decide) (fun c_4 => ?_) (fun c_4 => ?_)
        · refine lv_iconst (v := 1) hx hb dc_M_record_51 (by decide) ?_
          refine lv_goto (tgt := 72) hx hb dc_M_record_52 (by decide) ?_
          exact hJ72 () _ _ _ ⟨hP.sub [0] rfl, hD.sub [0] (by decide) rfl, hS, lv_sub hl [0, 1, 2, 3, 4, 5, 6] rfl⟩
        · have h15 := c_4
          refine lv_iload hx hb dc_M_record_18 (lv_at hl 3 rfl) ?_
          refine lv_bipush (v := 8) hx hb dc_M_record_20 (by decide) ?_
          refine lv_icmp_gt (tgt := 51) hx hb dc_M_record_22 (by decide) (fun c_5 => ?_) (fun c_5 => ?_)
          · refine lv_iconst (v := 1) hx hb dc_M_record_51 (by decide) ?_
            refine lv_goto (tgt := 72) hx hb dc_M_record_52 (by decide) ?_
            exact hJ72 () _ _ _ ⟨hP.sub [0] rfl, hD.sub [0] (by decide) rfl, hS, lv_sub hl [0, 1, 2, 3, 4, 5, 6] rfl⟩
          · have h22 := c_5
            refine lv_iload hx hb dc_M_record_25 (lv_at hl 5 rfl) ?_
            refine lv_iconst (v := (-1)) hx hb dc_M_record_27 (by decide) ?_
            refine lv_icmp_lt (tgt := 51) hx hb dc_M_record_28 (by decide) (fun c_6 => ?_) (fun c_6 => ?_)
            · refine lv_iconst (v := 1) hx hb dc_M_record_51 (by decide) ?_
              refine lv_goto (tgt := 72) hx hb dc_M_record_52 (by decide) ?_
              exact hJ72 () _ _ _ ⟨hP.sub [0] rfl, hD.sub [0] (by decide) rfl, hS, lv_sub hl [0, 1, 2, 3, 4, 5, 6] rfl⟩
            · have h28 := c_6
              refine lv_iload hx hb dc_M_record_31 (lv_at hl 5 rfl) ?_
              refine lv_sipush (v := 300) hx hb dc_M_record_33 (by decide) ?_
              refine lv_icmp_gt (tgt := 51) hx hb dc_M_record_36 (by decide) (fun c_7 => ?_) (fun c_7 => ?_)
              · refine lv_iconst (v := 1) hx hb dc_M_record_51 (by decide) ?_
                refine lv_goto (tgt := 72) hx hb dc_M_record_52 (by decide) ?_
                exact hJ72 () _ _ _ ⟨hP.sub [0] rfl, hD.sub [0] (by decide) rfl, hS, lv_sub hl [0, 1, 2, 3, 4, 5, 6] rfl⟩
              · have h36 := c_7
                refine lv_iload hx hb dc_M_record_39 (lv_at hl 6 rfl) ?_
                refine lv_if_lt (tgt := 51) hx hb dc_M_record_41 (by decide) (fun c_8 => ?_) (fun c_8 => ?_)
                · refine lv_iconst (v := 1) hx hb dc_M_record_51 (by decide) ?_
                  refine lv_goto (tgt := 72) hx hb dc_M_record_52 (by decide) ?_
                  exact hJ72 () _ _ _ ⟨hP.sub [0] rfl, hD.sub [0] (by decide) rfl, hS, lv_sub hl [0, 1, 2, 3, 4, 5, 6] rfl⟩
                · have h41 := c_8
                  refine lv_iload hx hb dc_M_record_44 (lv_at hl 6 rfl) ?_
                  refine lv_ldc (v := 1000000) hx hb hown (hts _ bw4_29) dc_M_record_46 ?_
                  refine lv_icmp_le (tgt := 55) hx hb dc_M_record_48 (by decide) (fun c_9 => ?_) (fun c_9 => ?_)
                  · exfalso; exact hj.elim h3 (fun h => h.elim h9 (fun h => h.elim h15 (fun h => h.elim h22 (fun h => h.elim h28 (fun h => h.elim h36 (fun h => h.elim h41 (fun h => h c_9)))))))
                  · refine lv_iconst (v := 1) hx hb dc_M_record_51 (by decide) ?_
                    refine lv_goto (tgt := 72) hx hb dc_M_record_52 (by decide) ?_
                    exact hJ72 () _ _ _ ⟨hP.sub [0] rfl, hD.sub [0] (by decide) rfl, hS, lv_sub hl [0, 1, 2, 3, 4, 5, 6] rfl⟩

set_option maxHeartbeats 1000000 in
set_option maxRecDepth 100000 in
theorem c_M_record_full (l : Launch) (dC : Nat → ClassId) (dI : Nat → Nat → Nat) (sz : Nat) (aM : Nat) (co : Int32) (a1 : Nat) (ks : Nat) (dn : Nat) (a2 : Nat) (a3 : Nat) (a4 : Nat) (a5 : Nat) (a6 : Nat) (xa : Nat) (ri : Int32) (fa : Int32) (fq : Int32) (bg : Int32) (tm : Int64) (ka : Int32) (kb : Int64) (va : Int32) (vb : Int64) (j : Nat) (ky : Int64) (xkb : Int32) (vy : Int64) (xvb : Int32) (la : Int32) (h1 : 1 ≤ j) (h2 : j ≤ 100) (hk0 : ¬ xkb < -1) (hk8 : ¬ 8 < xkb) (hv0 : ¬ xvb < -1) (hv3 : ¬ 300 < xvb) (hl0 : ¬ la < 0) (hl1 : la ≤ 1000000) (hdn : dn ≤ 1000) (hn : 1000 < dn + j) : Met l my_M_record (wB my_M_record cd_M_record 11 (some .int)) ({ frames := 0, cells := 0, slots := 0, locals := 0 }) (va_Pc [.ref aM, .int (nI j), .long ky, .int xkb, .long vy, .int xvb, .int la] (PcW (dC, dI) [(aM, .inr (7, [.int co, .ref a1, .int (nI ks), .int (nI dn), .ref a2, .ref a3, .ref a4, .ref a5, .ref a6, .int (nI xa), .int ri, .int fa, .int fq, .int bg, .long tm, .int ka, .long kb, .int va, .long vb]))] [] sz)) (va_Qi (fun (r : Int32) => fun (_ : Unit) => r = 0) (fun _ => EnW (dC, dI) (va_A [(aM, .inr (7, [.int co, .ref a1, .int (nI ks), .int (nI dn), .ref a2, .ref a3, .ref a4, .ref a5, .ref a6, .int (nI xa), .int ri, .int fa, .int fq, .int bg, .long tm, .int ka, .long kb, .int va, .long vb]))] sz) [(aM, .inr (7, [.int 2, .ref a1, .int (nI ks), .int (nI dn), .ref a2, .ref a3, .ref a4, .ref a5, .ref a6, .int (nI xa), .int ri, .int fa, .int fq, .int bg, .long tm, .int ka, .long kb, .int va, .long vb]))] []) (va_A [(aM, .inr (7, [.int co, .ref a1, .int (nI ks), .int (nI dn), .ref a2, .ref a3, .ref a4, .ref a5, .ref a6, .int (nI xa), .int ri, .int fa, .int fq, .int bg, .long tm, .int ka, .long kb, .int va, .long vb]))] sz)) 0 0 (va_A [(aM, .inr (7, [.int co, .ref a1, .int (nI ks), .int (nI dn), .ref a2, .ref a3, .ref a4, .ref a5, .ref a6, .int (nI xa), .int ri, .int fa, .int fq, .int bg, .long tm, .int ka, .long kb, .int va, .long vb]))] sz) := by
  refine Met.ofW (cc := cd_M_record) (maxL := 11) (ret := (some .int)) (by decide) rfl ?_
  intro p e s m args below meth c s₁ B hml hv
  obtain ⟨rfl, hsz, hP, hK, hD0, hG⟩ := hv
  have hx := B.exec
  have hb := B.bytes
  have hr := B.returns
  have hts := fun (w : Cond) (h : w ∈ bigT) => atoms_spec (ws := (wB my_M_record cd_M_record 11 (some .int))) B.pre w (List.mem_cons_of_mem _ h)
  have hown : s.vm.findClass rn_M = some m.cls := findClass_of_methodNamed B.named
  have hlocks := B.notSynchronized
  subst hsz
  have hD := hD0.self (sz := s.heap.size)
  generalize hAe : va_A [(aM, .inr (7, [.int co, .ref a1, .int (nI ks), .int (nI dn), .ref a2, .ref a3, .ref a4, .ref a5, .ref a6, .int (nI xa), .int ri, .int fa, .int fq, .int bg, .long tm, .int ka, .long kb, .int va, .long vb]))] s.heap.size = A at hD hG ⊢
  have hA : ∀ q : Nat, s.heap.size ≤ q → A q := fun q h => by rw [← hAe]; exact Or.inr h
  have hS : va_S A s.heap s.heap [] := va_S.rf
  have hP : va_P (dC, dI) vwCl [(aM, .inr (7, [.int co, .ref a1, .int (nI ks), .int (nI dn), .ref a2, .ref a3, .ref a4, .ref a5, .ref a6, .int (nI xa), .int ri, .int fa, .int fq, .int bg, .long tm, .int ka, .long kb, .int va, .long vb]))] s.heap := hP
  have hl := lv_entry ([.ref aM, .int (nI j), .long ky, .int xkb, .long vy, .int xvb, .int la]) (n := 11) (Nat.le_of_ble_eq_true rfl)
  rw [lg_entry_eq]
  generalize (lg_sl ([.ref aM, .int (nI j), .long ky, .int xkb, .long vy, .int xvb, .int la]) ++ List.replicate (11 - (lg_sl ([.ref aM, .int (nI j), .long ky, .int xkb, .long vy, .int xvb, .int la])).length) Slot.unset).toArray = ls at hl ⊢
  have hl : lv_has ls 11 [(0, .ref aM), (1, .int (nI j)), (2, .long ky), (4, .int xkb), (5, .long vy), (7, .int xvb), (8, .int la)] := hl
  refine lv_aload_n hx hb dc_M_record_0 rfl (lv_at hl 0 rfl) ?_
  refine lv_iload_n hx hb dc_M_record_1 rfl (lv_at hl 1 rfl) ?_
  refine lv_iconst (v := 1) hx hb dc_M_record_2 (by decide) ?_
  refine w_join (σ := Unit) (fun v72_ H locs ls => va_P (dC, dI) vwCl [(aM, .inr (7, [.int co, .ref a1, .int (nI ks), .int (nI dn), .ref a2, .ref a3, .ref a4, .ref a5, .ref a6, .int (nI xa), .int ri, .int fa, .int fq, .int bg, .long tm, .int ka, .long kb, .int va, .long vb]))] H ∧ va_D A [(aM, .inr (7, [.int co, .ref a1, .int (nI ks), .int (nI dn), .ref a2, .ref a3, .ref a4, .ref a5, .ref a6, .int (nI xa), .int ri, .int fa, .int fq, .int bg, .long tm, .int ka, .long kb, .int va, .long vb]))] ∧ va_S A s.heap H locs ∧ lv_has ls 11 [(0, .ref aM), (1, .int (nI j)), (2, .long ky), (4, .int xkb), (5, .long vy), (7, .int xvb), (8, .int la)]) (fun v72_ ls => F0 m 72 ls [.int 2, .ref aM]) ?_ (fun hJ72 => ?_)
  · rintro v72_ H locs ls ⟨hP, hD, hS, hl⟩
    have hP : va_P (dC, dI) vwCl [(aM, .inr (7, [.int co, .ref a1, .int (nI ks), .int (nI dn), .ref a2, .ref a3, .ref a4, .ref a5, .ref a6, .int (nI xa), .int ri, .int fa, .int fq, .int bg, .long tm, .int ka, .long kb, .int va, .long vb]))] H := hP
    have hD : va_D A [(aM, .inr (7, [.int co, .ref a1, .int (nI ks), .int (nI dn), .ref a2, .ref a3, .ref a4, .ref a5, .ref a6, .int (nI xa), .int ri, .int fa, .int fq, .int bg, .long tm, .int ka, .long kb, .int va, .long vb]))] := hD
    have hl : lv_has ls 11 [(0, .ref aM), (1, .int (nI j)), (2, .long ky), (4, .int xkb), (5, .long vy), (7, .int xvb), (8, .int la)] := hl
    show W _ _ _ _ _ _ _ _ _ _ _ _ _ _ _ (F0 m 72 ls [.int 2, .ref aM])
    refine va_put (D := (dC, dI)) (ci := 7) (v := .int 2) (ty := .int) (C := rn_M) (T := ft_M) (N := 19) hx hb hts fw_M fy_M fo_M fn_M hown hK hP hD hS 0 rfl rfl 0 (by decide) (hts _ bw3_159) (fun _ h9 => h9) rfl (by decide +kernel) rfl rfl (Nat.le_of_ble_eq_true rfl) dc_M_record_72 (fun H locs hP hD hS => ?_)
    have hP : va_P (dC, dI) vwCl [(aM, .inr (7, [.int 2, .ref a1, .int (nI ks), .int (nI dn), .ref a2, .ref a3, .ref a4, .ref a5, .ref a6, .int (nI xa), .int ri, .int fa, .int fq, .int bg, .long tm, .int ka, .long kb, .int va, .long vb]))] H := hP
    have hD : va_D A [(aM, .inr (7, [.int 2, .ref a1, .int (nI ks), .int (nI dn), .ref a2, .ref a3, .ref a4, .ref a5, .ref a6, .int (nI xa), .int ri, .int fa, .int fq, .int bg, .long tm, .int ka, .long kb, .int va, .long vb]))] := hD
    refine lv_aload_n hx hb dc_M_record_75 rfl (lv_at hl 0 rfl) ?_
    refine va_get (D := (dC, dI)) (ci := 7) (v := .int 2) (C := rn_M) (T := ft_M) (N := 19) hx hb hts fw_M hown hK hP 0 rfl rfl 0 (by decide) (hts _ bw3_159) (fun _ h9 => h9) rfl dc_M_record_76 ?_
    refine lv_if_le (tgt := 84) hx hb dc_M_record_79 (by decide) (fun c_1 => ?_) (fun c_1 => ?_)
    · exact absurd c_1 (by decide)
    · refine lv_iconst (v := 0) hx hb dc_M_record_82 (by decide) ?_
      have hP9 := hP.sub (ws' := [(aM, .inr (7, [.int 2, .ref a1, .int (nI ks), .int (nI dn), .ref a2, .ref a3, .ref a4, .ref a5, .ref a6, .int (nI xa), .int ri, .int fa, .int fq, .int bg, .long tm, .int ka, .long kb, .int va, .long vb]))]) [0] rfl
      have hD9 := hD.sub (ws' := [(aM, .inr (7, [.int 2, .ref a1, .int (nI ks), .int (nI dn), .ref a2, .ref a3, .ref a4, .ref a5, .ref a6, .int (nI xa), .int ri, .int fa, .int fq, .int bg, .long tm, .int ka, .long kb, .int va, .long vb]))]) [0] (by decide) rfl
      have hK9 := hK.sub (tys' := []) [] rfl
      exact W.iret (v := 0) hx hb hr (fun t ht hW => ⟨⟨0, (), rfl, rfl, by rw [ht]; exact hP9, va_K.moved hW.alike hK9, hD9⟩, hS.F ht⟩) hS.2.2 dc_M_record_83
  · refine lv_icmp_lt (tgt := 51) hx hb dc_M_record_3 (by decide) (fun c_2 => ?_) (fun c_2 => ?_)
    · exfalso; exact absurd c_2 (nI_nlt (b := 1) h1 (by omega))
    · refine lv_iload_n hx hb dc_M_record_6 rfl (lv_at hl 1 rfl) ?_
      refine lv_bipush (v := 100) hx hb dc_M_record_7 (by decide) ?_
      refine lv_icmp_gt (tgt := 51) hx hb dc_M_record_9 (by decide) (fun c_3 => ?_) (fun c_3 => ?_)
      · exfalso; exact absurd c_3 (nI_nlt (a := 100) h2 (by omega))
      · refine lv_iload hx hb dc_M_record_12 (lv_at hl 3 rfl) ?_
        refine lv_iconst (v := (-1)) hx hb dc_M_record_14 (by decide) ?_
        refine lv_icmp_lt (tgt := 51) hx hb dc_M_record_15 (by decide) (fun c_4 => ?_) (fun c_4 => ?_)
        · exfalso; exact hk0 c_4
        · refine lv_iload hx hb dc_M_record_18 (lv_at hl 3 rfl) ?_
          refine lv_bipush (v := 8) hx hb dc_M_record_20 (by decide) ?_
          refine lv_icmp_gt (tgt := 51) hx hb dc_M_record_22 (by decide) (fun c_5 => ?_) (fun c_5 => ?_)
          · exfalso; exact hk8 c_5
          · refine lv_iload hx hb dc_M_record_25 (lv_at hl 5 rfl) ?_
            refine lv_iconst (v := (-1)) hx hb dc_M_record_27 (by decide) ?_
            refine lv_icmp_lt (tgt := 51) hx hb dc_M_record_28 (by decide) (fun c_6 => ?_) (fun c_6 => ?_)
            · exfalso; exact hv0 c_6
            · refine lv_iload hx hb dc_M_record_31 (lv_at hl 5 rfl) ?_
              refine lv_sipush (v := 300) hx hb dc_M_record_33 (by decide) ?_
              refine lv_icmp_gt (tgt := 51) hx hb dc_M_record_36 (by decide) (fun c_7 => ?_) (fun c_7 => ?_)
              · exfalso; exact hv3 c_7
              · refine lv_iload hx hb dc_M_record_39 (lv_at hl 6 rfl) ?_
                refine lv_if_lt (tgt := 51) hx hb dc_M_record_41 (by decide) (fun c_8 => ?_) (fun c_8 => ?_)
                · exfalso; exact hl0 c_8
                · refine lv_iload hx hb dc_M_record_44 (lv_at hl 6 rfl) ?_
                  refine lv_ldc (v := 1000000) hx hb hown (hts _ bw4_29) dc_M_record_46 ?_
                  refine lv_icmp_le (tgt := 55) hx hb dc_M_record_48 (by decide) (fun c_9 => ?_) (fun c_9 => ?_)
                  · refine lv_aload_n hx hb dc_M_record_55 rfl (lv_at hl 0 rfl) ?_
                    refine va_get (D := (dC, dI)) (ci := 7) (v := .int (nI dn)) (C := rn_M) (T := ft_M) (N := 19) hx hb hts fw_M hown hK hP 0 rfl rfl 3 (by decide) (hts _ bw3_162) (fun _ h9 => h9) rfl dc_M_record_56 ?_
                    refine lv_iload_n hx hb dc_M_record_59 rfl (lv_at hl 1 rfl) ?_
                    refine lv_iadd hx hb dc_M_record_60 ?_
                    refine lv_sipush (v := 1000) hx hb dc_M_record_61 (by decide) ?_
                    refine lv_icmp_le (tgt := 71) hx hb dc_M_record_64 (by decide) (fun c_10 => ?_) (fun c_10 => ?_)
                    · exfalso; exact absurd ((nI_leI (a := dn + j) (b := 1000) (by omega) (by omega)).mp (by rw [← nI_add]; exact c_10)) (by omega)
                    · refine lv_iconst (v := 2) hx hb dc_M_record_67 (by decide) ?_
                      refine lv_goto (tgt := 72) hx hb dc_M_record_68 (by decide) ?_
                      exact hJ72 () _ _ _ ⟨hP.sub [0] rfl, hD.sub [0] (by decide) rfl, hS, lv_sub hl [0, 1, 2, 3, 4, 5, 6] rfl⟩
                  · exact absurd (hl1) c_9

set_option maxHeartbeats 1000000 in
set_option maxRecDepth 100000 in
theorem c_M_record_ok (l : Launch) (dC : Nat → ClassId) (dI : Nat → Nat → Nat) (sz : Nat) (aM : Nat) (co : Int32) (a1 : Nat) (ks : Nat) (dn : Nat) (a2 : Nat) (a3 : Nat) (a4 : Nat) (a5 : Nat) (a6 : Nat) (xa : Nat) (ri : Int32) (fa : Int32) (fq : Int32) (bg : Int32) (tm : Int64) (ka : Int32) (kb : Int64) (va : Int32) (vb : Int64) (c2_ : ClassId) (c3_ : ClassId) (c4_ : ClassId) (c5_ : ClassId) (c6_ : ClassId) (gk : Nat → Int64) (gkb : Nat → Int32) (gv : Nat → Int64) (gvb : Nat → Int32) (gl : Nat → Int32) (j : Nat) (ky : Int64) (xkb : Int32) (vy : Int64) (xvb : Int32) (la : Int32) (h1 : 1 ≤ j) (h2 : j ≤ 100) (hk0 : ¬ xkb < -1) (hk8 : ¬ 8 < xkb) (hv0 : ¬ xvb < -1) (hv3 : ¬ 300 < xvb) (hl0 : ¬ la < 0) (hl1 : la ≤ 1000000) (hn : dn + j ≤ 1000) (hd : ∀ q, q < dn → dOk (gkb q) (gvb q) (gl q)) (hwt : wtN (flC gkb dn xkb j) (flC gvb dn xvb j) (flP gl dn la j) (dn + j) ≤ 16000) : Met l my_M_record (wB my_M_record cd_M_record 11 (some .int)) ({ frames := 3, cells := 0, slots := 0, locals := 68 }) (va_Pc [.ref aM, .int (nI j), .long ky, .int xkb, .long vy, .int xvb, .int la] (PcW (dC, dI) [(aM, .inr (7, [.int co, .ref a1, .int (nI ks), .int (nI dn), .ref a2, .ref a3, .ref a4, .ref a5, .ref a6, .int (nI xa), .int ri, .int fa, .int fq, .int bg, .long tm, .int ka, .long kb, .int va, .long vb])), (a2, .inl (c2_, 1000, .inr (.inl gk))), (a3, .inl (c3_, 1000, .inl gkb)), (a4, .inl (c4_, 1000, .inr (.inl gv))), (a5, .inl (c5_, 1000, .inl gvb)), (a6, .inl (c6_, 1000, .inl gl))] [(c2_, .long), (c3_, .int), (c4_, .long), (c5_, .int), (c6_, .int)] sz)) (va_Qi (fun (r : Int32) => fun (_ : Unit) => r = nI (dn + j)) (fun _ => EnW (dC, dI) (va_A [(aM, .inr (7, [.int co, .ref a1, .int (nI ks), .int (nI dn), .ref a2, .ref a3, .ref a4, .ref a5, .ref a6, .int (nI xa), .int ri, .int fa, .int fq, .int bg, .long tm, .int ka, .long kb, .int va, .long vb])), (a2, .inl (c2_, 1000, .inr (.inl gk))), (a3, .inl (c3_, 1000, .inl gkb)), (a4, .inl (c4_, 1000, .inr (.inl gv))), (a5, .inl (c5_, 1000, .inl gvb)), (a6, .inl (c6_, 1000, .inl gl))] sz) [(aM, .inr (7, [.int 0, .ref a1, .int (nI ks), .int (nI (dn + j)), .ref a2, .ref a3, .ref a4, .ref a5, .ref a6, .int (nI xa), .int ri, .int fa, .int fq, .int bg, .long tm, .int ka, .long kb, .int va, .long vb])), (a2, .inl (c2_, 1000, .inr (.inl (flL gk dn ky j)))), (a3, .inl (c3_, 1000, .inl (flC gkb dn xkb j))), (a4, .inl (c4_, 1000, .inr (.inl (flL gv dn vy j)))), (a5, .inl (c5_, 1000, .inl (flC gvb dn xvb j))), (a6, .inl (c6_, 1000, .inl (flP gl dn la j)))] [(c2_, .long), (c3_, .int), (c4_, .long), (c5_, .int), (c6_, .int)]) (va_A [(aM, .inr (7, [.int co, .ref a1, .int (nI ks), .int (nI dn), .ref a2, .ref a3, .ref a4, .ref a5, .ref a6, .int (nI xa), .int ri, .int fa, .int fq, .int bg, .long tm, .int ka, .long kb, .int va, .long vb])), (a2, .inl (c2_, 1000, .inr (.inl gk))), (a3, .inl (c3_, 1000, .inl gkb)), (a4, .inl (c4_, 1000, .inr (.inl gv))), (a5, .inl (c5_, 1000, .inl gvb)), (a6, .inl (c6_, 1000, .inl gl))] sz)) 0 0 (va_A [(aM, .inr (7, [.int co, .ref a1, .int (nI ks), .int (nI dn), .ref a2, .ref a3, .ref a4, .ref a5, .ref a6, .int (nI xa), .int ri, .int fa, .int fq, .int bg, .long tm, .int ka, .long kb, .int va, .long vb])), (a2, .inl (c2_, 1000, .inr (.inl gk))), (a3, .inl (c3_, 1000, .inl gkb)), (a4, .inl (c4_, 1000, .inr (.inl gv))), (a5, .inl (c5_, 1000, .inl gvb)), (a6, .inl (c6_, 1000, .inl gl))] sz) := by
  refine Met.ofW (cc := cd_M_record) (maxL := 11) (ret := (some .int)) (by decide) rfl ?_
  intro p e s m args below meth c s₁ B hml hv
  obtain ⟨rfl, hsz, hP, hK, hD0, hG⟩ := hv
  have hx := B.exec
  have hb := B.bytes
  have hr := B.returns
  have hts := fun (w : Cond) (h : w ∈ bigT) => atoms_spec (ws := (wB my_M_record cd_M_record 11 (some .int))) B.pre w (List.mem_cons_of_mem _ h)
  have hown : s.vm.findClass rn_M = some m.cls := findClass_of_methodNamed B.named
  have hlocks := B.notSynchronized
  subst hsz
  have hD := hD0.self (sz := s.heap.size)
  generalize hAe : va_A [(aM, .inr (7, [.int co, .ref a1, .int (nI ks), .int (nI dn), .ref a2, .ref a3, .ref a4, .ref a5, .ref a6, .int (nI xa), .int ri, .int fa, .int fq, .int bg, .long tm, .int ka, .long kb, .int va, .long vb])), (a2, .inl (c2_, 1000, .inr (.inl gk))), (a3, .inl (c3_, 1000, .inl gkb)), (a4, .inl (c4_, 1000, .inr (.inl gv))), (a5, .inl (c5_, 1000, .inl gvb)), (a6, .inl (c6_, 1000, .inl gl))] s.heap.size = A at hD hG ⊢
  have hA : ∀ q : Nat, s.heap.size ≤ q → A q := fun q h => by rw [← hAe]; exact Or.inr h
  have hS : va_S A s.heap s.heap [] := va_S.rf
  have hP : va_P (dC, dI) vwCl [(aM, .inr (7, [.int co, .ref a1, .int (nI ks), .int (nI dn), .ref a2, .ref a3, .ref a4, .ref a5, .ref a6, .int (nI xa), .int ri, .int fa, .int fq, .int bg, .long tm, .int ka, .long kb, .int va, .long vb])), (a2, .inl (c2_, 1000, .inr (.inl gk))), (a3, .inl (c3_, 1000, .inl gkb)), (a4, .inl (c4_, 1000, .inr (.inl gv))), (a5, .inl (c5_, 1000, .inl gvb)), (a6, .inl (c6_, 1000, .inl gl))] s.heap := hP
  have hl := lv_entry ([.ref aM, .int (nI j), .long ky, .int xkb, .long vy, .int xvb, .int la]) (n := 11) (Nat.le_of_ble_eq_true rfl)
  rw [lg_entry_eq]
  generalize (lg_sl ([.ref aM, .int (nI j), .long ky, .int xkb, .long vy, .int xvb, .int la]) ++ List.replicate (11 - (lg_sl ([.ref aM, .int (nI j), .long ky, .int xkb, .long vy, .int xvb, .int la])).length) Slot.unset).toArray = ls at hl ⊢
  have hl : lv_has ls 11 [(0, .ref aM), (1, .int (nI j)), (2, .long ky), (4, .int xkb), (5, .long vy), (7, .int xvb), (8, .int la)] := hl
  refine lv_aload_n hx hb dc_M_record_0 rfl (lv_at hl 0 rfl) ?_
  refine lv_iload_n hx hb dc_M_record_1 rfl (lv_at hl 1 rfl) ?_
  refine lv_iconst (v := 1) hx hb dc_M_record_2 (by decide) ?_
  refine w_join (σ := Unit) (fun v72_ H locs ls => va_P (dC, dI) vwCl [(aM, .inr (7, [.int co, .ref a1, .int (nI ks), .int (nI dn), .ref a2, .ref a3, .ref a4, .ref a5, .ref a6, .int (nI xa), .int ri, .int fa, .int fq, .int bg, .long tm, .int ka, .long kb, .int va, .long vb])), (a2, .inl (c2_, 1000, .inr (.inl gk))), (a3, .inl (c3_, 1000, .inl gkb)), (a4, .inl (c4_, 1000, .inr (.inl gv))), (a5, .inl (c5_, 1000, .inl gvb)), (a6, .inl (c6_, 1000, .inl gl))] H ∧ va_D A [(aM, .inr (7, [.int co, .ref a1, .int (nI ks), .int (nI dn), .ref a2, .ref a3, .ref a4, .ref a5, .ref a6, .int (nI xa), .int ri, .int fa, .int fq, .int bg, .long tm, .int ka, .long kb, .int va, .long vb])), (a2, .inl (c2_, 1000, .inr (.inl gk))), (a3, .inl (c3_, 1000, .inl gkb)), (a4, .inl (c4_, 1000, .inr (.inl gv))), (a5, .inl (c5_, 1000, .inl gvb)), (a6, .inl (c6_, 1000, .inl gl))] ∧ va_S A s.heap H locs ∧ lv_has ls 11 [(0, .ref aM), (1, .int (nI j)), (2, .long ky), (4, .int xkb), (5, .long vy), (7, .int xvb), (8, .int la)]) (fun v72_ ls => F0 m 72 ls [.int 0, .ref aM]) ?_ (fun hJ72 => ?_)
  · rintro v72_ H locs ls ⟨hP, hD, hS, hl⟩
    have hP : va_P (dC, dI) vwCl [(aM, .inr (7, [.int co, .ref a1, .int (nI ks), .int (nI dn), .ref a2, .ref a3, .ref a4, .ref a5, .ref a6, .int (nI xa), .int ri, .int fa, .int fq, .int bg, .long tm, .int ka, .long kb, .int va, .long vb])), (a2, .inl (c2_, 1000, .inr (.inl gk))), (a3, .inl (c3_, 1000, .inl gkb)), (a4, .inl (c4_, 1000, .inr (.inl gv))), (a5, .inl (c5_, 1000, .inl gvb)), (a6, .inl (c6_, 1000, .inl gl))] H := hP
    have hD : va_D A [(aM, .inr (7, [.int co, .ref a1, .int (nI ks), .int (nI dn), .ref a2, .ref a3, .ref a4, .ref a5, .ref a6, .int (nI xa), .int ri, .int fa, .int fq, .int bg, .long tm, .int ka, .long kb, .int va, .long vb])), (a2, .inl (c2_, 1000, .inr (.inl gk))), (a3, .inl (c3_, 1000, .inl gkb)), (a4, .inl (c4_, 1000, .inr (.inl gv))), (a5, .inl (c5_, 1000, .inl gvb)), (a6, .inl (c6_, 1000, .inl gl))] := hD
    have hl : lv_has ls 11 [(0, .ref aM), (1, .int (nI j)), (2, .long ky), (4, .int xkb), (5, .long vy), (7, .int xvb), (8, .int la)] := hl
    show W _ _ _ _ _ _ _ _ _ _ _ _ _ _ _ (F0 m 72 ls [.int 0, .ref aM])
    refine va_put (D := (dC, dI)) (ci := 7) (v := .int 0) (ty := .int) (C := rn_M) (T := ft_M) (N := 19) hx hb hts fw_M fy_M fo_M fn_M hown hK hP hD hS 0 rfl rfl 0 (by decide) (hts _ bw3_159) (fun _ h9 => h9) rfl (by decide +kernel) rfl rfl (Nat.le_of_ble_eq_true rfl) dc_M_record_72 (fun H locs hP hD hS => ?_)
    have hP : va_P (dC, dI) vwCl [(aM, .inr (7, [.int 0, .ref a1, .int (nI ks), .int (nI dn), .ref a2, .ref a3, .ref a4, .ref a5, .ref a6, .int (nI xa), .int ri, .int fa, .int fq, .int bg, .long tm, .int ka, .long kb, .int va, .long vb])), (a2, .inl (c2_, 1000, .inr (.inl gk))), (a3, .inl (c3_, 1000, .inl gkb)), (a4, .inl (c4_, 1000, .inr (.inl gv))), (a5, .inl (c5_, 1000, .inl gvb)), (a6, .inl (c6_, 1000, .inl gl))] H := hP
    have hD : va_D A [(aM, .inr (7, [.int 0, .ref a1, .int (nI ks), .int (nI dn), .ref a2, .ref a3, .ref a4, .ref a5, .ref a6, .int (nI xa), .int ri, .int fa, .int fq, .int bg, .long tm, .int ka, .long kb, .int va, .long vb])), (a2, .inl (c2_, 1000, .inr (.inl gk))), (a3, .inl (c3_, 1000, .inl gkb)), (a4, .inl (c4_, 1000, .inr (.inl gv))), (a5, .inl (c5_, 1000, .inl gvb)), (a6, .inl (c6_, 1000, .inl gl))] := hD
    refine lv_aload_n hx hb dc_M_record_75 rfl (lv_at hl 0 rfl) ?_
    refine va_get (D := (dC, dI)) (ci := 7) (v := .int 0) (C := rn_M) (T := ft_M) (N := 19) hx hb hts fw_M hown hK hP 0 rfl rfl 0 (by decide) (hts _ bw3_159) (fun _ h9 => h9) rfl dc_M_record_76 ?_
    refine lv_if_le (tgt := 84) hx hb dc_M_record_79 (by decide) (fun c_1 => ?_) (fun c_1 => ?_)
    · refine lv_aload_n hx hb dc_M_record_84 rfl (lv_at hl 0 rfl) ?_
      refine va_get (D := (dC, dI)) (ci := 7) (v := .int (nI dn)) (C := rn_M) (T := ft_M) (N := 19) hx hb hts fw_M hown hK hP 0 rfl rfl 3 (by decide) (hts _ bw3_162) (fun _ h9 => h9) rfl dc_M_record_85 ?_
      refine lv_istore (lv' := [(9, .int (nI dn)), (0, .ref aM), (1, .int (nI j)), (2, .long ky), (4, .int xkb), (5, .long vy), (7, .int xvb), (8, .int la)]) hx hb dc_M_record_88 hl (by decide) rfl (fun ls hl => ?_)
      refine lv_iconst (v := 0) hx hb dc_M_record_90 (by decide) ?_
      refine lv_istore (lv' := [(10, .int 0), (9, .int (nI dn)), (0, .ref aM), (1, .int (nI j)), (2, .long ky), (4, .int xkb), (5, .long vy), (7, .int xvb), (8, .int la)]) hx hb dc_M_record_91 hl (by decide) rfl (fun ls hl => ?_)
      have e_2 : (nI dn) = (nI (dn + 0)) := by rfl
      have e_3 : gk = (flL gk dn ky 0) := by rfl
      have e_4 : gkb = (flC gkb dn xkb 0) := by rfl
      have e_5 : gv = (flL gv dn vy 0) := by rfl
      have e_6 : gvb = (flC gvb dn xvb 0) := by rfl
      have e_7 : gl = (flP gl dn la 0) := by rfl
      have hP := wP_eq (ws' := [(aM, .inr (7, [.int 0, .ref a1, .int (nI ks), .int (nI (dn + 0)), .ref a2, .ref a3, .ref a4, .ref a5, .ref a6, .int (nI xa), .int ri, .int fa, .int fq, .int bg, .long tm, .int ka, .long kb, .int va, .long vb])), (a2, .inl (c2_, 1000, .inr (.inl (flL gk dn ky 0)))), (a3, .inl (c3_, 1000, .inl (flC gkb dn xkb 0))), (a4, .inl (c4_, 1000, .inr (.inl (flL gv dn vy 0)))), (a5, .inl (c5_, 1000, .inl (flC gvb dn xvb 0))), (a6, .inl (c6_, 1000, .inl (flP gl dn la 0)))]) hP (cg6 (fun y0 y1 y2 y3 y4 y5 => ([(aM, .inr (7, [.int 0, .ref a1, .int (nI ks), .int y0, .ref a2, .ref a3, .ref a4, .ref a5, .ref a6, .int (nI xa), .int ri, .int fa, .int fq, .int bg, .long tm, .int ka, .long kb, .int va, .long vb])), (a2, .inl (c2_, 1000, .inr (.inl y1))), (a3, .inl (c3_, 1000, .inl y2)), (a4, .inl (c4_, 1000, .inr (.inl y3))), (a5, .inl (c5_, 1000, .inl y4)), (a6, .inl (c6_, 1000, .inl y5))] : va_W)) e_2 e_3 e_4 e_5 e_6 e_7)
      have hD := wD_eq (ws' := [(aM, .inr (7, [.int 0, .ref a1, .int (nI ks), .int (nI (dn + 0)), .ref a2, .ref a3, .ref a4, .ref a5, .ref a6, .int (nI xa), .int ri, .int fa, .int fq, .int bg, .long tm, .int ka, .long kb, .int va, .long vb])), (a2, .inl (c2_, 1000, .inr (.inl (flL gk dn ky 0)))), (a3, .inl (c3_, 1000, .inl (flC gkb dn xkb 0))), (a4, .inl (c4_, 1000, .inr (.inl (flL gv dn vy 0)))), (a5, .inl (c5_, 1000, .inl (flC gvb dn xvb 0))), (a6, .inl (c6_, 1000, .inl (flP gl dn la 0)))]) hD (cg6 (fun y0 y1 y2 y3 y4 y5 => ([(aM, .inr (7, [.int 0, .ref a1, .int (nI ks), .int y0, .ref a2, .ref a3, .ref a4, .ref a5, .ref a6, .int (nI xa), .int ri, .int fa, .int fq, .int bg, .long tm, .int ka, .long kb, .int va, .long vb])), (a2, .inl (c2_, 1000, .inr (.inl y1))), (a3, .inl (c3_, 1000, .inl y2)), (a4, .inl (c4_, 1000, .inr (.inl y3))), (a5, .inl (c5_, 1000, .inl y4)), (a6, .inl (c6_, 1000, .inl y5))] : va_W)) e_2 e_3 e_4 e_5 e_6 e_7)
      refine w_loop (σ := Nat) (fun i H locs ls => i ≤ j ∧ va_P (dC, dI) vwCl [(aM, .inr (7, [.int 0, .ref a1, .int (nI ks), .int (nI (dn + i)), .ref a2, .ref a3, .ref a4, .ref a5, .ref a6, .int (nI xa), .int ri, .int fa, .int fq, .int bg, .long tm, .int ka, .long kb, .int va, .long vb])), (a2, .inl (c2_, 1000, .inr (.inl (flL gk dn ky i)))), (a3, .inl (c3_, 1000, .inl (flC gkb dn xkb i))), (a4, .inl (c4_, 1000, .inr (.inl (flL gv dn vy i)))), (a5, .inl (c5_, 1000, .inl (flC gvb dn xvb i))), (a6, .inl (c6_, 1000, .inl (flP gl dn la i)))] H ∧ va_D A [(aM, .inr (7, [.int 0, .ref a1, .int (nI ks), .int (nI (dn + i)), .ref a2, .ref a3, .ref a4, .ref a5, .ref a6, .int (nI xa), .int ri, .int fa, .int fq, .int bg, .long tm, .int ka, .long kb, .int va, .long vb])), (a2, .inl (c2_, 1000, .inr (.inl (flL gk dn ky i)))), (a3, .inl (c3_, 1000, .inl (flC gkb dn xkb i))), (a4, .inl (c4_, 1000, .inr (.inl (flL gv dn vy i)))), (a5, .inl (c5_, 1000, .inl (flC gvb dn xvb i))), (a6, .inl (c6_, 1000, .inl (flP gl dn la i)))] ∧ va_S A s.heap H locs ∧ lv_has ls 11 [(10, .int (nI i)), (9, .int (nI dn)), (0, .ref aM), (1, .int (nI j)), (2, .long ky), (4, .int xkb), (5, .long vy), (7, .int xvb), (8, .int la)]) (fun i ls => F0 m 93 ls []) (fun _ => 0) (fun _ => 0) (fun i => j - i) ?_ 0 _ _ _ ⟨by show 0 ≤ j; omega, hP.sub [0, 1, 2, 3, 4, 5] rfl, hD.sub [0, 1, 2, 3, 4, 5] (by decide) rfl, hS, lv_sub hl [0, 1, 2, 3, 4, 5, 6, 7, 8] rfl⟩
      rintro i H locs ls ⟨hi, hP, hD, hS, hl⟩ ih93
      have hP : va_P (dC, dI) vwCl [(aM, .inr (7, [.int 0, .ref a1, .int (nI ks), .int (nI (dn + i)), .ref a2, .ref a3, .ref a4, .ref a5, .ref a6, .int (nI xa), .int ri, .int fa, .int fq, .int bg, .long tm, .int ka, .long kb, .int va, .long vb])), (a2, .inl (c2_, 1000, .inr (.inl (flL gk dn ky i)))), (a3, .inl (c3_, 1000, .inl (flC gkb dn xkb i))), (a4, .inl (c4_, 1000, .inr (.inl (flL gv dn vy i)))), (a5, .inl (c5_, 1000, .inl (flC gvb dn xvb i))), (a6, .inl (c6_, 1000, .inl (flP gl dn la i)))] H := hP
      have hD : va_D A [(aM, .inr (7, [.int 0, .ref a1, .int (nI ks), .int (nI (dn + i)), .ref a2, .ref a3, .ref a4, .ref a5, .ref a6, .int (nI xa), .int ri, .int fa, .int fq, .int bg, .long tm, .int ka, .long kb, .int va, .long vb])), (a2, .inl (c2_, 1000, .inr (.inl (flL gk dn ky i)))), (a3, .inl (c3_, 1000, .inl (flC gkb dn xkb i))), (a4, .inl (c4_, 1000, .inr (.inl (flL gv dn vy i)))), (a5, .inl (c5_, 1000, .inl (flC gvb dn xvb i))), (a6, .inl (c6_, 1000, .inl (flP gl dn la i)))] := hD
      have hl : lv_has ls 11 [(10, .int (nI i)), (9, .int (nI dn)), (0, .ref aM), (1, .int (nI j)), (2, .long ky), (4, .int xkb), (5, .long vy), (7, .int xvb), (8, .int la)] := hl
      show W _ _ _ _ _ _ _ _ _ _ _ _ _ _ _ (F0 m 93 ls [])
      have hi : i ≤ j := hi
      refine lv_iload hx hb dc_M_record_93 (lv_at hl 0 rfl) ?_
      refine lv_iload_n hx hb dc_M_record_95 rfl (lv_at hl 3 rfl) ?_
      refine lv_icmp_ge (tgt := 180) hx hb dc_M_record_96 (by decide) (fun c_8 => ?_) (fun c_8 => ?_)
      · have hij : i = j := by have := (nI_leI (by omega) (by omega)).mp c_8; omega
        have hd9 := hd_new (j := i) hd (by omega) hk0 (Int32.not_lt.mp hk8) hv0 (Int32.not_lt.mp hv3) hl0 hl1
        have hwl := wtN_le hd9
        refine lv_aload_n hx hb dc_M_record_180 rfl (lv_at hl 2 rfl) ?_
        refine kc_i (wc := [(aM, .inr (7, [.int 0, .ref a1, .int (nI ks), .int (nI (dn + i)), .ref a2, .ref a3, .ref a4, .ref a5, .ref a6, .int (nI xa), .int ri, .int fa, .int fq, .int bg, .long tm, .int ka, .long kb, .int va, .long vb])), (a3, .inl (c3_, 1000, .inl (flC gkb dn xkb i))), (a5, .inl (c5_, 1000, .inl (flC gvb dn xvb i))), (a6, .inl (c6_, 1000, .inl (flP gl dn la i)))]) (wr := [(a2, .inl (c2_, 1000, .inr (.inl (flL gk dn ky i)))), (a4, .inl (c4_, 1000, .inr (.inl (flL gv dn vy i))))]) hP hD hS hA [0, 2, 4, 5] [1, 3] rfl rfl (by decide) (by decide) (va_runV (As := []) (rest := []) ⟨hx, hb, hml, hown, hts⟩ (c_M_weight l dC dI _ aM 0 a1 ks (dn + i) a2 a3 a4 a5 a6 xa ri fa fq bg tm ka kb va vb c3_ c5_ c6_ (flC gkb dn xkb i) (flC gvb dn xvb i) (flP gl dn la i) (by omega) (hd9)) (kw_V 0 hts bw4_30 bw4_32 bws_16 bw1_9 bw4_33 rfl rfl (by decide +kernel) ⟨Nat.le_of_ble_eq_true rfl, Nat.le_of_ble_eq_true rfl⟩) (kp_V (wc := [(aM, .inr (7, [.int 0, .ref a1, .int (nI ks), .int (nI (dn + i)), .ref a2, .ref a3, .ref a4, .ref a5, .ref a6, .int (nI xa), .int ri, .int fa, .int fq, .int bg, .long tm, .int ka, .long kb, .int va, .long vb])), (a3, .inl (c3_, 1000, .inl (flC gkb dn xkb i))), (a5, .inl (c5_, 1000, .inl (flC gvb dn xvb i))), (a6, .inl (c6_, 1000, .inl (flP gl dn la i)))]) (tc := [(c3_, .int), (c5_, .int), (c6_, .int)]) (As := []) hG hS hA hP hD hK [0, 2, 4, 5] rfl (by decide) rfl [1, 3, 4] rfl (ci := 7) (q0 := 0) rfl rfl) rfl rfl hl.1 rfl (lv_room (Nat.le_of_ble_eq_true rfl)) dc_M_record_181 ⟨Nat.zero_le _, Nat.zero_le _⟩) (fun r_9 _ H locs hw hP hD hK1 hS => ?_)
        have hw : nI (wtN (flC gkb dn xkb i) (flC gvb dn xvb i) (flP gl dn la i) (dn + i)) = r_9 := hw.symm
        subst hw
        have hP : va_P (dC, dI) vwCl [(a2, .inl (c2_, 1000, .inr (.inl (flL gk dn ky i)))), (a4, .inl (c4_, 1000, .inr (.inl (flL gv dn vy i)))), (aM, .inr (7, [.int 0, .ref a1, .int (nI ks), .int (nI (dn + i)), .ref a2, .ref a3, .ref a4, .ref a5, .ref a6, .int (nI xa), .int ri, .int fa, .int fq, .int bg, .long tm, .int ka, .long kb, .int va, .long vb])), (a3, .inl (c3_, 1000, .inl (flC gkb dn xkb i))), (a5, .inl (c5_, 1000, .inl (flC gvb dn xvb i))), (a6, .inl (c6_, 1000, .inl (flP gl dn la i)))] H := hP
        have hD : va_D A [(a2, .inl (c2_, 1000, .inr (.inl (flL gk dn ky i)))), (a4, .inl (c4_, 1000, .inr (.inl (flL gv dn vy i)))), (aM, .inr (7, [.int 0, .ref a1, .int (nI ks), .int (nI (dn + i)), .ref a2, .ref a3, .ref a4, .ref a5, .ref a6, .int (nI xa), .int ri, .int fa, .int fq, .int bg, .long tm, .int ka, .long kb, .int va, .long vb])), (a3, .inl (c3_, 1000, .inl (flC gkb dn xkb i))), (a5, .inl (c5_, 1000, .inl (flC gvb dn xvb i))), (a6, .inl (c6_, 1000, .inl (flP gl dn la i)))] := hD
        refine lv_sipush (v := 16000) hx hb dc_M_record_184 (by decide) ?_
        refine lv_icmp_le (tgt := 203) hx hb dc_M_record_187 (by decide) (fun c_10 => ?_) (fun c_10 => ?_)
        · refine lv_aload_n hx hb dc_M_record_203 rfl (lv_at hl 2 rfl) ?_
          refine va_get (D := (dC, dI)) (ci := 7) (v := .int (nI (dn + i))) (C := rn_M) (T := ft_M) (N := 19) hx hb hts fw_M hown hK hP 2 rfl rfl 3 (by decide) (hts _ bw3_162) (fun _ h9 => h9) rfl dc_M_record_204 ?_
          have e_11 : (nI (dn + i)) = (nI (dn + j)) := by rw [hij]
          have e_12 : (flL gk dn ky i) = (flL gk dn ky j) := by rw [hij]
          have e_13 : (flC gkb dn xkb i) = (flC gkb dn xkb j) := by rw [hij]
          have e_14 : (flL gv dn vy i) = (flL gv dn vy j) := by rw [hij]
          have e_15 : (flC gvb dn xvb i) = (flC gvb dn xvb j) := by rw [hij]
          have e_16 : (flP gl dn la i) = (flP gl dn la j) := by rw [hij]
          have hP := wP_eq (ws' := [(a2, .inl (c2_, 1000, .inr (.inl (flL gk dn ky j)))), (a4, .inl (c4_, 1000, .inr (.inl (flL gv dn vy j)))), (aM, .inr (7, [.int 0, .ref a1, .int (nI ks), .int (nI (dn + j)), .ref a2, .ref a3, .ref a4, .ref a5, .ref a6, .int (nI xa), .int ri, .int fa, .int fq, .int bg, .long tm, .int ka, .long kb, .int va, .long vb])), (a3, .inl (c3_, 1000, .inl (flC gkb dn xkb j))), (a5, .inl (c5_, 1000, .inl (flC gvb dn xvb j))), (a6, .inl (c6_, 1000, .inl (flP gl dn la j)))]) hP (cg6 (fun y0 y1 y2 y3 y4 y5 => ([(a2, .inl (c2_, 1000, .inr (.inl y1))), (a4, .inl (c4_, 1000, .inr (.inl y3))), (aM, .inr (7, [.int 0, .ref a1, .int (nI ks), .int y0, .ref a2, .ref a3, .ref a4, .ref a5, .ref a6, .int (nI xa), .int ri, .int fa, .int fq, .int bg, .long tm, .int ka, .long kb, .int va, .long vb])), (a3, .inl (c3_, 1000, .inl y2)), (a5, .inl (c5_, 1000, .inl y4)), (a6, .inl (c6_, 1000, .inl y5))] : va_W)) e_11 e_12 e_13 e_14 e_15 e_16)
          have hD := wD_eq (ws' := [(a2, .inl (c2_, 1000, .inr (.inl (flL gk dn ky j)))), (a4, .inl (c4_, 1000, .inr (.inl (flL gv dn vy j)))), (aM, .inr (7, [.int 0, .ref a1, .int (nI ks), .int (nI (dn + j)), .ref a2, .ref a3, .ref a4, .ref a5, .ref a6, .int (nI xa), .int ri, .int fa, .int fq, .int bg, .long tm, .int ka, .long kb, .int va, .long vb])), (a3, .inl (c3_, 1000, .inl (flC gkb dn xkb j))), (a5, .inl (c5_, 1000, .inl (flC gvb dn xvb j))), (a6, .inl (c6_, 1000, .inl (flP gl dn la j)))]) hD (cg6 (fun y0 y1 y2 y3 y4 y5 => ([(a2, .inl (c2_, 1000, .inr (.inl y1))), (a4, .inl (c4_, 1000, .inr (.inl y3))), (aM, .inr (7, [.int 0, .ref a1, .int (nI ks), .int y0, .ref a2, .ref a3, .ref a4, .ref a5, .ref a6, .int (nI xa), .int ri, .int fa, .int fq, .int bg, .long tm, .int ka, .long kb, .int va, .long vb])), (a3, .inl (c3_, 1000, .inl y2)), (a5, .inl (c5_, 1000, .inl y4)), (a6, .inl (c6_, 1000, .inl y5))] : va_W)) e_11 e_12 e_13 e_14 e_15 e_16)
          have hP9 := hP.sub (ws' := [(aM, .inr (7, [.int 0, .ref a1, .int (nI ks), .int (nI (dn + j)), .ref a2, .ref a3, .ref a4, .ref a5, .ref a6, .int (nI xa), .int ri, .int fa, .int fq, .int bg, .long tm, .int ka, .long kb, .int va, .long vb])), (a2, .inl (c2_, 1000, .inr (.inl (flL gk dn ky j)))), (a3, .inl (c3_, 1000, .inl (flC gkb dn xkb j))), (a4, .inl (c4_, 1000, .inr (.inl (flL gv dn vy j)))), (a5, .inl (c5_, 1000, .inl (flC gvb dn xvb j))), (a6, .inl (c6_, 1000, .inl (flP gl dn la j)))]) [2, 0, 3, 1, 4, 5] rfl
          have hD9 := hD.sub (ws' := [(aM, .inr (7, [.int 0, .ref a1, .int (nI ks), .int (nI (dn + j)), .ref a2, .ref a3, .ref a4, .ref a5, .ref a6, .int (nI xa), .int ri, .int fa, .int fq, .int bg, .long tm, .int ka, .long kb, .int va, .long vb])), (a2, .inl (c2_, 1000, .inr (.inl (flL gk dn ky j)))), (a3, .inl (c3_, 1000, .inl (flC gkb dn xkb j))), (a4, .inl (c4_, 1000, .inr (.inl (flL gv dn vy j)))), (a5, .inl (c5_, 1000, .inl (flC gvb dn xvb j))), (a6, .inl (c6_, 1000, .inl (flP gl dn la j)))]) [2, 0, 3, 1, 4, 5] (by decide) rfl
          have hK9 := hK.sub (tys' := [(c2_, .long), (c3_, .int), (c4_, .long), (c5_, .int), (c6_, .int)]) [0, 1, 2, 3, 4] rfl
          exact W.iret (v := (nI (dn + i))) hx hb hr (fun t ht hW => ⟨⟨(nI (dn + i)), (), rfl, by rw [hij], by rw [ht]; exact hP9, va_K.moved hW.alike hK9, hD9⟩, hS.F ht⟩) hS.2.2 dc_M_record_207
        · exact absurd (by rw [hij]; exact nI_le (b := 16000) hwt (by omega)) c_10
      · have hlt : i < j := by rcases Nat.lt_or_ge i j with h | h; exact h; exact absurd (nI_le h (by omega)) c_8
        refine lv_aload_n hx hb dc_M_record_99 rfl (lv_at hl 2 rfl) ?_
        refine va_get (D := (dC, dI)) (ci := 7) (v := .ref a2) (C := rn_M) (T := ft_M) (N := 19) hx hb hts fw_M hown hK hP 0 rfl rfl 4 (by decide) (hts _ bw3_163) (fun _ h9 => h9) rfl dc_M_record_100 ?_
        refine lv_aload_n hx hb dc_M_record_103 rfl (lv_at hl 2 rfl) ?_
        refine va_get (D := (dC, dI)) (ci := 7) (v := .int (nI (dn + i))) (C := rn_M) (T := ft_M) (N := 19) hx hb hts fw_M hown hK hP 0 rfl rfl 3 (by decide) (hts _ bw3_162) (fun _ h9 => h9) rfl dc_M_record_104 ?_
        refine lv_lload_n hx hb dc_M_record_107 rfl (lv_at hl 4 rfl) ?_
        refine lv_iload hx hb dc_M_record_108 (lv_at hl 0 rfl) ?_
        refine lv_i2l (v := (nI i).toInt64) hx hb dc_M_record_110 rfl ?_
        refine lv_ladd hx hb dc_M_record_111 ?_
        refine va_last hx hb hK hP hD hS 1 0 rfl rfl (vp_in_nI (by omega) (by omega)) dc_M_record_112 (fun H locs hP hD hS => ?_)
        rw [show (nI (dn + i)).toNatClampNeg = (dn + i) from nI_clamp (by omega)] at hP hD
        have hP : va_P (dC, dI) vwCl [(aM, .inr (7, [.int 0, .ref a1, .int (nI ks), .int (nI (dn + i)), .ref a2, .ref a3, .ref a4, .ref a5, .ref a6, .int (nI xa), .int ri, .int fa, .int fq, .int bg, .long tm, .int ka, .long kb, .int va, .long vb])), (a2, .inl (c2_, 1000, .inr (.inl (vp_updL (flL gk dn ky i) (dn + i) (ky + ((nI i).toInt64)))))), (a3, .inl (c3_, 1000, .inl (flC gkb dn xkb i))), (a4, .inl (c4_, 1000, .inr (.inl (flL gv dn vy i)))), (a5, .inl (c5_, 1000, .inl (flC gvb dn xvb i))), (a6, .inl (c6_, 1000, .inl (flP gl dn la i)))] H := hP
        have hD : va_D A [(aM, .inr (7, [.int 0, .ref a1, .int (nI ks), .int (nI (dn + i)), .ref a2, .ref a3, .ref a4, .ref a5, .ref a6, .int (nI xa), .int ri, .int fa, .int fq, .int bg, .long tm, .int ka, .long kb, .int va, .long vb])), (a2, .inl (c2_, 1000, .inr (.inl (vp_updL (flL gk dn ky i) (dn + i) (ky + ((nI i).toInt64)))))), (a3, .inl (c3_, 1000, .inl (flC gkb dn xkb i))), (a4, .inl (c4_, 1000, .inr (.inl (flL gv dn vy i)))), (a5, .inl (c5_, 1000, .inl (flC gvb dn xvb i))), (a6, .inl (c6_, 1000, .inl (flP gl dn la i)))] := hD
        refine lv_aload_n hx hb dc_M_record_113 rfl (lv_at hl 2 rfl) ?_
        refine va_get (D := (dC, dI)) (ci := 7) (v := .ref a3) (C := rn_M) (T := ft_M) (N := 19) hx hb hts fw_M hown hK hP 0 rfl rfl 5 (by decide) (hts _ bw3_164) (fun _ h9 => h9) rfl dc_M_record_114 ?_
        refine lv_aload_n hx hb dc_M_record_117 rfl (lv_at hl 2 rfl) ?_
        refine va_get (D := (dC, dI)) (ci := 7) (v := .int (nI (dn + i))) (C := rn_M) (T := ft_M) (N := 19) hx hb hts fw_M hown hK hP 0 rfl rfl 3 (by decide) (hts _ bw3_162) (fun _ h9 => h9) rfl dc_M_record_118 ?_
        refine lv_iload hx hb dc_M_record_121 (lv_at hl 5 rfl) ?_
        refine va_iast hx hb hK hP hD hS 2 1 rfl rfl (vp_in_nI (by omega) (by omega)) dc_M_record_123 (fun H locs hP hD hS => ?_)
        rw [show (nI (dn + i)).toNatClampNeg = (dn + i) from nI_clamp (by omega)] at hP hD
        have hP : va_P (dC, dI) vwCl [(aM, .inr (7, [.int 0, .ref a1, .int (nI ks), .int (nI (dn + i)), .ref a2, .ref a3, .ref a4, .ref a5, .ref a6, .int (nI xa), .int ri, .int fa, .int fq, .int bg, .long tm, .int ka, .long kb, .int va, .long vb])), (a2, .inl (c2_, 1000, .inr (.inl (vp_updL (flL gk dn ky i) (dn + i) (ky + ((nI i).toInt64)))))), (a3, .inl (c3_, 1000, .inl (upd (flC gkb dn xkb i) (dn + i) xkb))), (a4, .inl (c4_, 1000, .inr (.inl (flL gv dn vy i)))), (a5, .inl (c5_, 1000, .inl (flC gvb dn xvb i))), (a6, .inl (c6_, 1000, .inl (flP gl dn la i)))] H := hP
        have hD : va_D A [(aM, .inr (7, [.int 0, .ref a1, .int (nI ks), .int (nI (dn + i)), .ref a2, .ref a3, .ref a4, .ref a5, .ref a6, .int (nI xa), .int ri, .int fa, .int fq, .int bg, .long tm, .int ka, .long kb, .int va, .long vb])), (a2, .inl (c2_, 1000, .inr (.inl (vp_updL (flL gk dn ky i) (dn + i) (ky + ((nI i).toInt64)))))), (a3, .inl (c3_, 1000, .inl (upd (flC gkb dn xkb i) (dn + i) xkb))), (a4, .inl (c4_, 1000, .inr (.inl (flL gv dn vy i)))), (a5, .inl (c5_, 1000, .inl (flC gvb dn xvb i))), (a6, .inl (c6_, 1000, .inl (flP gl dn la i)))] := hD
        refine lv_aload_n hx hb dc_M_record_124 rfl (lv_at hl 2 rfl) ?_
        refine va_get (D := (dC, dI)) (ci := 7) (v := .ref a4) (C := rn_M) (T := ft_M) (N := 19) hx hb hts fw_M hown hK hP 0 rfl rfl 6 (by decide) (hts _ bw3_165) (fun _ h9 => h9) rfl dc_M_record_125 ?_
        refine lv_aload_n hx hb dc_M_record_128 rfl (lv_at hl 2 rfl) ?_
        refine va_get (D := (dC, dI)) (ci := 7) (v := .int (nI (dn + i))) (C := rn_M) (T := ft_M) (N := 19) hx hb hts fw_M hown hK hP 0 rfl rfl 3 (by decide) (hts _ bw3_162) (fun _ h9 => h9) rfl dc_M_record_129 ?_
        refine lv_lload hx hb dc_M_record_132 (lv_at hl 6 rfl) ?_
        refine lv_iload hx hb dc_M_record_134 (lv_at hl 0 rfl) ?_
        refine lv_i2l (v := (nI i).toInt64) hx hb dc_M_record_136 rfl ?_
        refine lv_ladd hx hb dc_M_record_137 ?_
        refine va_last hx hb hK hP hD hS 3 2 rfl rfl (vp_in_nI (by omega) (by omega)) dc_M_record_138 (fun H locs hP hD hS => ?_)
        rw [show (nI (dn + i)).toNatClampNeg = (dn + i) from nI_clamp (by omega)] at hP hD
        have hP : va_P (dC, dI) vwCl [(aM, .inr (7, [.int 0, .ref a1, .int (nI ks), .int (nI (dn + i)), .ref a2, .ref a3, .ref a4, .ref a5, .ref a6, .int (nI xa), .int ri, .int fa, .int fq, .int bg, .long tm, .int ka, .long kb, .int va, .long vb])), (a2, .inl (c2_, 1000, .inr (.inl (vp_updL (flL gk dn ky i) (dn + i) (ky + ((nI i).toInt64)))))), (a3, .inl (c3_, 1000, .inl (upd (flC gkb dn xkb i) (dn + i) xkb))), (a4, .inl (c4_, 1000, .inr (.inl (vp_updL (flL gv dn vy i) (dn + i) (vy + ((nI i).toInt64)))))), (a5, .inl (c5_, 1000, .inl (flC gvb dn xvb i))), (a6, .inl (c6_, 1000, .inl (flP gl dn la i)))] H := hP
        have hD : va_D A [(aM, .inr (7, [.int 0, .ref a1, .int (nI ks), .int (nI (dn + i)), .ref a2, .ref a3, .ref a4, .ref a5, .ref a6, .int (nI xa), .int ri, .int fa, .int fq, .int bg, .long tm, .int ka, .long kb, .int va, .long vb])), (a2, .inl (c2_, 1000, .inr (.inl (vp_updL (flL gk dn ky i) (dn + i) (ky + ((nI i).toInt64)))))), (a3, .inl (c3_, 1000, .inl (upd (flC gkb dn xkb i) (dn + i) xkb))), (a4, .inl (c4_, 1000, .inr (.inl (vp_updL (flL gv dn vy i) (dn + i) (vy + ((nI i).toInt64)))))), (a5, .inl (c5_, 1000, .inl (flC gvb dn xvb i))), (a6, .inl (c6_, 1000, .inl (flP gl dn la i)))] := hD
        refine lv_aload_n hx hb dc_M_record_139 rfl (lv_at hl 2 rfl) ?_
        refine va_get (D := (dC, dI)) (ci := 7) (v := .ref a5) (C := rn_M) (T := ft_M) (N := 19) hx hb hts fw_M hown hK hP 0 rfl rfl 7 (by decide) (hts _ bw3_166) (fun _ h9 => h9) rfl dc_M_record_140 ?_
        refine lv_aload_n hx hb dc_M_record_143 rfl (lv_at hl 2 rfl) ?_
        refine va_get (D := (dC, dI)) (ci := 7) (v := .int (nI (dn + i))) (C := rn_M) (T := ft_M) (N := 19) hx hb hts fw_M hown hK hP 0 rfl rfl 3 (by decide) (hts _ bw3_162) (fun _ h9 => h9) rfl dc_M_record_144 ?_
        refine lv_iload hx hb dc_M_record_147 (lv_at hl 7 rfl) ?_
        refine va_iast hx hb hK hP hD hS 4 3 rfl rfl (vp_in_nI (by omega) (by omega)) dc_M_record_149 (fun H locs hP hD hS => ?_)
        rw [show (nI (dn + i)).toNatClampNeg = (dn + i) from nI_clamp (by omega)] at hP hD
        have hP : va_P (dC, dI) vwCl [(aM, .inr (7, [.int 0, .ref a1, .int (nI ks), .int (nI (dn + i)), .ref a2, .ref a3, .ref a4, .ref a5, .ref a6, .int (nI xa), .int ri, .int fa, .int fq, .int bg, .long tm, .int ka, .long kb, .int va, .long vb])), (a2, .inl (c2_, 1000, .inr (.inl (vp_updL (flL gk dn ky i) (dn + i) (ky + ((nI i).toInt64)))))), (a3, .inl (c3_, 1000, .inl (upd (flC gkb dn xkb i) (dn + i) xkb))), (a4, .inl (c4_, 1000, .inr (.inl (vp_updL (flL gv dn vy i) (dn + i) (vy + ((nI i).toInt64)))))), (a5, .inl (c5_, 1000, .inl (upd (flC gvb dn xvb i) (dn + i) xvb))), (a6, .inl (c6_, 1000, .inl (flP gl dn la i)))] H := hP
        have hD : va_D A [(aM, .inr (7, [.int 0, .ref a1, .int (nI ks), .int (nI (dn + i)), .ref a2, .ref a3, .ref a4, .ref a5, .ref a6, .int (nI xa), .int ri, .int fa, .int fq, .int bg, .long tm, .int ka, .long kb, .int va, .long vb])), (a2, .inl (c2_, 1000, .inr (.inl (vp_updL (flL gk dn ky i) (dn + i) (ky + ((nI i).toInt64)))))), (a3, .inl (c3_, 1000, .inl (upd (flC gkb dn xkb i) (dn + i) xkb))), (a4, .inl (c4_, 1000, .inr (.inl (vp_updL (flL gv dn vy i) (dn + i) (vy + ((nI i).toInt64)))))), (a5, .inl (c5_, 1000, .inl (upd (flC gvb dn xvb i) (dn + i) xvb))), (a6, .inl (c6_, 1000, .inl (flP gl dn la i)))] := hD
        refine lv_aload_n hx hb dc_M_record_150 rfl (lv_at hl 2 rfl) ?_
        refine va_get (D := (dC, dI)) (ci := 7) (v := .ref a6) (C := rn_M) (T := ft_M) (N := 19) hx hb hts fw_M hown hK hP 0 rfl rfl 8 (by decide) (hts _ bw3_167) (fun _ h9 => h9) rfl dc_M_record_151 ?_
        refine lv_aload_n hx hb dc_M_record_154 rfl (lv_at hl 2 rfl) ?_
        refine va_get (D := (dC, dI)) (ci := 7) (v := .int (nI (dn + i))) (C := rn_M) (T := ft_M) (N := 19) hx hb hts fw_M hown hK hP 0 rfl rfl 3 (by decide) (hts _ bw3_162) (fun _ h9 => h9) rfl dc_M_record_155 ?_
        refine lv_iload hx hb dc_M_record_158 (lv_at hl 8 rfl) ?_
        refine lv_iload hx hb dc_M_record_160 (lv_at hl 0 rfl) ?_
        refine lv_iadd hx hb dc_M_record_162 ?_
        refine va_iast hx hb hK hP hD hS 5 4 rfl rfl (vp_in_nI (by omega) (by omega)) dc_M_record_163 (fun H locs hP hD hS => ?_)
        rw [show (nI (dn + i)).toNatClampNeg = (dn + i) from nI_clamp (by omega)] at hP hD
        have hP : va_P (dC, dI) vwCl [(aM, .inr (7, [.int 0, .ref a1, .int (nI ks), .int (nI (dn + i)), .ref a2, .ref a3, .ref a4, .ref a5, .ref a6, .int (nI xa), .int ri, .int fa, .int fq, .int bg, .long tm, .int ka, .long kb, .int va, .long vb])), (a2, .inl (c2_, 1000, .inr (.inl (vp_updL (flL gk dn ky i) (dn + i) (ky + ((nI i).toInt64)))))), (a3, .inl (c3_, 1000, .inl (upd (flC gkb dn xkb i) (dn + i) xkb))), (a4, .inl (c4_, 1000, .inr (.inl (vp_updL (flL gv dn vy i) (dn + i) (vy + ((nI i).toInt64)))))), (a5, .inl (c5_, 1000, .inl (upd (flC gvb dn xvb i) (dn + i) xvb))), (a6, .inl (c6_, 1000, .inl (upd (flP gl dn la i) (dn + i) (la + (nI i)))))] H := hP
        have hD : va_D A [(aM, .inr (7, [.int 0, .ref a1, .int (nI ks), .int (nI (dn + i)), .ref a2, .ref a3, .ref a4, .ref a5, .ref a6, .int (nI xa), .int ri, .int fa, .int fq, .int bg, .long tm, .int ka, .long kb, .int va, .long vb])), (a2, .inl (c2_, 1000, .inr (.inl (vp_updL (flL gk dn ky i) (dn + i) (ky + ((nI i).toInt64)))))), (a3, .inl (c3_, 1000, .inl (upd (flC gkb dn xkb i) (dn + i) xkb))), (a4, .inl (c4_, 1000, .inr (.inl (vp_updL (flL gv dn vy i) (dn + i) (vy + ((nI i).toInt64)))))), (a5, .inl (c5_, 1000, .inl (upd (flC gvb dn xvb i) (dn + i) xvb))), (a6, .inl (c6_, 1000, .inl (upd (flP gl dn la i) (dn + i) (la + (nI i)))))] := hD
        refine lv_aload_n hx hb dc_M_record_164 rfl (lv_at hl 2 rfl) ?_
        refine lv_dup hx hb dc_M_record_165 rfl ?_
        refine va_get (D := (dC, dI)) (ci := 7) (v := .int (nI (dn + i))) (C := rn_M) (T := ft_M) (N := 19) hx hb hts fw_M hown hK hP 0 rfl rfl 3 (by decide) (hts _ bw3_162) (fun _ h9 => h9) rfl dc_M_record_166 ?_
        refine lv_iconst (v := 1) hx hb dc_M_record_169 (by decide) ?_
        refine lv_iadd hx hb dc_M_record_170 ?_
        refine va_put (D := (dC, dI)) (ci := 7) (v := .int ((nI (dn + i)) + 1)) (ty := .int) (C := rn_M) (T := ft_M) (N := 19) hx hb hts fw_M fy_M fo_M fn_M hown hK hP hD hS 0 rfl rfl 3 (by decide) (hts _ bw3_162) (fun _ h9 => h9) rfl (by decide +kernel) rfl rfl (Nat.le_of_ble_eq_true rfl) dc_M_record_171 (fun H locs hP hD hS => ?_)
        have hP : va_P (dC, dI) vwCl [(aM, .inr (7, [.int 0, .ref a1, .int (nI ks), .int ((nI (dn + i)) + 1), .ref a2, .ref a3, .ref a4, .ref a5, .ref a6, .int (nI xa), .int ri, .int fa, .int fq, .int bg, .long tm, .int ka, .long kb, .int va, .long vb])), (a2, .inl (c2_, 1000, .inr (.inl (vp_updL (flL gk dn ky i) (dn + i) (ky + ((nI i).toInt64)))))), (a3, .inl (c3_, 1000, .inl (upd (flC gkb dn xkb i) (dn + i) xkb))), (a4, .inl (c4_, 1000, .inr (.inl (vp_updL (flL gv dn vy i) (dn + i) (vy + ((nI i).toInt64)))))), (a5, .inl (c5_, 1000, .inl (upd (flC gvb dn xvb i) (dn + i) xvb))), (a6, .inl (c6_, 1000, .inl (upd (flP gl dn la i) (dn + i) (la + (nI i)))))] H := hP
        have hD : va_D A [(aM, .inr (7, [.int 0, .ref a1, .int (nI ks), .int ((nI (dn + i)) + 1), .ref a2, .ref a3, .ref a4, .ref a5, .ref a6, .int (nI xa), .int ri, .int fa, .int fq, .int bg, .long tm, .int ka, .long kb, .int va, .long vb])), (a2, .inl (c2_, 1000, .inr (.inl (vp_updL (flL gk dn ky i) (dn + i) (ky + ((nI i).toInt64)))))), (a3, .inl (c3_, 1000, .inl (upd (flC gkb dn xkb i) (dn + i) xkb))), (a4, .inl (c4_, 1000, .inr (.inl (vp_updL (flL gv dn vy i) (dn + i) (vy + ((nI i).toInt64)))))), (a5, .inl (c5_, 1000, .inl (upd (flC gvb dn xvb i) (dn + i) xvb))), (a6, .inl (c6_, 1000, .inl (upd (flP gl dn la i) (dn + i) (la + (nI i)))))] := hD
        refine lv_iinc (v := ((nI i) + 1)) (lv' := [(10, .int ((nI i) + 1)), (9, .int (nI dn)), (0, .ref aM), (1, .int (nI j)), (2, .long ky), (4, .int xkb), (5, .long vy), (7, .int xvb), (8, .int la)]) hx hb dc_M_record_174 hl (k := 0) rfl rfl (by decide) rfl (fun ls hl => ?_)
        refine lv_goto (tgt := 93) hx hb dc_M_record_177 (by decide) ?_
        have e_17 : ((nI (dn + i)) + 1) = (nI (dn + (i + 1))) := by first | exact nI_1 _ | (rw [nI_1]; rfl) | rfl
        have e_18 : (vp_updL (flL gk dn ky i) (dn + i) (ky + ((nI i).toInt64))) = (flL gk dn ky (i + 1)) := by first | exact nI_1 _ | (rw [nI_1]; rfl) | rfl
        have e_19 : (upd (flC gkb dn xkb i) (dn + i) xkb) = (flC gkb dn xkb (i + 1)) := by first | exact nI_1 _ | (rw [nI_1]; rfl) | rfl
        have e_20 : (vp_updL (flL gv dn vy i) (dn + i) (vy + ((nI i).toInt64))) = (flL gv dn vy (i + 1)) := by first | exact nI_1 _ | (rw [nI_1]; rfl) | rfl
        have e_21 : (upd (flC gvb dn xvb i) (dn + i) xvb) = (flC gvb dn xvb (i + 1)) := by first | exact nI_1 _ | (rw [nI_1]; rfl) | rfl
        have e_22 : (upd (flP gl dn la i) (dn + i) (la + (nI i))) = (flP gl dn la (i + 1)) := by first | exact nI_1 _ | (rw [nI_1]; rfl) | rfl
        have e_23 : ((nI i) + 1) = (nI (i + 1)) := by first | exact nI_1 _ | (rw [nI_1]; rfl) | rfl
        have hP := wP_eq (ws' := [(aM, .inr (7, [.int 0, .ref a1, .int (nI ks), .int (nI (dn + (i + 1))), .ref a2, .ref a3, .ref a4, .ref a5, .ref a6, .int (nI xa), .int ri, .int fa, .int fq, .int bg, .long tm, .int ka, .long kb, .int va, .long vb])), (a2, .inl (c2_, 1000, .inr (.inl (flL gk dn ky (i + 1))))), (a3, .inl (c3_, 1000, .inl (flC gkb dn xkb (i + 1)))), (a4, .inl (c4_, 1000, .inr (.inl (flL gv dn vy (i + 1))))), (a5, .inl (c5_, 1000, .inl (flC gvb dn xvb (i + 1)))), (a6, .inl (c6_, 1000, .inl (flP gl dn la (i + 1))))]) hP (cg6 (fun y0 y1 y2 y3 y4 y5 => ([(aM, .inr (7, [.int 0, .ref a1, .int (nI ks), .int y0, .ref a2, .ref a3, .ref a4, .ref a5, .ref a6, .int (nI xa), .int ri, .int fa, .int fq, .int bg, .long tm, .int ka, .long kb, .int va, .long vb])), (a2, .inl (c2_, 1000, .inr (.inl y1))), (a3, .inl (c3_, 1000, .inl y2)), (a4, .inl (c4_, 1000, .inr (.inl y3))), (a5, .inl (c5_, 1000, .inl y4)), (a6, .inl (c6_, 1000, .inl y5))] : va_W)) e_17 e_18 e_19 e_20 e_21 e_22)
        have hD := wD_eq (ws' := [(aM, .inr (7, [.int 0, .ref a1, .int (nI ks), .int (nI (dn + (i + 1))), .ref a2, .ref a3, .ref a4, .ref a5, .ref a6, .int (nI xa), .int ri, .int fa, .int fq, .int bg, .long tm, .int ka, .long kb, .int va, .long vb])), (a2, .inl (c2_, 1000, .inr (.inl (flL gk dn ky (i + 1))))), (a3, .inl (c3_, 1000, .inl (flC gkb dn xkb (i + 1)))), (a4, .inl (c4_, 1000, .inr (.inl (flL gv dn vy (i + 1))))), (a5, .inl (c5_, 1000, .inl (flC gvb dn xvb (i + 1)))), (a6, .inl (c6_, 1000, .inl (flP gl dn la (i + 1))))]) hD (cg6 (fun y0 y1 y2 y3 y4 y5 => ([(aM, .inr (7, [.int 0, .ref a1, .int (nI ks), .int y0, .ref a2, .ref a3, .ref a4, .ref a5, .ref a6, .int (nI xa), .int ri, .int fa, .int fq, .int bg, .long tm, .int ka, .long kb, .int va, .long vb])), (a2, .inl (c2_, 1000, .inr (.inl y1))), (a3, .inl (c3_, 1000, .inl y2)), (a4, .inl (c4_, 1000, .inr (.inl y3))), (a5, .inl (c5_, 1000, .inl y4)), (a6, .inl (c6_, 1000, .inl y5))] : va_W)) e_17 e_18 e_19 e_20 e_21 e_22)
        have hl := wL_eq (lv' := [(10, .int (nI (i + 1))), (9, .int (nI dn)), (0, .ref aM), (1, .int (nI j)), (2, .long ky), (4, .int xkb), (5, .long vy), (7, .int xvb), (8, .int la)]) hl (cg1 (fun y0 => ([(10, .int y0), (9, .int (nI dn)), (0, .ref aM), (1, .int (nI j)), (2, .long ky), (4, .int xkb), (5, .long vy), (7, .int xvb), (8, .int la)] : List (Nat × Value))) e_23)
        exact ih93 (i + 1) _ _ _ ⟨by show (i + 1) ≤ j; omega, hP.sub [0, 1, 2, 3, 4, 5] rfl, hD.sub [0, 1, 2, 3, 4, 5] (by decide) rfl, hS, lv_sub hl [0, 1, 2, 3, 4, 5, 6, 7, 8] rfl⟩ (by show j - (i + 1) < j - i; omega)
    · exact absurd (by decide) c_1
  · refine lv_icmp_lt (tgt := 51) hx hb dc_M_record_3 (by decide) (fun c_24 => ?_) (fun c_24 => ?_)
    · exfalso; exact absurd c_24 (nI_nlt (b := 1) h1 (by omega))
    · refine lv_iload_n hx hb dc_M_record_6 rfl (lv_at hl 1 rfl) ?_
      refine lv_bipush (v := 100) hx hb dc_M_record_7 (by decide) ?_
      refine lv_icmp_gt (tgt := 51) hx hb dc_M_record_9 (by decide) (fun c_25 => ?_) (fun c_25 => ?_)
      · exfalso; exact absurd c_25 (nI_nlt (a := 100) h2 (by omega))
      · refine lv_iload hx hb dc_M_record_12 (lv_at hl 3 rfl) ?_
        refine lv_iconst (v := (-1)) hx hb dc_M_record_14 (by decide) ?_
        refine lv_icmp_lt (tgt := 51) hx hb dc_M_record_15 (by decide) (fun c_26 => ?_) (fun c_26 => ?_)
        · exfalso; exact hk0 c_26
        · refine lv_iload hx hb dc_M_record_18 (lv_at hl 3 rfl) ?_
          refine lv_bipush (v := 8) hx hb dc_M_record_20 (by decide) ?_
          refine lv_icmp_gt (tgt := 51) hx hb dc_M_record_22 (by decide) (fun c_27 => ?_) (fun c_27 => ?_)
          · exfalso; exact hk8 c_27
          · refine lv_iload hx hb dc_M_record_25 (lv_at hl 5 rfl) ?_
            refine lv_iconst (v := (-1)) hx hb dc_M_record_27 (by decide) ?_
            refine lv_icmp_lt (tgt := 51) hx hb dc_M_record_28 (by decide) (fun c_28 => ?_) (fun c_28 => ?_)
            · exfalso; exact hv0 c_28
            · refine lv_iload hx hb dc_M_record_31 (lv_at hl 5 rfl) ?_
              refine lv_sipush (v := 300) hx hb dc_M_record_33 (by decide) ?_
              refine lv_icmp_gt (tgt := 51) hx hb dc_M_record_36 (by decide) (fun c_29 => ?_) (fun c_29 => ?_)
              · exfalso; exact hv3 c_29
              · refine lv_iload hx hb dc_M_record_39 (lv_at hl 6 rfl) ?_
                refine lv_if_lt (tgt := 51) hx hb dc_M_record_41 (by decide) (fun c_30 => ?_) (fun c_30 => ?_)
                · exfalso; exact hl0 c_30
                · refine lv_iload hx hb dc_M_record_44 (lv_at hl 6 rfl) ?_
                  refine lv_ldc (v := 1000000) hx hb hown (hts _ bw4_29) dc_M_record_46 ?_
                  refine lv_icmp_le (tgt := 55) hx hb dc_M_record_48 (by decide) (fun c_31 => ?_) (fun c_31 => ?_)
                  · refine lv_aload_n hx hb dc_M_record_55 rfl (lv_at hl 0 rfl) ?_
                    refine va_get (D := (dC, dI)) (ci := 7) (v := .int (nI dn)) (C := rn_M) (T := ft_M) (N := 19) hx hb hts fw_M hown hK hP 0 rfl rfl 3 (by decide) (hts _ bw3_162) (fun _ h9 => h9) rfl dc_M_record_56 ?_
                    refine lv_iload_n hx hb dc_M_record_59 rfl (lv_at hl 1 rfl) ?_
                    refine lv_iadd hx hb dc_M_record_60 ?_
                    refine lv_sipush (v := 1000) hx hb dc_M_record_61 (by decide) ?_
                    refine lv_icmp_le (tgt := 71) hx hb dc_M_record_64 (by decide) (fun c_32 => ?_) (fun c_32 => ?_)
                    · refine lv_iconst (v := 0) hx hb dc_M_record_71 (by decide) ?_
                      exact hJ72 () _ _ _ ⟨hP.sub [0, 1, 2, 3, 4, 5] rfl, hD.sub [0, 1, 2, 3, 4, 5] (by decide) rfl, hS, lv_sub hl [0, 1, 2, 3, 4, 5, 6] rfl⟩
                    · exact absurd (by rw [nI_add]; exact nI_le (b := 1000) hn (by omega)) c_32
                  · exact absurd (hl1) c_31

set_option maxHeartbeats 1000000 in
set_option maxRecDepth 100000 in
theorem c_M_record_heavy (l : Launch) (dC : Nat → ClassId) (dI : Nat → Nat → Nat) (sz : Nat) (aM : Nat) (co : Int32) (a1 : Nat) (ks : Nat) (dn : Nat) (a2 : Nat) (a3 : Nat) (a4 : Nat) (a5 : Nat) (a6 : Nat) (xa : Nat) (ri : Int32) (fa : Int32) (fq : Int32) (bg : Int32) (tm : Int64) (ka : Int32) (kb : Int64) (va : Int32) (vb : Int64) (c2_ : ClassId) (c3_ : ClassId) (c4_ : ClassId) (c5_ : ClassId) (c6_ : ClassId) (gk : Nat → Int64) (gkb : Nat → Int32) (gv : Nat → Int64) (gvb : Nat → Int32) (gl : Nat → Int32) (j : Nat) (ky : Int64) (xkb : Int32) (vy : Int64) (xvb : Int32) (la : Int32) (h1 : 1 ≤ j) (h2 : j ≤ 100) (hk0 : ¬ xkb < -1) (hk8 : ¬ 8 < xkb) (hv0 : ¬ xvb < -1) (hv3 : ¬ 300 < xvb) (hl0 : ¬ la < 0) (hl1 : la ≤ 1000000) (hn : dn + j ≤ 1000) (hd : ∀ q, q < dn → dOk (gkb q) (gvb q) (gl q)) (hwt : 16000 < wtN (flC gkb dn xkb j) (flC gvb dn xvb j) (flP gl dn la j) (dn + j)) : Met l my_M_record (wB my_M_record cd_M_record 11 (some .int)) ({ frames := 3, cells := 0, slots := 0, locals := 68 }) (va_Pc [.ref aM, .int (nI j), .long ky, .int xkb, .long vy, .int xvb, .int la] (PcW (dC, dI) [(aM, .inr (7, [.int co, .ref a1, .int (nI ks), .int (nI dn), .ref a2, .ref a3, .ref a4, .ref a5, .ref a6, .int (nI xa), .int ri, .int fa, .int fq, .int bg, .long tm, .int ka, .long kb, .int va, .long vb])), (a2, .inl (c2_, 1000, .inr (.inl gk))), (a3, .inl (c3_, 1000, .inl gkb)), (a4, .inl (c4_, 1000, .inr (.inl gv))), (a5, .inl (c5_, 1000, .inl gvb)), (a6, .inl (c6_, 1000, .inl gl))] [(c2_, .long), (c3_, .int), (c4_, .long), (c5_, .int), (c6_, .int)] sz)) (va_Qi (fun (r : Int32) => fun (_ : Unit) => r = 0) (fun _ => EnW (dC, dI) (va_A [(aM, .inr (7, [.int co, .ref a1, .int (nI ks), .int (nI dn), .ref a2, .ref a3, .ref a4, .ref a5, .ref a6, .int (nI xa), .int ri, .int fa, .int fq, .int bg, .long tm, .int ka, .long kb, .int va, .long vb])), (a2, .inl (c2_, 1000, .inr (.inl gk))), (a3, .inl (c3_, 1000, .inl gkb)), (a4, .inl (c4_, 1000, .inr (.inl gv))), (a5, .inl (c5_, 1000, .inl gvb)), (a6, .inl (c6_, 1000, .inl gl))] sz) [(aM, .inr (7, [.int 2, .ref a1, .int (nI ks), .int (nI dn), .ref a2, .ref a3, .ref a4, .ref a5, .ref a6, .int (nI xa), .int ri, .int fa, .int fq, .int bg, .long tm, .int ka, .long kb, .int va, .long vb])), (a2, .inl (c2_, 1000, .inr (.inl (flL gk dn ky j)))), (a3, .inl (c3_, 1000, .inl (flC gkb dn xkb j))), (a4, .inl (c4_, 1000, .inr (.inl (flL gv dn vy j)))), (a5, .inl (c5_, 1000, .inl (flC gvb dn xvb j))), (a6, .inl (c6_, 1000, .inl (flP gl dn la j)))] [(c2_, .long), (c3_, .int), (c4_, .long), (c5_, .int), (c6_, .int)]) (va_A [(aM, .inr (7, [.int co, .ref a1, .int (nI ks), .int (nI dn), .ref a2, .ref a3, .ref a4, .ref a5, .ref a6, .int (nI xa), .int ri, .int fa, .int fq, .int bg, .long tm, .int ka, .long kb, .int va, .long vb])), (a2, .inl (c2_, 1000, .inr (.inl gk))), (a3, .inl (c3_, 1000, .inl gkb)), (a4, .inl (c4_, 1000, .inr (.inl gv))), (a5, .inl (c5_, 1000, .inl gvb)), (a6, .inl (c6_, 1000, .inl gl))] sz)) 0 0 (va_A [(aM, .inr (7, [.int co, .ref a1, .int (nI ks), .int (nI dn), .ref a2, .ref a3, .ref a4, .ref a5, .ref a6, .int (nI xa), .int ri, .int fa, .int fq, .int bg, .long tm, .int ka, .long kb, .int va, .long vb])), (a2, .inl (c2_, 1000, .inr (.inl gk))), (a3, .inl (c3_, 1000, .inl gkb)), (a4, .inl (c4_, 1000, .inr (.inl gv))), (a5, .inl (c5_, 1000, .inl gvb)), (a6, .inl (c6_, 1000, .inl gl))] sz) := by
  refine Met.ofW (cc := cd_M_record) (maxL := 11) (ret := (some .int)) (by decide) rfl ?_
  intro p e s m args below meth c s₁ B hml hv
  obtain ⟨rfl, hsz, hP, hK, hD0, hG⟩ := hv
  have hx := B.exec
  have hb := B.bytes
  have hr := B.returns
  have hts := fun (w : Cond) (h : w ∈ bigT) => atoms_spec (ws := (wB my_M_record cd_M_record 11 (some .int))) B.pre w (List.mem_cons_of_mem _ h)
  have hown : s.vm.findClass rn_M = some m.cls := findClass_of_methodNamed B.named
  have hlocks := B.notSynchronized
  subst hsz
  have hD := hD0.self (sz := s.heap.size)
  generalize hAe : va_A [(aM, .inr (7, [.int co, .ref a1, .int (nI ks), .int (nI dn), .ref a2, .ref a3, .ref a4, .ref a5, .ref a6, .int (nI xa), .int ri, .int fa, .int fq, .int bg, .long tm, .int ka, .long kb, .int va, .long vb])), (a2, .inl (c2_, 1000, .inr (.inl gk))), (a3, .inl (c3_, 1000, .inl gkb)), (a4, .inl (c4_, 1000, .inr (.inl gv))), (a5, .inl (c5_, 1000, .inl gvb)), (a6, .inl (c6_, 1000, .inl gl))] s.heap.size = A at hD hG ⊢
  have hA : ∀ q : Nat, s.heap.size ≤ q → A q := fun q h => by rw [← hAe]; exact Or.inr h
  have hS : va_S A s.heap s.heap [] := va_S.rf
  have hP : va_P (dC, dI) vwCl [(aM, .inr (7, [.int co, .ref a1, .int (nI ks), .int (nI dn), .ref a2, .ref a3, .ref a4, .ref a5, .ref a6, .int (nI xa), .int ri, .int fa, .int fq, .int bg, .long tm, .int ka, .long kb, .int va, .long vb])), (a2, .inl (c2_, 1000, .inr (.inl gk))), (a3, .inl (c3_, 1000, .inl gkb)), (a4, .inl (c4_, 1000, .inr (.inl gv))), (a5, .inl (c5_, 1000, .inl gvb)), (a6, .inl (c6_, 1000, .inl gl))] s.heap := hP
  have hl := lv_entry ([.ref aM, .int (nI j), .long ky, .int xkb, .long vy, .int xvb, .int la]) (n := 11) (Nat.le_of_ble_eq_true rfl)
  rw [lg_entry_eq]
  generalize (lg_sl ([.ref aM, .int (nI j), .long ky, .int xkb, .long vy, .int xvb, .int la]) ++ List.replicate (11 - (lg_sl ([.ref aM, .int (nI j), .long ky, .int xkb, .long vy, .int xvb, .int la])).length) Slot.unset).toArray = ls at hl ⊢
  have hl : lv_has ls 11 [(0, .ref aM), (1, .int (nI j)), (2, .long ky), (4, .int xkb), (5, .long vy), (7, .int xvb), (8, .int la)] := hl
  refine lv_aload_n hx hb dc_M_record_0 rfl (lv_at hl 0 rfl) ?_
  refine lv_iload_n hx hb dc_M_record_1 rfl (lv_at hl 1 rfl) ?_
  refine lv_iconst (v := 1) hx hb dc_M_record_2 (by decide) ?_
  refine w_join (σ := Unit) (fun v72_ H locs ls => va_P (dC, dI) vwCl [(aM, .inr (7, [.int co, .ref a1, .int (nI ks), .int (nI dn), .ref a2, .ref a3, .ref a4, .ref a5, .ref a6, .int (nI xa), .int ri, .int fa, .int fq, .int bg, .long tm, .int ka, .long kb, .int va, .long vb])), (a2, .inl (c2_, 1000, .inr (.inl gk))), (a3, .inl (c3_, 1000, .inl gkb)), (a4, .inl (c4_, 1000, .inr (.inl gv))), (a5, .inl (c5_, 1000, .inl gvb)), (a6, .inl (c6_, 1000, .inl gl))] H ∧ va_D A [(aM, .inr (7, [.int co, .ref a1, .int (nI ks), .int (nI dn), .ref a2, .ref a3, .ref a4, .ref a5, .ref a6, .int (nI xa), .int ri, .int fa, .int fq, .int bg, .long tm, .int ka, .long kb, .int va, .long vb])), (a2, .inl (c2_, 1000, .inr (.inl gk))), (a3, .inl (c3_, 1000, .inl gkb)), (a4, .inl (c4_, 1000, .inr (.inl gv))), (a5, .inl (c5_, 1000, .inl gvb)), (a6, .inl (c6_, 1000, .inl gl))] ∧ va_S A s.heap H locs ∧ lv_has ls 11 [(0, .ref aM), (1, .int (nI j)), (2, .long ky), (4, .int xkb), (5, .long vy), (7, .int xvb), (8, .int la)]) (fun v72_ ls => F0 m 72 ls [.int 0, .ref aM]) ?_ (fun hJ72 => ?_)
  · rintro v72_ H locs ls ⟨hP, hD, hS, hl⟩
    have hP : va_P (dC, dI) vwCl [(aM, .inr (7, [.int co, .ref a1, .int (nI ks), .int (nI dn), .ref a2, .ref a3, .ref a4, .ref a5, .ref a6, .int (nI xa), .int ri, .int fa, .int fq, .int bg, .long tm, .int ka, .long kb, .int va, .long vb])), (a2, .inl (c2_, 1000, .inr (.inl gk))), (a3, .inl (c3_, 1000, .inl gkb)), (a4, .inl (c4_, 1000, .inr (.inl gv))), (a5, .inl (c5_, 1000, .inl gvb)), (a6, .inl (c6_, 1000, .inl gl))] H := hP
    have hD : va_D A [(aM, .inr (7, [.int co, .ref a1, .int (nI ks), .int (nI dn), .ref a2, .ref a3, .ref a4, .ref a5, .ref a6, .int (nI xa), .int ri, .int fa, .int fq, .int bg, .long tm, .int ka, .long kb, .int va, .long vb])), (a2, .inl (c2_, 1000, .inr (.inl gk))), (a3, .inl (c3_, 1000, .inl gkb)), (a4, .inl (c4_, 1000, .inr (.inl gv))), (a5, .inl (c5_, 1000, .inl gvb)), (a6, .inl (c6_, 1000, .inl gl))] := hD
    have hl : lv_has ls 11 [(0, .ref aM), (1, .int (nI j)), (2, .long ky), (4, .int xkb), (5, .long vy), (7, .int xvb), (8, .int la)] := hl
    show W _ _ _ _ _ _ _ _ _ _ _ _ _ _ _ (F0 m 72 ls [.int 0, .ref aM])
    refine va_put (D := (dC, dI)) (ci := 7) (v := .int 0) (ty := .int) (C := rn_M) (T := ft_M) (N := 19) hx hb hts fw_M fy_M fo_M fn_M hown hK hP hD hS 0 rfl rfl 0 (by decide) (hts _ bw3_159) (fun _ h9 => h9) rfl (by decide +kernel) rfl rfl (Nat.le_of_ble_eq_true rfl) dc_M_record_72 (fun H locs hP hD hS => ?_)
    have hP : va_P (dC, dI) vwCl [(aM, .inr (7, [.int 0, .ref a1, .int (nI ks), .int (nI dn), .ref a2, .ref a3, .ref a4, .ref a5, .ref a6, .int (nI xa), .int ri, .int fa, .int fq, .int bg, .long tm, .int ka, .long kb, .int va, .long vb])), (a2, .inl (c2_, 1000, .inr (.inl gk))), (a3, .inl (c3_, 1000, .inl gkb)), (a4, .inl (c4_, 1000, .inr (.inl gv))), (a5, .inl (c5_, 1000, .inl gvb)), (a6, .inl (c6_, 1000, .inl gl))] H := hP
    have hD : va_D A [(aM, .inr (7, [.int 0, .ref a1, .int (nI ks), .int (nI dn), .ref a2, .ref a3, .ref a4, .ref a5, .ref a6, .int (nI xa), .int ri, .int fa, .int fq, .int bg, .long tm, .int ka, .long kb, .int va, .long vb])), (a2, .inl (c2_, 1000, .inr (.inl gk))), (a3, .inl (c3_, 1000, .inl gkb)), (a4, .inl (c4_, 1000, .inr (.inl gv))), (a5, .inl (c5_, 1000, .inl gvb)), (a6, .inl (c6_, 1000, .inl gl))] := hD
    refine lv_aload_n hx hb dc_M_record_75 rfl (lv_at hl 0 rfl) ?_
    refine va_get (D := (dC, dI)) (ci := 7) (v := .int 0) (C := rn_M) (T := ft_M) (N := 19) hx hb hts fw_M hown hK hP 0 rfl rfl 0 (by decide) (hts _ bw3_159) (fun _ h9 => h9) rfl dc_M_record_76 ?_
    refine lv_if_le (tgt := 84) hx hb dc_M_record_79 (by decide) (fun c_1 => ?_) (fun c_1 => ?_)
    · refine lv_aload_n hx hb dc_M_record_84 rfl (lv_at hl 0 rfl) ?_
      refine va_get (D := (dC, dI)) (ci := 7) (v := .int (nI dn)) (C := rn_M) (T := ft_M) (N := 19) hx hb hts fw_M hown hK hP 0 rfl rfl 3 (by decide) (hts _ bw3_162) (fun _ h9 => h9) rfl dc_M_record_85 ?_
      refine lv_istore (lv' := [(9, .int (nI dn)), (0, .ref aM), (1, .int (nI j)), (2, .long ky), (4, .int xkb), (5, .long vy), (7, .int xvb), (8, .int la)]) hx hb dc_M_record_88 hl (by decide) rfl (fun ls hl => ?_)
      refine lv_iconst (v := 0) hx hb dc_M_record_90 (by decide) ?_
      refine lv_istore (lv' := [(10, .int 0), (9, .int (nI dn)), (0, .ref aM), (1, .int (nI j)), (2, .long ky), (4, .int xkb), (5, .long vy), (7, .int xvb), (8, .int la)]) hx hb dc_M_record_91 hl (by decide) rfl (fun ls hl => ?_)
      have e_2 : (nI dn) = (nI (dn + 0)) := by rfl
      have e_3 : gk = (flL gk dn ky 0) := by rfl
      have e_4 : gkb = (flC gkb dn xkb 0) := by rfl
      have e_5 : gv = (flL gv dn vy 0) := by rfl
      have e_6 : gvb = (flC gvb dn xvb 0) := by rfl
      have e_7 : gl = (flP gl dn la 0) := by rfl
      have hP := wP_eq (ws' := [(aM, .inr (7, [.int 0, .ref a1, .int (nI ks), .int (nI (dn + 0)), .ref a2, .ref a3, .ref a4, .ref a5, .ref a6, .int (nI xa), .int ri, .int fa, .int fq, .int bg, .long tm, .int ka, .long kb, .int va, .long vb])), (a2, .inl (c2_, 1000, .inr (.inl (flL gk dn ky 0)))), (a3, .inl (c3_, 1000, .inl (flC gkb dn xkb 0))), (a4, .inl (c4_, 1000, .inr (.inl (flL gv dn vy 0)))), (a5, .inl (c5_, 1000, .inl (flC gvb dn xvb 0))), (a6, .inl (c6_, 1000, .inl (flP gl dn la 0)))]) hP (cg6 (fun y0 y1 y2 y3 y4 y5 => ([(aM, .inr (7, [.int 0, .ref a1, .int (nI ks), .int y0, .ref a2, .ref a3, .ref a4, .ref a5, .ref a6, .int (nI xa), .int ri, .int fa, .int fq, .int bg, .long tm, .int ka, .long kb, .int va, .long vb])), (a2, .inl (c2_, 1000, .inr (.inl y1))), (a3, .inl (c3_, 1000, .inl y2)), (a4, .inl (c4_, 1000, .inr (.inl y3))), (a5, .inl (c5_, 1000, .inl y4)), (a6, .inl (c6_, 1000, .inl y5))] : va_W)) e_2 e_3 e_4 e_5 e_6 e_7)
      have hD := wD_eq (ws' := [(aM, .inr (7, [.int 0, .ref a1, .int (nI ks), .int (nI (dn + 0)), .ref a2, .ref a3, .ref a4, .ref a5, .ref a6, .int (nI xa), .int ri, .int fa, .int fq, .int bg, .long tm, .int ka, .long kb, .int va, .long vb])), (a2, .inl (c2_, 1000, .inr (.inl (flL gk dn ky 0)))), (a3, .inl (c3_, 1000, .inl (flC gkb dn xkb 0))), (a4, .inl (c4_, 1000, .inr (.inl (flL gv dn vy 0)))), (a5, .inl (c5_, 1000, .inl (flC gvb dn xvb 0))), (a6, .inl (c6_, 1000, .inl (flP gl dn la 0)))]) hD (cg6 (fun y0 y1 y2 y3 y4 y5 => ([(aM, .inr (7, [.int 0, .ref a1, .int (nI ks), .int y0, .ref a2, .ref a3, .ref a4, .ref a5, .ref a6, .int (nI xa), .int ri, .int fa, .int fq, .int bg, .long tm, .int ka, .long kb, .int va, .long vb])), (a2, .inl (c2_, 1000, .inr (.inl y1))), (a3, .inl (c3_, 1000, .inl y2)), (a4, .inl (c4_, 1000, .inr (.inl y3))), (a5, .inl (c5_, 1000, .inl y4)), (a6, .inl (c6_, 1000, .inl y5))] : va_W)) e_2 e_3 e_4 e_5 e_6 e_7)
      refine w_loop (σ := Nat) (fun i H locs ls => i ≤ j ∧ va_P (dC, dI) vwCl [(aM, .inr (7, [.int 0, .ref a1, .int (nI ks), .int (nI (dn + i)), .ref a2, .ref a3, .ref a4, .ref a5, .ref a6, .int (nI xa), .int ri, .int fa, .int fq, .int bg, .long tm, .int ka, .long kb, .int va, .long vb])), (a2, .inl (c2_, 1000, .inr (.inl (flL gk dn ky i)))), (a3, .inl (c3_, 1000, .inl (flC gkb dn xkb i))), (a4, .inl (c4_, 1000, .inr (.inl (flL gv dn vy i)))), (a5, .inl (c5_, 1000, .inl (flC gvb dn xvb i))), (a6, .inl (c6_, 1000, .inl (flP gl dn la i)))] H ∧ va_D A [(aM, .inr (7, [.int 0, .ref a1, .int (nI ks), .int (nI (dn + i)), .ref a2, .ref a3, .ref a4, .ref a5, .ref a6, .int (nI xa), .int ri, .int fa, .int fq, .int bg, .long tm, .int ka, .long kb, .int va, .long vb])), (a2, .inl (c2_, 1000, .inr (.inl (flL gk dn ky i)))), (a3, .inl (c3_, 1000, .inl (flC gkb dn xkb i))), (a4, .inl (c4_, 1000, .inr (.inl (flL gv dn vy i)))), (a5, .inl (c5_, 1000, .inl (flC gvb dn xvb i))), (a6, .inl (c6_, 1000, .inl (flP gl dn la i)))] ∧ va_S A s.heap H locs ∧ lv_has ls 11 [(10, .int (nI i)), (9, .int (nI dn)), (0, .ref aM), (1, .int (nI j)), (2, .long ky), (4, .int xkb), (5, .long vy), (7, .int xvb), (8, .int la)]) (fun i ls => F0 m 93 ls []) (fun _ => 0) (fun _ => 0) (fun i => j - i) ?_ 0 _ _ _ ⟨by show 0 ≤ j; omega, hP.sub [0, 1, 2, 3, 4, 5] rfl, hD.sub [0, 1, 2, 3, 4, 5] (by decide) rfl, hS, lv_sub hl [0, 1, 2, 3, 4, 5, 6, 7, 8] rfl⟩
      rintro i H locs ls ⟨hi, hP, hD, hS, hl⟩ ih93
      have hP : va_P (dC, dI) vwCl [(aM, .inr (7, [.int 0, .ref a1, .int (nI ks), .int (nI (dn + i)), .ref a2, .ref a3, .ref a4, .ref a5, .ref a6, .int (nI xa), .int ri, .int fa, .int fq, .int bg, .long tm, .int ka, .long kb, .int va, .long vb])), (a2, .inl (c2_, 1000, .inr (.inl (flL gk dn ky i)))), (a3, .inl (c3_, 1000, .inl (flC gkb dn xkb i))), (a4, .inl (c4_, 1000, .inr (.inl (flL gv dn vy i)))), (a5, .inl (c5_, 1000, .inl (flC gvb dn xvb i))), (a6, .inl (c6_, 1000, .inl (flP gl dn la i)))] H := hP
      have hD : va_D A [(aM, .inr (7, [.int 0, .ref a1, .int (nI ks), .int (nI (dn + i)), .ref a2, .ref a3, .ref a4, .ref a5, .ref a6, .int (nI xa), .int ri, .int fa, .int fq, .int bg, .long tm, .int ka, .long kb, .int va, .long vb])), (a2, .inl (c2_, 1000, .inr (.inl (flL gk dn ky i)))), (a3, .inl (c3_, 1000, .inl (flC gkb dn xkb i))), (a4, .inl (c4_, 1000, .inr (.inl (flL gv dn vy i)))), (a5, .inl (c5_, 1000, .inl (flC gvb dn xvb i))), (a6, .inl (c6_, 1000, .inl (flP gl dn la i)))] := hD
      have hl : lv_has ls 11 [(10, .int (nI i)), (9, .int (nI dn)), (0, .ref aM), (1, .int (nI j)), (2, .long ky), (4, .int xkb), (5, .long vy), (7, .int xvb), (8, .int la)] := hl
      show W _ _ _ _ _ _ _ _ _ _ _ _ _ _ _ (F0 m 93 ls [])
      have hi : i ≤ j := hi
      refine lv_iload hx hb dc_M_record_93 (lv_at hl 0 rfl) ?_
      refine lv_iload_n hx hb dc_M_record_95 rfl (lv_at hl 3 rfl) ?_
      refine lv_icmp_ge (tgt := 180) hx hb dc_M_record_96 (by decide) (fun c_8 => ?_) (fun c_8 => ?_)
      · have hij : i = j := by have := (nI_leI (by omega) (by omega)).mp c_8; omega
        have hd9 := hd_new (j := i) hd (by omega) hk0 (Int32.not_lt.mp hk8) hv0 (Int32.not_lt.mp hv3) hl0 hl1
        have hwl := wtN_le hd9
        refine lv_aload_n hx hb dc_M_record_180 rfl (lv_at hl 2 rfl) ?_
        refine kc_i (wc := [(aM, .inr (7, [.int 0, .ref a1, .int (nI ks), .int (nI (dn + i)), .ref a2, .ref a3, .ref a4, .ref a5, .ref a6, .int (nI xa), .int ri, .int fa, .int fq, .int bg, .long tm, .int ka, .long kb, .int va, .long vb])), (a3, .inl (c3_, 1000, .inl (flC gkb dn xkb i))), (a5, .inl (c5_, 1000, .inl (flC gvb dn xvb i))), (a6, .inl (c6_, 1000, .inl (flP gl dn la i)))]) (wr := [(a2, .inl (c2_, 1000, .inr (.inl (flL gk dn ky i)))), (a4, .inl (c4_, 1000, .inr (.inl (flL gv dn vy i))))]) hP hD hS hA [0, 2, 4, 5] [1, 3] rfl rfl (by decide) (by decide) (va_runV (As := []) (rest := []) ⟨hx, hb, hml, hown, hts⟩ (c_M_weight l dC dI _ aM 0 a1 ks (dn + i) a2 a3 a4 a5 a6 xa ri fa fq bg tm ka kb va vb c3_ c5_ c6_ (flC gkb dn xkb i) (flC gvb dn xvb i) (flP gl dn la i) (by omega) (hd9)) (kw_V 0 hts bw4_30 bw4_32 bws_16 bw1_9 bw4_33 rfl rfl (by decide +kernel) ⟨Nat.le_of_ble_eq_true rfl, Nat.le_of_ble_eq_true rfl⟩) (kp_V (wc := [(aM, .inr (7, [.int 0, .ref a1, .int (nI ks), .int (nI (dn + i)), .ref a2, .ref a3, .ref a4, .ref a5, .ref a6, .int (nI xa), .int ri, .int fa, .int fq, .int bg, .long tm, .int ka, .long kb, .int va, .long vb])), (a3, .inl (c3_, 1000, .inl (flC gkb dn xkb i))), (a5, .inl (c5_, 1000, .inl (flC gvb dn xvb i))), (a6, .inl (c6_, 1000, .inl (flP gl dn la i)))]) (tc := [(c3_, .int), (c5_, .int), (c6_, .int)]) (As := []) hG hS hA hP hD hK [0, 2, 4, 5] rfl (by decide) rfl [1, 3, 4] rfl (ci := 7) (q0 := 0) rfl rfl) rfl rfl hl.1 rfl (lv_room (Nat.le_of_ble_eq_true rfl)) dc_M_record_181 ⟨Nat.zero_le _, Nat.zero_le _⟩) (fun r_9 _ H locs hw hP hD hK1 hS => ?_)
        have hw : nI (wtN (flC gkb dn xkb i) (flC gvb dn xvb i) (flP gl dn la i) (dn + i)) = r_9 := hw.symm
        subst hw
        have hP : va_P (dC, dI) vwCl [(a2, .inl (c2_, 1000, .inr (.inl (flL gk dn ky i)))), (a4, .inl (c4_, 1000, .inr (.inl (flL gv dn vy i)))), (aM, .inr (7, [.int 0, .ref a1, .int (nI ks), .int (nI (dn + i)), .ref a2, .ref a3, .ref a4, .ref a5, .ref a6, .int (nI xa), .int ri, .int fa, .int fq, .int bg, .long tm, .int ka, .long kb, .int va, .long vb])), (a3, .inl (c3_, 1000, .inl (flC gkb dn xkb i))), (a5, .inl (c5_, 1000, .inl (flC gvb dn xvb i))), (a6, .inl (c6_, 1000, .inl (flP gl dn la i)))] H := hP
        have hD : va_D A [(a2, .inl (c2_, 1000, .inr (.inl (flL gk dn ky i)))), (a4, .inl (c4_, 1000, .inr (.inl (flL gv dn vy i)))), (aM, .inr (7, [.int 0, .ref a1, .int (nI ks), .int (nI (dn + i)), .ref a2, .ref a3, .ref a4, .ref a5, .ref a6, .int (nI xa), .int ri, .int fa, .int fq, .int bg, .long tm, .int ka, .long kb, .int va, .long vb])), (a3, .inl (c3_, 1000, .inl (flC gkb dn xkb i))), (a5, .inl (c5_, 1000, .inl (flC gvb dn xvb i))), (a6, .inl (c6_, 1000, .inl (flP gl dn la i)))] := hD
        refine lv_sipush (v := 16000) hx hb dc_M_record_184 (by decide) ?_
        refine lv_icmp_le (tgt := 203) hx hb dc_M_record_187 (by decide) (fun c_10 => ?_) (fun c_10 => ?_)
        · exfalso; rw [← hij] at hwt; exact absurd ((nI_leI (b := 16000) (by omega) (by omega)).mp c_10) (by omega)
        · refine lv_aload_n hx hb dc_M_record_190 rfl (lv_at hl 2 rfl) ?_
          refine lv_iload hx hb dc_M_record_191 (lv_at hl 1 rfl) ?_
          refine va_put (D := (dC, dI)) (ci := 7) (v := .int (nI dn)) (ty := .int) (C := rn_M) (T := ft_M) (N := 19) hx hb hts fw_M fy_M fo_M fn_M hown hK hP hD hS 2 rfl rfl 3 (by decide) (hts _ bw3_162) (fun _ h9 => h9) rfl (by decide +kernel) rfl rfl (Nat.le_of_ble_eq_true rfl) dc_M_record_193 (fun H locs hP hD hS => ?_)
          have hP : va_P (dC, dI) vwCl [(a2, .inl (c2_, 1000, .inr (.inl (flL gk dn ky i)))), (a4, .inl (c4_, 1000, .inr (.inl (flL gv dn vy i)))), (aM, .inr (7, [.int 0, .ref a1, .int (nI ks), .int (nI dn), .ref a2, .ref a3, .ref a4, .ref a5, .ref a6, .int (nI xa), .int ri, .int fa, .int fq, .int bg, .long tm, .int ka, .long kb, .int va, .long vb])), (a3, .inl (c3_, 1000, .inl (flC gkb dn xkb i))), (a5, .inl (c5_, 1000, .inl (flC gvb dn xvb i))), (a6, .inl (c6_, 1000, .inl (flP gl dn la i)))] H := hP
          have hD : va_D A [(a2, .inl (c2_, 1000, .inr (.inl (flL gk dn ky i)))), (a4, .inl (c4_, 1000, .inr (.inl (flL gv dn vy i)))), (aM, .inr (7, [.int 0, .ref a1, .int (nI ks), .int (nI dn), .ref a2, .ref a3, .ref a4, .ref a5, .ref a6, .int (nI xa), .int ri, .int fa, .int fq, .int bg, .long tm, .int ka, .long kb, .int va, .long vb])), (a3, .inl (c3_, 1000, .inl (flC gkb dn xkb i))), (a5, .inl (c5_, 1000, .inl (flC gvb dn xvb i))), (a6, .inl (c6_, 1000, .inl (flP gl dn la i)))] := hD
          refine lv_aload_n hx hb dc_M_record_196 rfl (lv_at hl 2 rfl) ?_
          refine lv_iconst (v := 2) hx hb dc_M_record_197 (by decide) ?_
          refine va_put (D := (dC, dI)) (ci := 7) (v := .int 2) (ty := .int) (C := rn_M) (T := ft_M) (N := 19) hx hb hts fw_M fy_M fo_M fn_M hown hK hP hD hS 2 rfl rfl 0 (by decide) (hts _ bw3_159) (fun _ h9 => h9) rfl (by decide +kernel) rfl rfl (Nat.le_of_ble_eq_true rfl) dc_M_record_198 (fun H locs hP hD hS => ?_)
          have hP : va_P (dC, dI) vwCl [(a2, .inl (c2_, 1000, .inr (.inl (flL gk dn ky i)))), (a4, .inl (c4_, 1000, .inr (.inl (flL gv dn vy i)))), (aM, .inr (7, [.int 2, .ref a1, .int (nI ks), .int (nI dn), .ref a2, .ref a3, .ref a4, .ref a5, .ref a6, .int (nI xa), .int ri, .int fa, .int fq, .int bg, .long tm, .int ka, .long kb, .int va, .long vb])), (a3, .inl (c3_, 1000, .inl (flC gkb dn xkb i))), (a5, .inl (c5_, 1000, .inl (flC gvb dn xvb i))), (a6, .inl (c6_, 1000, .inl (flP gl dn la i)))] H := hP
          have hD : va_D A [(a2, .inl (c2_, 1000, .inr (.inl (flL gk dn ky i)))), (a4, .inl (c4_, 1000, .inr (.inl (flL gv dn vy i)))), (aM, .inr (7, [.int 2, .ref a1, .int (nI ks), .int (nI dn), .ref a2, .ref a3, .ref a4, .ref a5, .ref a6, .int (nI xa), .int ri, .int fa, .int fq, .int bg, .long tm, .int ka, .long kb, .int va, .long vb])), (a3, .inl (c3_, 1000, .inl (flC gkb dn xkb i))), (a5, .inl (c5_, 1000, .inl (flC gvb dn xvb i))), (a6, .inl (c6_, 1000, .inl (flP gl dn la i)))] := hD
          refine lv_iconst (v := 0) hx hb dc_M_record_201 (by decide) ?_
          have e_11 : (flL gk dn ky i) = (flL gk dn ky j) := by rw [hij]
          have e_12 : (flC gkb dn xkb i) = (flC gkb dn xkb j) := by rw [hij]
          have e_13 : (flL gv dn vy i) = (flL gv dn vy j) := by rw [hij]
          have e_14 : (flC gvb dn xvb i) = (flC gvb dn xvb j) := by rw [hij]
          have e_15 : (flP gl dn la i) = (flP gl dn la j) := by rw [hij]
          have hP := wP_eq (ws' := [(a2, .inl (c2_, 1000, .inr (.inl (flL gk dn ky j)))), (a4, .inl (c4_, 1000, .inr (.inl (flL gv dn vy j)))), (aM, .inr (7, [.int 2, .ref a1, .int (nI ks), .int (nI dn), .ref a2, .ref a3, .ref a4, .ref a5, .ref a6, .int (nI xa), .int ri, .int fa, .int fq, .int bg, .long tm, .int ka, .long kb, .int va, .long vb])), (a3, .inl (c3_, 1000, .inl (flC gkb dn xkb j))), (a5, .inl (c5_, 1000, .inl (flC gvb dn xvb j))), (a6, .inl (c6_, 1000, .inl (flP gl dn la j)))]) hP (cg5 (fun y0 y1 y2 y3 y4 => ([(a2, .inl (c2_, 1000, .inr (.inl y0))), (a4, .inl (c4_, 1000, .inr (.inl y2))), (aM, .inr (7, [.int 2, .ref a1, .int (nI ks), .int (nI dn), .ref a2, .ref a3, .ref a4, .ref a5, .ref a6, .int (nI xa), .int ri, .int fa, .int fq, .int bg, .long tm, .int ka, .long kb, .int va, .long vb])), (a3, .inl (c3_, 1000, .inl y1)), (a5, .inl (c5_, 1000, .inl y3)), (a6, .inl (c6_, 1000, .inl y4))] : va_W)) e_11 e_12 e_13 e_14 e_15)
          have hD := wD_eq (ws' := [(a2, .inl (c2_, 1000, .inr (.inl (flL gk dn ky j)))), (a4, .inl (c4_, 1000, .inr (.inl (flL gv dn vy j)))), (aM, .inr (7, [.int 2, .ref a1, .int (nI ks), .int (nI dn), .ref a2, .ref a3, .ref a4, .ref a5, .ref a6, .int (nI xa), .int ri, .int fa, .int fq, .int bg, .long tm, .int ka, .long kb, .int va, .long vb])), (a3, .inl (c3_, 1000, .inl (flC gkb dn xkb j))), (a5, .inl (c5_, 1000, .inl (flC gvb dn xvb j))), (a6, .inl (c6_, 1000, .inl (flP gl dn la j)))]) hD (cg5 (fun y0 y1 y2 y3 y4 => ([(a2, .inl (c2_, 1000, .inr (.inl y0))), (a4, .inl (c4_, 1000, .inr (.inl y2))), (aM, .inr (7, [.int 2, .ref a1, .int (nI ks), .int (nI dn), .ref a2, .ref a3, .ref a4, .ref a5, .ref a6, .int (nI xa), .int ri, .int fa, .int fq, .int bg, .long tm, .int ka, .long kb, .int va, .long vb])), (a3, .inl (c3_, 1000, .inl y1)), (a5, .inl (c5_, 1000, .inl y3)), (a6, .inl (c6_, 1000, .inl y4))] : va_W)) e_11 e_12 e_13 e_14 e_15)
          have hP9 := hP.sub (ws' := [(aM, .inr (7, [.int 2, .ref a1, .int (nI ks), .int (nI dn), .ref a2, .ref a3, .ref a4, .ref a5, .ref a6, .int (nI xa), .int ri, .int fa, .int fq, .int bg, .long tm, .int ka, .long kb, .int va, .long vb])), (a2, .inl (c2_, 1000, .inr (.inl (flL gk dn ky j)))), (a3, .inl (c3_, 1000, .inl (flC gkb dn xkb j))), (a4, .inl (c4_, 1000, .inr (.inl (flL gv dn vy j)))), (a5, .inl (c5_, 1000, .inl (flC gvb dn xvb j))), (a6, .inl (c6_, 1000, .inl (flP gl dn la j)))]) [2, 0, 3, 1, 4, 5] rfl
          have hD9 := hD.sub (ws' := [(aM, .inr (7, [.int 2, .ref a1, .int (nI ks), .int (nI dn), .ref a2, .ref a3, .ref a4, .ref a5, .ref a6, .int (nI xa), .int ri, .int fa, .int fq, .int bg, .long tm, .int ka, .long kb, .int va, .long vb])), (a2, .inl (c2_, 1000, .inr (.inl (flL gk dn ky j)))), (a3, .inl (c3_, 1000, .inl (flC gkb dn xkb j))), (a4, .inl (c4_, 1000, .inr (.inl (flL gv dn vy j)))), (a5, .inl (c5_, 1000, .inl (flC gvb dn xvb j))), (a6, .inl (c6_, 1000, .inl (flP gl dn la j)))]) [2, 0, 3, 1, 4, 5] (by decide) rfl
          have hK9 := hK.sub (tys' := [(c2_, .long), (c3_, .int), (c4_, .long), (c5_, .int), (c6_, .int)]) [0, 1, 2, 3, 4] rfl
          exact W.iret (v := 0) hx hb hr (fun t ht hW => ⟨⟨0, (), rfl, rfl, by rw [ht]; exact hP9, va_K.moved hW.alike hK9, hD9⟩, hS.F ht⟩) hS.2.2 dc_M_record_202
      · have hlt : i < j := by rcases Nat.lt_or_ge i j with h | h; exact h; exact absurd (nI_le h (by omega)) c_8
        refine lv_aload_n hx hb dc_M_record_99 rfl (lv_at hl 2 rfl) ?_
        refine va_get (D := (dC, dI)) (ci := 7) (v := .ref a2) (C := rn_M) (T := ft_M) (N := 19) hx hb hts fw_M hown hK hP 0 rfl rfl 4 (by decide) (hts _ bw3_163) (fun _ h9 => h9) rfl dc_M_record_100 ?_
        refine lv_aload_n hx hb dc_M_record_103 rfl (lv_at hl 2 rfl) ?_
        refine va_get (D := (dC, dI)) (ci := 7) (v := .int (nI (dn + i))) (C := rn_M) (T := ft_M) (N := 19) hx hb hts fw_M hown hK hP 0 rfl rfl 3 (by decide) (hts _ bw3_162) (fun _ h9 => h9) rfl dc_M_record_104 ?_
        refine lv_lload_n hx hb dc_M_record_107 rfl (lv_at hl 4 rfl) ?_
        refine lv_iload hx hb dc_M_record_108 (lv_at hl 0 rfl) ?_
        refine lv_i2l (v := (nI i).toInt64) hx hb dc_M_record_110 rfl ?_
        refine lv_ladd hx hb dc_M_record_111 ?_
        refine va_last hx hb hK hP hD hS 1 0 rfl rfl (vp_in_nI (by omega) (by omega)) dc_M_record_112 (fun H locs hP hD hS => ?_)
        rw [show (nI (dn + i)).toNatClampNeg = (dn + i) from nI_clamp (by omega)] at hP hD
        have hP : va_P (dC, dI) vwCl [(aM, .inr (7, [.int 0, .ref a1, .int (nI ks), .int (nI (dn + i)), .ref a2, .ref a3, .ref a4, .ref a5, .ref a6, .int (nI xa), .int ri, .int fa, .int fq, .int bg, .long tm, .int ka, .long kb, .int va, .long vb])), (a2, .inl (c2_, 1000, .inr (.inl (vp_updL (flL gk dn ky i) (dn + i) (ky + ((nI i).toInt64)))))), (a3, .inl (c3_, 1000, .inl (flC gkb dn xkb i))), (a4, .inl (c4_, 1000, .inr (.inl (flL gv dn vy i)))), (a5, .inl (c5_, 1000, .inl (flC gvb dn xvb i))), (a6, .inl (c6_, 1000, .inl (flP gl dn la i)))] H := hP
        have hD : va_D A [(aM, .inr (7, [.int 0, .ref a1, .int (nI ks), .int (nI (dn + i)), .ref a2, .ref a3, .ref a4, .ref a5, .ref a6, .int (nI xa), .int ri, .int fa, .int fq, .int bg, .long tm, .int ka, .long kb, .int va, .long vb])), (a2, .inl (c2_, 1000, .inr (.inl (vp_updL (flL gk dn ky i) (dn + i) (ky + ((nI i).toInt64)))))), (a3, .inl (c3_, 1000, .inl (flC gkb dn xkb i))), (a4, .inl (c4_, 1000, .inr (.inl (flL gv dn vy i)))), (a5, .inl (c5_, 1000, .inl (flC gvb dn xvb i))), (a6, .inl (c6_, 1000, .inl (flP gl dn la i)))] := hD
        refine lv_aload_n hx hb dc_M_record_113 rfl (lv_at hl 2 rfl) ?_
        refine va_get (D := (dC, dI)) (ci := 7) (v := .ref a3) (C := rn_M) (T := ft_M) (N := 19) hx hb hts fw_M hown hK hP 0 rfl rfl 5 (by decide) (hts _ bw3_164) (fun _ h9 => h9) rfl dc_M_record_114 ?_
        refine lv_aload_n hx hb dc_M_record_117 rfl (lv_at hl 2 rfl) ?_
        refine va_get (D := (dC, dI)) (ci := 7) (v := .int (nI (dn + i))) (C := rn_M) (T := ft_M) (N := 19) hx hb hts fw_M hown hK hP 0 rfl rfl 3 (by decide) (hts _ bw3_162) (fun _ h9 => h9) rfl dc_M_record_118 ?_
        refine lv_iload hx hb dc_M_record_121 (lv_at hl 5 rfl) ?_
        refine va_iast hx hb hK hP hD hS 2 1 rfl rfl (vp_in_nI (by omega) (by omega)) dc_M_record_123 (fun H locs hP hD hS => ?_)
        rw [show (nI (dn + i)).toNatClampNeg = (dn + i) from nI_clamp (by omega)] at hP hD
        have hP : va_P (dC, dI) vwCl [(aM, .inr (7, [.int 0, .ref a1, .int (nI ks), .int (nI (dn + i)), .ref a2, .ref a3, .ref a4, .ref a5, .ref a6, .int (nI xa), .int ri, .int fa, .int fq, .int bg, .long tm, .int ka, .long kb, .int va, .long vb])), (a2, .inl (c2_, 1000, .inr (.inl (vp_updL (flL gk dn ky i) (dn + i) (ky + ((nI i).toInt64)))))), (a3, .inl (c3_, 1000, .inl (upd (flC gkb dn xkb i) (dn + i) xkb))), (a4, .inl (c4_, 1000, .inr (.inl (flL gv dn vy i)))), (a5, .inl (c5_, 1000, .inl (flC gvb dn xvb i))), (a6, .inl (c6_, 1000, .inl (flP gl dn la i)))] H := hP
        have hD : va_D A [(aM, .inr (7, [.int 0, .ref a1, .int (nI ks), .int (nI (dn + i)), .ref a2, .ref a3, .ref a4, .ref a5, .ref a6, .int (nI xa), .int ri, .int fa, .int fq, .int bg, .long tm, .int ka, .long kb, .int va, .long vb])), (a2, .inl (c2_, 1000, .inr (.inl (vp_updL (flL gk dn ky i) (dn + i) (ky + ((nI i).toInt64)))))), (a3, .inl (c3_, 1000, .inl (upd (flC gkb dn xkb i) (dn + i) xkb))), (a4, .inl (c4_, 1000, .inr (.inl (flL gv dn vy i)))), (a5, .inl (c5_, 1000, .inl (flC gvb dn xvb i))), (a6, .inl (c6_, 1000, .inl (flP gl dn la i)))] := hD
        refine lv_aload_n hx hb dc_M_record_124 rfl (lv_at hl 2 rfl) ?_
        refine va_get (D := (dC, dI)) (ci := 7) (v := .ref a4) (C := rn_M) (T := ft_M) (N := 19) hx hb hts fw_M hown hK hP 0 rfl rfl 6 (by decide) (hts _ bw3_165) (fun _ h9 => h9) rfl dc_M_record_125 ?_
        refine lv_aload_n hx hb dc_M_record_128 rfl (lv_at hl 2 rfl) ?_
        refine va_get (D := (dC, dI)) (ci := 7) (v := .int (nI (dn + i))) (C := rn_M) (T := ft_M) (N := 19) hx hb hts fw_M hown hK hP 0 rfl rfl 3 (by decide) (hts _ bw3_162) (fun _ h9 => h9) rfl dc_M_record_129 ?_
        refine lv_lload hx hb dc_M_record_132 (lv_at hl 6 rfl) ?_
        refine lv_iload hx hb dc_M_record_134 (lv_at hl 0 rfl) ?_
        refine lv_i2l (v := (nI i).toInt64) hx hb dc_M_record_136 rfl ?_
        refine lv_ladd hx hb dc_M_record_137 ?_
        refine va_last hx hb hK hP hD hS 3 2 rfl rfl (vp_in_nI (by omega) (by omega)) dc_M_record_138 (fun H locs hP hD hS => ?_)
        rw [show (nI (dn + i)).toNatClampNeg = (dn + i) from nI_clamp (by omega)] at hP hD
        have hP : va_P (dC, dI) vwCl [(aM, .inr (7, [.int 0, .ref a1, .int (nI ks), .int (nI (dn + i)), .ref a2, .ref a3, .ref a4, .ref a5, .ref a6, .int (nI xa), .int ri, .int fa, .int fq, .int bg, .long tm, .int ka, .long kb, .int va, .long vb])), (a2, .inl (c2_, 1000, .inr (.inl (vp_updL (flL gk dn ky i) (dn + i) (ky + ((nI i).toInt64)))))), (a3, .inl (c3_, 1000, .inl (upd (flC gkb dn xkb i) (dn + i) xkb))), (a4, .inl (c4_, 1000, .inr (.inl (vp_updL (flL gv dn vy i) (dn + i) (vy + ((nI i).toInt64)))))), (a5, .inl (c5_, 1000, .inl (flC gvb dn xvb i))), (a6, .inl (c6_, 1000, .inl (flP gl dn la i)))] H := hP
        have hD : va_D A [(aM, .inr (7, [.int 0, .ref a1, .int (nI ks), .int (nI (dn + i)), .ref a2, .ref a3, .ref a4, .ref a5, .ref a6, .int (nI xa), .int ri, .int fa, .int fq, .int bg, .long tm, .int ka, .long kb, .int va, .long vb])), (a2, .inl (c2_, 1000, .inr (.inl (vp_updL (flL gk dn ky i) (dn + i) (ky + ((nI i).toInt64)))))), (a3, .inl (c3_, 1000, .inl (upd (flC gkb dn xkb i) (dn + i) xkb))), (a4, .inl (c4_, 1000, .inr (.inl (vp_updL (flL gv dn vy i) (dn + i) (vy + ((nI i).toInt64)))))), (a5, .inl (c5_, 1000, .inl (flC gvb dn xvb i))), (a6, .inl (c6_, 1000, .inl (flP gl dn la i)))] := hD
        refine lv_aload_n hx hb dc_M_record_139 rfl (lv_at hl 2 rfl) ?_
        refine va_get (D := (dC, dI)) (ci := 7) (v := .ref a5) (C := rn_M) (T := ft_M) (N := 19) hx hb hts fw_M hown hK hP 0 rfl rfl 7 (by decide) (hts _ bw3_166) (fun _ h9 => h9) rfl dc_M_record_140 ?_
        refine lv_aload_n hx hb dc_M_record_143 rfl (lv_at hl 2 rfl) ?_
        refine va_get (D := (dC, dI)) (ci := 7) (v := .int (nI (dn + i))) (C := rn_M) (T := ft_M) (N := 19) hx hb hts fw_M hown hK hP 0 rfl rfl 3 (by decide) (hts _ bw3_162) (fun _ h9 => h9) rfl dc_M_record_144 ?_
        refine lv_iload hx hb dc_M_record_147 (lv_at hl 7 rfl) ?_
        refine va_iast hx hb hK hP hD hS 4 3 rfl rfl (vp_in_nI (by omega) (by omega)) dc_M_record_149 (fun H locs hP hD hS => ?_)
        rw [show (nI (dn + i)).toNatClampNeg = (dn + i) from nI_clamp (by omega)] at hP hD
        have hP : va_P (dC, dI) vwCl [(aM, .inr (7, [.int 0, .ref a1, .int (nI ks), .int (nI (dn + i)), .ref a2, .ref a3, .ref a4, .ref a5, .ref a6, .int (nI xa), .int ri, .int fa, .int fq, .int bg, .long tm, .int ka, .long kb, .int va, .long vb])), (a2, .inl (c2_, 1000, .inr (.inl (vp_updL (flL gk dn ky i) (dn + i) (ky + ((nI i).toInt64)))))), (a3, .inl (c3_, 1000, .inl (upd (flC gkb dn xkb i) (dn + i) xkb))), (a4, .inl (c4_, 1000, .inr (.inl (vp_updL (flL gv dn vy i) (dn + i) (vy + ((nI i).toInt64)))))), (a5, .inl (c5_, 1000, .inl (upd (flC gvb dn xvb i) (dn + i) xvb))), (a6, .inl (c6_, 1000, .inl (flP gl dn la i)))] H := hP
        have hD : va_D A [(aM, .inr (7, [.int 0, .ref a1, .int (nI ks), .int (nI (dn + i)), .ref a2, .ref a3, .ref a4, .ref a5, .ref a6, .int (nI xa), .int ri, .int fa, .int fq, .int bg, .long tm, .int ka, .long kb, .int va, .long vb])), (a2, .inl (c2_, 1000, .inr (.inl (vp_updL (flL gk dn ky i) (dn + i) (ky + ((nI i).toInt64)))))), (a3, .inl (c3_, 1000, .inl (upd (flC gkb dn xkb i) (dn + i) xkb))), (a4, .inl (c4_, 1000, .inr (.inl (vp_updL (flL gv dn vy i) (dn + i) (vy + ((nI i).toInt64)))))), (a5, .inl (c5_, 1000, .inl (upd (flC gvb dn xvb i) (dn + i) xvb))), (a6, .inl (c6_, 1000, .inl (flP gl dn la i)))] := hD
        refine lv_aload_n hx hb dc_M_record_150 rfl (lv_at hl 2 rfl) ?_
        refine va_get (D := (dC, dI)) (ci := 7) (v := .ref a6) (C := rn_M) (T := ft_M) (N := 19) hx hb hts fw_M hown hK hP 0 rfl rfl 8 (by decide) (hts _ bw3_167) (fun _ h9 => h9) rfl dc_M_record_151 ?_
        refine lv_aload_n hx hb dc_M_record_154 rfl (lv_at hl 2 rfl) ?_
        refine va_get (D := (dC, dI)) (ci := 7) (v := .int (nI (dn + i))) (C := rn_M) (T := ft_M) (N := 19) hx hb hts fw_M hown hK hP 0 rfl rfl 3 (by decide) (hts _ bw3_162) (fun _ h9 => h9) rfl dc_M_record_155 ?_
        refine lv_iload hx hb dc_M_record_158 (lv_at hl 8 rfl) ?_
        refine lv_iload hx hb dc_M_record_160 (lv_at hl 0 rfl) ?_
        refine lv_iadd hx hb dc_M_record_162 ?_
        refine va_iast hx hb hK hP hD hS 5 4 rfl rfl (vp_in_nI (by omega) (by omega)) dc_M_record_163 (fun H locs hP hD hS => ?_)
        rw [show (nI (dn + i)).toNatClampNeg = (dn + i) from nI_clamp (by omega)] at hP hD
        have hP : va_P (dC, dI) vwCl [(aM, .inr (7, [.int 0, .ref a1, .int (nI ks), .int (nI (dn + i)), .ref a2, .ref a3, .ref a4, .ref a5, .ref a6, .int (nI xa), .int ri, .int fa, .int fq, .int bg, .long tm, .int ka, .long kb, .int va, .long vb])), (a2, .inl (c2_, 1000, .inr (.inl (vp_updL (flL gk dn ky i) (dn + i) (ky + ((nI i).toInt64)))))), (a3, .inl (c3_, 1000, .inl (upd (flC gkb dn xkb i) (dn + i) xkb))), (a4, .inl (c4_, 1000, .inr (.inl (vp_updL (flL gv dn vy i) (dn + i) (vy + ((nI i).toInt64)))))), (a5, .inl (c5_, 1000, .inl (upd (flC gvb dn xvb i) (dn + i) xvb))), (a6, .inl (c6_, 1000, .inl (upd (flP gl dn la i) (dn + i) (la + (nI i)))))] H := hP
        have hD : va_D A [(aM, .inr (7, [.int 0, .ref a1, .int (nI ks), .int (nI (dn + i)), .ref a2, .ref a3, .ref a4, .ref a5, .ref a6, .int (nI xa), .int ri, .int fa, .int fq, .int bg, .long tm, .int ka, .long kb, .int va, .long vb])), (a2, .inl (c2_, 1000, .inr (.inl (vp_updL (flL gk dn ky i) (dn + i) (ky + ((nI i).toInt64)))))), (a3, .inl (c3_, 1000, .inl (upd (flC gkb dn xkb i) (dn + i) xkb))), (a4, .inl (c4_, 1000, .inr (.inl (vp_updL (flL gv dn vy i) (dn + i) (vy + ((nI i).toInt64)))))), (a5, .inl (c5_, 1000, .inl (upd (flC gvb dn xvb i) (dn + i) xvb))), (a6, .inl (c6_, 1000, .inl (upd (flP gl dn la i) (dn + i) (la + (nI i)))))] := hD
        refine lv_aload_n hx hb dc_M_record_164 rfl (lv_at hl 2 rfl) ?_
        refine lv_dup hx hb dc_M_record_165 rfl ?_
        refine va_get (D := (dC, dI)) (ci := 7) (v := .int (nI (dn + i))) (C := rn_M) (T := ft_M) (N := 19) hx hb hts fw_M hown hK hP 0 rfl rfl 3 (by decide) (hts _ bw3_162) (fun _ h9 => h9) rfl dc_M_record_166 ?_
        refine lv_iconst (v := 1) hx hb dc_M_record_169 (by decide) ?_
        refine lv_iadd hx hb dc_M_record_170 ?_
        refine va_put (D := (dC, dI)) (ci := 7) (v := .int ((nI (dn + i)) + 1)) (ty := .int) (C := rn_M) (T := ft_M) (N := 19) hx hb hts fw_M fy_M fo_M fn_M hown hK hP hD hS 0 rfl rfl 3 (by decide) (hts _ bw3_162) (fun _ h9 => h9) rfl (by decide +kernel) rfl rfl (Nat.le_of_ble_eq_true rfl) dc_M_record_171 (fun H locs hP hD hS => ?_)
        have hP : va_P (dC, dI) vwCl [(aM, .inr (7, [.int 0, .ref a1, .int (nI ks), .int ((nI (dn + i)) + 1), .ref a2, .ref a3, .ref a4, .ref a5, .ref a6, .int (nI xa), .int ri, .int fa, .int fq, .int bg, .long tm, .int ka, .long kb, .int va, .long vb])), (a2, .inl (c2_, 1000, .inr (.inl (vp_updL (flL gk dn ky i) (dn + i) (ky + ((nI i).toInt64)))))), (a3, .inl (c3_, 1000, .inl (upd (flC gkb dn xkb i) (dn + i) xkb))), (a4, .inl (c4_, 1000, .inr (.inl (vp_updL (flL gv dn vy i) (dn + i) (vy + ((nI i).toInt64)))))), (a5, .inl (c5_, 1000, .inl (upd (flC gvb dn xvb i) (dn + i) xvb))), (a6, .inl (c6_, 1000, .inl (upd (flP gl dn la i) (dn + i) (la + (nI i)))))] H := hP
        have hD : va_D A [(aM, .inr (7, [.int 0, .ref a1, .int (nI ks), .int ((nI (dn + i)) + 1), .ref a2, .ref a3, .ref a4, .ref a5, .ref a6, .int (nI xa), .int ri, .int fa, .int fq, .int bg, .long tm, .int ka, .long kb, .int va, .long vb])), (a2, .inl (c2_, 1000, .inr (.inl (vp_updL (flL gk dn ky i) (dn + i) (ky + ((nI i).toInt64)))))), (a3, .inl (c3_, 1000, .inl (upd (flC gkb dn xkb i) (dn + i) xkb))), (a4, .inl (c4_, 1000, .inr (.inl (vp_updL (flL gv dn vy i) (dn + i) (vy + ((nI i).toInt64)))))), (a5, .inl (c5_, 1000, .inl (upd (flC gvb dn xvb i) (dn + i) xvb))), (a6, .inl (c6_, 1000, .inl (upd (flP gl dn la i) (dn + i) (la + (nI i)))))] := hD
        refine lv_iinc (v := ((nI i) + 1)) (lv' := [(10, .int ((nI i) + 1)), (9, .int (nI dn)), (0, .ref aM), (1, .int (nI j)), (2, .long ky), (4, .int xkb), (5, .long vy), (7, .int xvb), (8, .int la)]) hx hb dc_M_record_174 hl (k := 0) rfl rfl (by decide) rfl (fun ls hl => ?_)
        refine lv_goto (tgt := 93) hx hb dc_M_record_177 (by decide) ?_
        have e_16 : ((nI (dn + i)) + 1) = (nI (dn + (i + 1))) := by first | exact nI_1 _ | (rw [nI_1]; rfl) | rfl
        have e_17 : (vp_updL (flL gk dn ky i) (dn + i) (ky + ((nI i).toInt64))) = (flL gk dn ky (i + 1)) := by first | exact nI_1 _ | (rw [nI_1]; rfl) | rfl
        have e_18 : (upd (flC gkb dn xkb i) (dn + i) xkb) = (flC gkb dn xkb (i + 1)) := by first | exact nI_1 _ | (rw [nI_1]; rfl) | rfl
        have e_19 : (vp_updL (flL gv dn vy i) (dn + i) (vy + ((nI i).toInt64))) = (flL gv dn vy (i + 1)) := by first | exact nI_1 _ | (rw [nI_1]; rfl) | rfl
        have e_20 : (upd (flC gvb dn xvb i) (dn + i) xvb) = (flC gvb dn xvb (i + 1)) := by first | exact nI_1 _ | (rw [nI_1]; rfl) | rfl
        have e_21 : (upd (flP gl dn la i) (dn + i) (la + (nI i))) = (flP gl dn la (i + 1)) := by first | exact nI_1 _ | (rw [nI_1]; rfl) | rfl
        have e_22 : ((nI i) + 1) = (nI (i + 1)) := by first | exact nI_1 _ | (rw [nI_1]; rfl) | rfl
        have hP := wP_eq (ws' := [(aM, .inr (7, [.int 0, .ref a1, .int (nI ks), .int (nI (dn + (i + 1))), .ref a2, .ref a3, .ref a4, .ref a5, .ref a6, .int (nI xa), .int ri, .int fa, .int fq, .int bg, .long tm, .int ka, .long kb, .int va, .long vb])), (a2, .inl (c2_, 1000, .inr (.inl (flL gk dn ky (i + 1))))), (a3, .inl (c3_, 1000, .inl (flC gkb dn xkb (i + 1)))), (a4, .inl (c4_, 1000, .inr (.inl (flL gv dn vy (i + 1))))), (a5, .inl (c5_, 1000, .inl (flC gvb dn xvb (i + 1)))), (a6, .inl (c6_, 1000, .inl (flP gl dn la (i + 1))))]) hP (cg6 (fun y0 y1 y2 y3 y4 y5 => ([(aM, .inr (7, [.int 0, .ref a1, .int (nI ks), .int y0, .ref a2, .ref a3, .ref a4, .ref a5, .ref a6, .int (nI xa), .int ri, .int fa, .int fq, .int bg, .long tm, .int ka, .long kb, .int va, .long vb])), (a2, .inl (c2_, 1000, .inr (.inl y1))), (a3, .inl (c3_, 1000, .inl y2)), (a4, .inl (c4_, 1000, .inr (.inl y3))), (a5, .inl (c5_, 1000, .inl y4)), (a6, .inl (c6_, 1000, .inl y5))] : va_W)) e_16 e_17 e_18 e_19 e_20 e_21)
        have hD := wD_eq (ws' := [(aM, .inr (7, [.int 0, .ref a1, .int (nI ks), .int (nI (dn + (i + 1))), .ref a2, .ref a3, .ref a4, .ref a5, .ref a6, .int (nI xa), .int ri, .int fa, .int fq, .int bg, .long tm, .int ka, .long kb, .int va, .long vb])), (a2, .inl (c2_, 1000, .inr (.inl (flL gk dn ky (i + 1))))), (a3, .inl (c3_, 1000, .inl (flC gkb dn xkb (i + 1)))), (a4, .inl (c4_, 1000, .inr (.inl (flL gv dn vy (i + 1))))), (a5, .inl (c5_, 1000, .inl (flC gvb dn xvb (i + 1)))), (a6, .inl (c6_, 1000, .inl (flP gl dn la (i + 1))))]) hD (cg6 (fun y0 y1 y2 y3 y4 y5 => ([(aM, .inr (7, [.int 0, .ref a1, .int (nI ks), .int y0, .ref a2, .ref a3, .ref a4, .ref a5, .ref a6, .int (nI xa), .int ri, .int fa, .int fq, .int bg, .long tm, .int ka, .long kb, .int va, .long vb])), (a2, .inl (c2_, 1000, .inr (.inl y1))), (a3, .inl (c3_, 1000, .inl y2)), (a4, .inl (c4_, 1000, .inr (.inl y3))), (a5, .inl (c5_, 1000, .inl y4)), (a6, .inl (c6_, 1000, .inl y5))] : va_W)) e_16 e_17 e_18 e_19 e_20 e_21)
        have hl := wL_eq (lv' := [(10, .int (nI (i + 1))), (9, .int (nI dn)), (0, .ref aM), (1, .int (nI j)), (2, .long ky), (4, .int xkb), (5, .long vy), (7, .int xvb), (8, .int la)]) hl (cg1 (fun y0 => ([(10, .int y0), (9, .int (nI dn)), (0, .ref aM), (1, .int (nI j)), (2, .long ky), (4, .int xkb), (5, .long vy), (7, .int xvb), (8, .int la)] : List (Nat × Value))) e_22)
        exact ih93 (i + 1) _ _ _ ⟨by show (i + 1) ≤ j; omega, hP.sub [0, 1, 2, 3, 4, 5] rfl, hD.sub [0, 1, 2, 3, 4, 5] (by decide) rfl, hS, lv_sub hl [0, 1, 2, 3, 4, 5, 6, 7, 8] rfl⟩ (by show j - (i + 1) < j - i; omega)
    · exact absurd (by decide) c_1
  · refine lv_icmp_lt (tgt := 51) hx hb dc_M_record_3 (by decide) (fun c_23 => ?_) (fun c_23 => ?_)
    · exfalso; exact absurd c_23 (nI_nlt (b := 1) h1 (by omega))
    · refine lv_iload_n hx hb dc_M_record_6 rfl (lv_at hl 1 rfl) ?_
      refine lv_bipush (v := 100) hx hb dc_M_record_7 (by decide) ?_
      refine lv_icmp_gt (tgt := 51) hx hb dc_M_record_9 (by decide) (fun c_24 => ?_) (fun c_24 => ?_)
      · exfalso; exact absurd c_24 (nI_nlt (a := 100) h2 (by omega))
      · refine lv_iload hx hb dc_M_record_12 (lv_at hl 3 rfl) ?_
        refine lv_iconst (v := (-1)) hx hb dc_M_record_14 (by decide) ?_
        refine lv_icmp_lt (tgt := 51) hx hb dc_M_record_15 (by decide) (fun c_25 => ?_) (fun c_25 => ?_)
        · exfalso; exact hk0 c_25
        · refine lv_iload hx hb dc_M_record_18 (lv_at hl 3 rfl) ?_
          refine lv_bipush (v := 8) hx hb dc_M_record_20 (by decide) ?_
          refine lv_icmp_gt (tgt := 51) hx hb dc_M_record_22 (by decide) (fun c_26 => ?_) (fun c_26 => ?_)
          · exfalso; exact hk8 c_26
          · refine lv_iload hx hb dc_M_record_25 (lv_at hl 5 rfl) ?_
            refine lv_iconst (v := (-1)) hx hb dc_M_record_27 (by decide) ?_
            refine lv_icmp_lt (tgt := 51) hx hb dc_M_record_28 (by decide) (fun c_27 => ?_) (fun c_27 => ?_)
            · exfalso; exact hv0 c_27
            · refine lv_iload hx hb dc_M_record_31 (lv_at hl 5 rfl) ?_
              refine lv_sipush (v := 300) hx hb dc_M_record_33 (by decide) ?_
              refine lv_icmp_gt (tgt := 51) hx hb dc_M_record_36 (by decide) (fun c_28 => ?_) (fun c_28 => ?_)
              · exfalso; exact hv3 c_28
              · refine lv_iload hx hb dc_M_record_39 (lv_at hl 6 rfl) ?_
                refine lv_if_lt (tgt := 51) hx hb dc_M_record_41 (by decide) (fun c_29 => ?_) (fun c_29 => ?_)
                · exfalso; exact hl0 c_29
                · refine lv_iload hx hb dc_M_record_44 (lv_at hl 6 rfl) ?_
                  refine lv_ldc (v := 1000000) hx hb hown (hts _ bw4_29) dc_M_record_46 ?_
                  refine lv_icmp_le (tgt := 55) hx hb dc_M_record_48 (by decide) (fun c_30 => ?_) (fun c_30 => ?_)
                  · refine lv_aload_n hx hb dc_M_record_55 rfl (lv_at hl 0 rfl) ?_
                    refine va_get (D := (dC, dI)) (ci := 7) (v := .int (nI dn)) (C := rn_M) (T := ft_M) (N := 19) hx hb hts fw_M hown hK hP 0 rfl rfl 3 (by decide) (hts _ bw3_162) (fun _ h9 => h9) rfl dc_M_record_56 ?_
                    refine lv_iload_n hx hb dc_M_record_59 rfl (lv_at hl 1 rfl) ?_
                    refine lv_iadd hx hb dc_M_record_60 ?_
                    refine lv_sipush (v := 1000) hx hb dc_M_record_61 (by decide) ?_
                    refine lv_icmp_le (tgt := 71) hx hb dc_M_record_64 (by decide) (fun c_31 => ?_) (fun c_31 => ?_)
                    · refine lv_iconst (v := 0) hx hb dc_M_record_71 (by decide) ?_
                      exact hJ72 () _ _ _ ⟨hP.sub [0, 1, 2, 3, 4, 5] rfl, hD.sub [0, 1, 2, 3, 4, 5] (by decide) rfl, hS, lv_sub hl [0, 1, 2, 3, 4, 5, 6] rfl⟩
                    · exact absurd (by rw [nI_add]; exact nI_le (b := 1000) hn (by omega)) c_31
                  · exact absurd (hl1) c_30
