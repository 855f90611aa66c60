set_option maxHeartbeats 1000000 in
set_option maxRecDepth 100000 in
theorem c_M_thrown (l : Launch) (dC : Nat → ClassId) (dI : Nat → Nat → Nat) (sz : Nat) (aM : Nat) (co : Int32) (a1 : Nat) (ks : Nat) (dn : Nat) (a2 : Nat) (a3 : Nat) (a4 : Nat) (a5 : Nat) (a6 : Nat) (xa : Nat) (ri : Int32) (fa : Int32) (fq : Int32) (bg : Int32) (tm : Int64) (ka : Int32) (kb : Int64) (va : Int32) (vb : Int64) : Met l my_M_thrown (wB my_M_thrown cd_M_thrown 1 (some .int)) ({ frames := 0, cells := 0, slots := 0, locals := 0 }) (va_Pc [.ref aM] (PcW (dC, dI) [(aM, .inr (7, [.int co, .ref a1, .int (nI ks), .int (nI dn), .ref a2, .ref a3, .ref a4, .ref a5, .ref a6, .int (nI xa), .int ri, .int fa, .int fq, .int bg, .long tm, .int ka, .long kb, .int va, .long vb]))] [] sz)) (va_Qi (fun (r : Int32) => fun (_ : Unit) => r = co) (fun _ => EnW (dC, dI) (va_A [(aM, .inr (7, [.int co, .ref a1, .int (nI ks), .int (nI dn), .ref a2, .ref a3, .ref a4, .ref a5, .ref a6, .int (nI xa), .int ri, .int fa, .int fq, .int bg, .long tm, .int ka, .long kb, .int va, .long vb]))] sz) [(aM, .inr (7, [.int co, .ref a1, .int (nI ks), .int (nI dn), .ref a2, .ref a3, .ref a4, .ref a5, .ref a6, .int (nI xa), .int ri, .int fa, .int fq, .int bg, .long tm, .int ka, .long kb, .int va, .long vb]))] []) (va_A [(aM, .inr (7, [.int co, .ref a1, .int (nI ks), .int (nI dn), .ref a2, .ref a3, .ref a4, .ref a5, .ref a6, .int (nI xa), .int ri, .int fa, .int fq, .int bg, .long tm, .int ka, .long kb, .int va, .long vb]))] sz)) 0 0 (va_A [(aM, .inr (7, [.int co, .ref a1, .int (nI ks), .int (nI dn), .ref a2, .ref a3, .ref a4, .ref a5, .ref a6, .int (nI xa), .int ri, .int fa, .int fq, .int bg, .long tm, .int ka, .long kb, .int va, .long vb]))] sz) := by
  refine Met.ofW (cc := cd_M_thrown) (maxL := 1) (ret := (some .int)) (by decide) rfl ?_
  intro p e s m args below meth c s₁ B hml hv
  obtain ⟨rfl, hsz, hP, hK, hD0, hG⟩ := hv
  have hx := B.exec
  have hb := B.bytes
  have hr := B.returns
  have hts := fun (w : Cond) (h : w ∈ bigT) => atoms_spec (ws := (wB my_M_thrown cd_M_thrown 1 (some .int))) B.pre w (List.mem_cons_of_mem _ h)
  have hown : s.vm.findClass rn_M = some m.cls := findClass_of_methodNamed B.named
  have hlocks := B.notSynchronized
  subst hsz
  have hD := hD0.self (sz := s.heap.size)
  generalize hAe : va_A [(aM, .inr (7, [.int co, .ref a1, .int (nI ks), .int (nI dn), .ref a2, .ref a3, .ref a4, .ref a5, .ref a6, .int (nI xa), .int ri, .int fa, .int fq, .int bg, .long tm, .int ka, .long kb, .int va, .long vb]))] s.heap.size = A at hD hG ⊢
  have hA : ∀ q : Nat, s.heap.size ≤ q → A q := fun q h => by rw [← hAe]; exact Or.inr h
  have hS : va_S A s.heap s.heap [] := va_S.rf
  have hP : va_P (dC, dI) vwCl [(aM, .inr (7, [.int co, .ref a1, .int (nI ks), .int (nI dn), .ref a2, .ref a3, .ref a4, .ref a5, .ref a6, .int (nI xa), .int ri, .int fa, .int fq, .int bg, .long tm, .int ka, .long kb, .int va, .long vb]))] s.heap := hP
  have hl := lv_entry ([.ref aM]) (n := 1) (Nat.le_of_ble_eq_true rfl)
  rw [lg_entry_eq]
  generalize (lg_sl ([.ref aM]) ++ List.replicate (1 - (lg_sl ([.ref aM])).length) Slot.unset).toArray = ls at hl ⊢
  have hl : lv_has ls 1 [(0, .ref aM)] := hl
  refine lv_aload_n hx hb dc_M_thrown_0 rfl (lv_at hl 0 rfl) ?_
  refine va_get (D := (dC, dI)) (ci := 7) (v := .int co) (C := rn_M) (T := ft_M) (N := 19) hx hb hts fw_M hown hK hP 0 rfl rfl 0 (by decide) (hts _ bw3_159) (fun _ h9 => h9) rfl dc_M_thrown_1 ?_
  have hP9 := hP.sub (ws' := [(aM, .inr (7, [.int co, .ref a1, .int (nI ks), .int (nI dn), .ref a2, .ref a3, .ref a4, .ref a5, .ref a6, .int (nI xa), .int ri, .int fa, .int fq, .int bg, .long tm, .int ka, .long kb, .int va, .long vb]))]) [0] rfl
  have hD9 := hD.sub (ws' := [(aM, .inr (7, [.int co, .ref a1, .int (nI ks), .int (nI dn), .ref a2, .ref a3, .ref a4, .ref a5, .ref a6, .int (nI xa), .int ri, .int fa, .int fq, .int bg, .long tm, .int ka, .long kb, .int va, .long vb]))]) [0] (by decide) rfl
  have hK9 := hK.sub (tys' := []) [] rfl
  exact W.iret (v := co) hx hb hr (fun t ht hW => ⟨⟨co, (), rfl, rfl, by rw [ht]; exact hP9, va_K.moved hW.alike hK9, hD9⟩, hS.F ht⟩) hS.2.2 dc_M_thrown_4

set_option maxHeartbeats 1000000 in
set_option maxRecDepth 100000 in
theorem c_M_size (l : Launch) (dC : Nat → ClassId) (dI : Nat → Nat → Nat) (sz : Nat) (aM : Nat) (co : Int32) (a1 : Nat) (ks : Nat) (dn : Nat) (a2 : Nat) (a3 : Nat) (a4 : Nat) (a5 : Nat) (a6 : Nat) (xa : Nat) (ri : Int32) (fa : Int32) (fq : Int32) (bg : Int32) (tm : Int64) (ka : Int32) (kb : Int64) (va : Int32) (vb : Int64) : Met l my_M_size (wB my_M_size cd_M_size 1 (some .int)) ({ frames := 0, cells := 0, slots := 0, locals := 0 }) (va_Pc [.ref aM] (PcW (dC, dI) [(aM, .inr (7, [.int co, .ref a1, .int (nI ks), .int (nI dn), .ref a2, .ref a3, .ref a4, .ref a5, .ref a6, .int (nI xa), .int ri, .int fa, .int fq, .int bg, .long tm, .int ka, .long kb, .int va, .long vb]))] [] sz)) (va_Qi (fun (r : Int32) => fun (_ : Unit) => r = nI ks) (fun _ => EnW (dC, dI) (va_A [(aM, .inr (7, [.int co, .ref a1, .int (nI ks), .int (nI dn), .ref a2, .ref a3, .ref a4, .ref a5, .ref a6, .int (nI xa), .int ri, .int fa, .int fq, .int bg, .long tm, .int ka, .long kb, .int va, .long vb]))] sz) [(aM, .inr (7, [.int 0, .ref a1, .int (nI ks), .int (nI dn), .ref a2, .ref a3, .ref a4, .ref a5, .ref a6, .int (nI xa), .int ri, .int fa, .int fq, .int bg, .long tm, .int ka, .long kb, .int va, .long vb]))] []) (va_A [(aM, .inr (7, [.int co, .ref a1, .int (nI ks), .int (nI dn), .ref a2, .ref a3, .ref a4, .ref a5, .ref a6, .int (nI xa), .int ri, .int fa, .int fq, .int bg, .long tm, .int ka, .long kb, .int va, .long vb]))] sz)) 0 0 (va_A [(aM, .inr (7, [.int co, .ref a1, .int (nI ks), .int (nI dn), .ref a2, .ref a3, .ref a4, .ref a5, .ref a6, .int (nI xa), .int ri, .int fa, .int fq, .int bg, .long tm, .int ka, .long kb, .int va, .long vb]))] sz) := by
  refine Met.ofW (cc := cd_M_size) (maxL := 1) (ret := (some .int)) (by decide) rfl ?_
  intro p e s m args below meth c s₁ B hml hv
  obtain ⟨rfl, hsz, hP, hK, hD0, hG⟩ := hv
  have hx := B.exec
  have hb := B.bytes
  have hr := B.returns
  have hts := fun (w : Cond) (h : w ∈ bigT) => atoms_spec (ws := (wB my_M_size cd_M_size 1 (some .int))) B.pre w (List.mem_cons_of_mem _ h)
  have hown : s.vm.findClass rn_M = some m.cls := findClass_of_methodNamed B.named
  have hlocks := B.notSynchronized
  subst hsz
  have hD := hD0.self (sz := s.heap.size)
  generalize hAe : va_A [(aM, .inr (7, [.int co, .ref a1, .int (nI ks), .int (nI dn), .ref a2, .ref a3, .ref a4, .ref a5, .ref a6, .int (nI xa), .int ri, .int fa, .int fq, .int bg, .long tm, .int ka, .long kb, .int va, .long vb]))] s.heap.size = A at hD hG ⊢
  have hA : ∀ q : Nat, s.heap.size ≤ q → A q := fun q h => by rw [← hAe]; exact Or.inr h
  have hS : va_S A s.heap s.heap [] := va_S.rf
  have hP : va_P (dC, dI) vwCl [(aM, .inr (7, [.int co, .ref a1, .int (nI ks), .int (nI dn), .ref a2, .ref a3, .ref a4, .ref a5, .ref a6, .int (nI xa), .int ri, .int fa, .int fq, .int bg, .long tm, .int ka, .long kb, .int va, .long vb]))] s.heap := hP
  have hl := lv_entry ([.ref aM]) (n := 1) (Nat.le_of_ble_eq_true rfl)
  rw [lg_entry_eq]
  generalize (lg_sl ([.ref aM]) ++ List.replicate (1 - (lg_sl ([.ref aM])).length) Slot.unset).toArray = ls at hl ⊢
  have hl : lv_has ls 1 [(0, .ref aM)] := hl
  refine lv_aload_n hx hb dc_M_size_0 rfl (lv_at hl 0 rfl) ?_
  refine lv_iconst (v := 0) hx hb dc_M_size_1 (by decide) ?_
  refine va_put (D := (dC, dI)) (ci := 7) (v := .int 0) (ty := .int) (C := rn_M) (T := ft_M) (N := 19) hx hb hts fw_M fy_M fo_M fn_M hown hK hP hD hS 0 rfl rfl 0 (by decide) (hts _ bw3_159) (fun _ h9 => h9) rfl (by decide +kernel) rfl rfl (Nat.le_of_ble_eq_true rfl) dc_M_size_2 (fun H locs hP hD hS => ?_)
  have hP : va_P (dC, dI) vwCl [(aM, .inr (7, [.int 0, .ref a1, .int (nI ks), .int (nI dn), .ref a2, .ref a3, .ref a4, .ref a5, .ref a6, .int (nI xa), .int ri, .int fa, .int fq, .int bg, .long tm, .int ka, .long kb, .int va, .long vb]))] H := hP
  have hD : va_D A [(aM, .inr (7, [.int 0, .ref a1, .int (nI ks), .int (nI dn), .ref a2, .ref a3, .ref a4, .ref a5, .ref a6, .int (nI xa), .int ri, .int fa, .int fq, .int bg, .long tm, .int ka, .long kb, .int va, .long vb]))] := hD
  refine lv_aload_n hx hb dc_M_size_5 rfl (lv_at hl 0 rfl) ?_
  refine va_get (D := (dC, dI)) (ci := 7) (v := .int (nI ks)) (C := rn_M) (T := ft_M) (N := 19) hx hb hts fw_M hown hK hP 0 rfl rfl 2 (by decide) (hts _ bw3_161) (fun _ h9 => h9) rfl dc_M_size_6 ?_
  have hP9 := hP.sub (ws' := [(aM, .inr (7, [.int 0, .ref a1, .int (nI ks), .int (nI dn), .ref a2, .ref a3, .ref a4, .ref a5, .ref a6, .int (nI xa), .int ri, .int fa, .int fq, .int bg, .long tm, .int ka, .long kb, .int va, .long vb]))]) [0] rfl
  have hD9 := hD.sub (ws' := [(aM, .inr (7, [.int 0, .ref a1, .int (nI ks), .int (nI dn), .ref a2, .ref a3, .ref a4, .ref a5, .ref a6, .int (nI xa), .int ri, .int fa, .int fq, .int bg, .long tm, .int ka, .long kb, .int va, .long vb]))]) [0] (by decide) rfl
  have hK9 := hK.sub (tys' := []) [] rfl
  exact W.iret (v := (nI ks)) hx hb hr (fun t ht hW => ⟨⟨(nI ks), (), rfl, rfl, by rw [ht]; exact hP9, va_K.moved hW.alike hK9, hD9⟩, hS.F ht⟩) hS.2.2 dc_M_size_9

set_option maxHeartbeats 1000000 in
set_option maxRecDepth 100000 in
theorem c_M_clear (l : Launch) (dC : Nat → ClassId) (dI : Nat → Nat → Nat) (sz : Nat) (aM : Nat) (co : Int32) (a1 : Nat) (ks : Nat) (dn : Nat) (a2 : Nat) (a3 : Nat) (a4 : Nat) (a5 : Nat) (a6 : Nat) (xa : Nat) (ri : Int32) (fa : Int32) (fq : Int32) (bg : Int32) (tm : Int64) (ka : Int32) (kb : Int64) (va : Int32) (vb : Int64) : Met l my_M_clear (wB my_M_clear cd_M_clear 2 (some .int)) ({ frames := 0, cells := 0, slots := 0, locals := 0 }) (va_Pc [.ref aM] (PcW (dC, dI) [(aM, .inr (7, [.int co, .ref a1, .int (nI ks), .int (nI dn), .ref a2, .ref a3, .ref a4, .ref a5, .ref a6, .int (nI xa), .int ri, .int fa, .int fq, .int bg, .long tm, .int ka, .long kb, .int va, .long vb]))] [] sz)) (va_Qi (fun (r : Int32) => fun (_ : Unit) => r = nI dn) (fun _ => EnW (dC, dI) (va_A [(aM, .inr (7, [.int co, .ref a1, .int (nI ks), .int (nI dn), .ref a2, .ref a3, .ref a4, .ref a5, .ref a6, .int (nI xa), .int ri, .int fa, .int fq, .int bg, .long tm, .int ka, .long kb, .int va, .long vb]))] sz) [(aM, .inr (7, [.int 0, .ref a1, .int (nI ks), .int (nI 0), .ref a2, .ref a3, .ref a4, .ref a5, .ref a6, .int (nI xa), .int ri, .int fa, .int fq, .int bg, .long tm, .int ka, .long kb, .int va, .long vb]))] []) (va_A [(aM, .inr (7, [.int co, .ref a1, .int (nI ks), .int (nI dn), .ref a2, .ref a3, .ref a4, .ref a5, .ref a6, .int (nI xa), .int ri, .int fa, .int fq, .int bg, .long tm, .int ka, .long kb, .int va, .long vb]))] sz)) 0 0 (va_A [(aM, .inr (7, [.int co, .ref a1, .int (nI ks), .int (nI dn), .ref a2, .ref a3, .ref a4, .ref a5, .ref a6, .int (nI xa), .int ri, .int fa, .int fq, .int bg, .long tm, .int ka, .long kb, .int va, .long vb]))] sz) := by
  refine Met.ofW (cc := cd_M_clear) (maxL := 2) (ret := (some .int)) (by decide) rfl ?_
  intro p e s m args below meth c s₁ B hml hv
  obtain ⟨rfl, hsz, hP, hK, hD0, hG⟩ := hv
  have hx := B.exec
  have hb := B.bytes
  have hr := B.returns
  have hts := fun (w : Cond) (h : w ∈ bigT) => atoms_spec (ws := (wB my_M_clear cd_M_clear 2 (some .int))) B.pre w (List.mem_cons_of_mem _ h)
  have hown : s.vm.findClass rn_M = some m.cls := findClass_of_methodNamed B.named
  have hlocks := B.notSynchronized
  subst hsz
  have hD := hD0.self (sz := s.heap.size)
  generalize hAe : va_A [(aM, .inr (7, [.int co, .ref a1, .int (nI ks), .int (nI dn), .ref a2, .ref a3, .ref a4, .ref a5, .ref a6, .int (nI xa), .int ri, .int fa, .int fq, .int bg, .long tm, .int ka, .long kb, .int va, .long vb]))] s.heap.size = A at hD hG ⊢
  have hA : ∀ q : Nat, s.heap.size ≤ q → A q := fun q h => by rw [← hAe]; exact Or.inr h
  have hS : va_S A s.heap s.heap [] := va_S.rf
  have hP : va_P (dC, dI) vwCl [(aM, .inr (7, [.int co, .ref a1, .int (nI ks), .int (nI dn), .ref a2, .ref a3, .ref a4, .ref a5, .ref a6, .int (nI xa), .int ri, .int fa, .int fq, .int bg, .long tm, .int ka, .long kb, .int va, .long vb]))] s.heap := hP
  have hl := lv_entry ([.ref aM]) (n := 2) (Nat.le_of_ble_eq_true rfl)
  rw [lg_entry_eq]
  generalize (lg_sl ([.ref aM]) ++ List.replicate (2 - (lg_sl ([.ref aM])).length) Slot.unset).toArray = ls at hl ⊢
  have hl : lv_has ls 2 [(0, .ref aM)] := hl
  refine lv_aload_n hx hb dc_M_clear_0 rfl (lv_at hl 0 rfl) ?_
  refine lv_iconst (v := 0) hx hb dc_M_clear_1 (by decide) ?_
  refine va_put (D := (dC, dI)) (ci := 7) (v := .int 0) (ty := .int) (C := rn_M) (T := ft_M) (N := 19) hx hb hts fw_M fy_M fo_M fn_M hown hK hP hD hS 0 rfl rfl 0 (by decide) (hts _ bw3_159) (fun _ h9 => h9) rfl (by decide +kernel) rfl rfl (Nat.le_of_ble_eq_true rfl) dc_M_clear_2 (fun H locs hP hD hS => ?_)
  have hP : va_P (dC, dI) vwCl [(aM, .inr (7, [.int 0, .ref a1, .int (nI ks), .int (nI dn), .ref a2, .ref a3, .ref a4, .ref a5, .ref a6, .int (nI xa), .int ri, .int fa, .int fq, .int bg, .long tm, .int ka, .long kb, .int va, .long vb]))] H := hP
  have hD : va_D A [(aM, .inr (7, [.int 0, .ref a1, .int (nI ks), .int (nI dn), .ref a2, .ref a3, .ref a4, .ref a5, .ref a6, .int (nI xa), .int ri, .int fa, .int fq, .int bg, .long tm, .int ka, .long kb, .int va, .long vb]))] := hD
  refine lv_aload_n hx hb dc_M_clear_5 rfl (lv_at hl 0 rfl) ?_
  refine va_get (D := (dC, dI)) (ci := 7) (v := .int (nI dn)) (C := rn_M) (T := ft_M) (N := 19) hx hb hts fw_M hown hK hP 0 rfl rfl 3 (by decide) (hts _ bw3_162) (fun _ h9 => h9) rfl dc_M_clear_6 ?_
  refine lv_istore_n (lv' := [(1, .int (nI dn)), (0, .ref aM)]) hx hb dc_M_clear_9 rfl hl (by decide) rfl (fun ls hl => ?_)
  refine lv_aload_n hx hb dc_M_clear_10 rfl (lv_at hl 1 rfl) ?_
  refine lv_iconst (v := 0) hx hb dc_M_clear_11 (by decide) ?_
  refine va_put (D := (dC, dI)) (ci := 7) (v := .int 0) (ty := .int) (C := rn_M) (T := ft_M) (N := 19) hx hb hts fw_M fy_M fo_M fn_M hown hK hP hD hS 0 rfl rfl 3 (by decide) (hts _ bw3_162) (fun _ h9 => h9) rfl (by decide +kernel) rfl rfl (Nat.le_of_ble_eq_true rfl) dc_M_clear_12 (fun H locs hP hD hS => ?_)
  have hP : va_P (dC, dI) vwCl [(aM, .inr (7, [.int 0, .ref a1, .int (nI ks), .int 0, .ref a2, .ref a3, .ref a4, .ref a5, .ref a6, .int (nI xa), .int ri, .int fa, .int fq, .int bg, .long tm, .int ka, .long kb, .int va, .long vb]))] H := hP
  have hD : va_D A [(aM, .inr (7, [.int 0, .ref a1, .int (nI ks), .int 0, .ref a2, .ref a3, .ref a4, .ref a5, .ref a6, .int (nI xa), .int ri, .int fa, .int fq, .int bg, .long tm, .int ka, .long kb, .int va, .long vb]))] := hD
  refine lv_iload_n hx hb dc_M_clear_15 rfl (lv_at hl 0 rfl) ?_
  have hP9 := hP.sub (ws' := [(aM, .inr (7, [.int 0, .ref a1, .int (nI ks), .int (nI 0), .ref a2, .ref a3, .ref a4, .ref a5, .ref a6, .int (nI xa), .int ri, .int fa, .int fq, .int bg, .long tm, .int ka, .long kb, .int va, .long vb]))]) [0] rfl
  have hD9 := hD.sub (ws' := [(aM, .inr (7, [.int 0, .ref a1, .int (nI ks), .int (nI 0), .ref a2, .ref a3, .ref a4, .ref a5, .ref a6, .int (nI xa), .int ri, .int fa, .int fq, .int bg, .long tm, .int ka, .long kb, .int va, .long vb]))]) [0] (by decide) rfl
  have hK9 := hK.sub (tys' := []) [] rfl
  exact W.iret (v := (nI dn)) hx hb hr (fun t ht hW => ⟨⟨(nI dn), (), rfl, rfl, by rw [ht]; exact hP9, va_K.moved hW.alike hK9, hD9⟩, hS.F ht⟩) hS.2.2 dc_M_clear_16

set_option maxHeartbeats 1000000 in
set_option maxRecDepth 100000 in
theorem c_M_isByte (l : Launch) (dC : Nat → ClassId) (dI : Nat → Nat → Nat) (sz : Nat) (aM : Nat) (co : Int32) (a1 : Nat) (ks : Nat) (dn : Nat) (a2 : Nat) (a3 : Nat) (a4 : Nat) (a5 : Nat) (a6 : Nat) (xa : Nat) (ri : Int32) (fa : Int32) (fq : Int32) (bg : Int32) (tm : Int64) (ka : Int32) (kb : Int64) (va : Int32) (vb : Int64) (i : Int32) : Met l my_M_isByte (wB my_M_isByte cd_M_isByte 2 (some .boolean)) ({ frames := 0, cells := 0, slots := 0, locals := 0 }) (va_Pc [.ref aM, .int i] (PcW (dC, dI) [(aM, .inr (7, [.int co, .ref a1, .int (nI ks), .int (nI dn), .ref a2, .ref a3, .ref a4, .ref a5, .ref a6, .int (nI xa), .int ri, .int fa, .int fq, .int bg, .long tm, .int ka, .long kb, .int va, .long vb]))] [] sz)) (va_Qi (fun (r : Int32) => fun (_ : Unit) => r = hasC ks i) (fun _ => EnW (dC, dI) (va_A [(aM, .inr (7, [.int co, .ref a1, .int (nI ks), .int (nI dn), .ref a2, .ref a3, .ref a4, .ref a5, .ref a6, .int (nI xa), .int ri, .int fa, .int fq, .int bg, .long tm, .int ka, .long kb, .int va, .long vb]))] sz) [(aM, .inr (7, [.int co, .ref a1, .int (nI ks), .int (nI dn), .ref a2, .ref a3, .ref a4, .ref a5, .ref a6, .int (nI xa), .int ri, .int fa, .int fq, .int bg, .long tm, .int ka, .long kb, .int va, .long vb]))] []) (va_A [(aM, .inr (7, [.int co, .ref a1, .int (nI ks), .int (nI dn), .ref a2, .ref a3, .ref a4, .ref a5, .ref a6, .int (nI xa), .int ri, .int fa, .int fq, .int bg, .long tm, .int ka, .long kb, .int va, .long vb]))] sz)) 0 0 (va_A [(aM, .inr (7, [.int co, .ref a1, .int (nI ks), .int (nI dn), .ref a2, .ref a3, .ref a4, .ref a5, .ref a6, .int (nI xa), .int ri, .int fa, .int fq, .int bg, .long tm, .int ka, .long kb, .int va, .long vb]))] sz) := by
  refine Met.ofW (cc := cd_M_isByte) (maxL := 2) (ret := (some .boolean)) (by decide) rfl ?_
  intro p e s m args below meth c s₁ B hml hv
  obtain ⟨rfl, hsz, hP, hK, hD0, hG⟩ := hv
  have hx := B.exec
  have hb := B.bytes
  have hr := B.returns
  have hts := fun (w : Cond) (h : w ∈ bigT) => atoms_spec (ws := (wB my_M_isByte cd_M_isByte 2 (some .boolean))) B.pre w (List.mem_cons_of_mem _ h)
  have hown : s.vm.findClass rn_M = some m.cls := findClass_of_methodNamed B.named
  have hlocks := B.notSynchronized
  subst hsz
  have hD := hD0.self (sz := s.heap.size)
  generalize hAe : va_A [(aM, .inr (7, [.int co, .ref a1, .int (nI ks), .int (nI dn), .ref a2, .ref a3, .ref a4, .ref a5, .ref a6, .int (nI xa), .int ri, .int fa, .int fq, .int bg, .long tm, .int ka, .long kb, .int va, .long vb]))] s.heap.size = A at hD hG ⊢
  have hA : ∀ q : Nat, s.heap.size ≤ q → A q := fun q h => by rw [← hAe]; exact Or.inr h
  have hS : va_S A s.heap s.heap [] := va_S.rf
  have hP : va_P (dC, dI) vwCl [(aM, .inr (7, [.int co, .ref a1, .int (nI ks), .int (nI dn), .ref a2, .ref a3, .ref a4, .ref a5, .ref a6, .int (nI xa), .int ri, .int fa, .int fq, .int bg, .long tm, .int ka, .long kb, .int va, .long vb]))] s.heap := hP
  have hl := lv_entry ([.ref aM, .int i]) (n := 2) (Nat.le_of_ble_eq_true rfl)
  rw [lg_entry_eq]
  generalize (lg_sl ([.ref aM, .int i]) ++ List.replicate (2 - (lg_sl ([.ref aM, .int i])).length) Slot.unset).toArray = ls at hl ⊢
  have hl : lv_has ls 2 [(0, .ref aM), (1, .int i)] := hl
  refine lv_iload_n hx hb dc_M_isByte_0 rfl (lv_at hl 1 rfl) ?_
  refine w_join (σ := Int32) (fun v17_0 H locs ls => v17_0 = (if i < 0 then 0 else if (nI ks) ≤ i then 0 else 1) ∧ va_P (dC, dI) vwCl [(aM, .inr (7, [.int co, .ref a1, .int (nI ks), .int (nI dn), .ref a2, .ref a3, .ref a4, .ref a5, .ref a6, .int (nI xa), .int ri, .int fa, .int fq, .int bg, .long tm, .int ka, .long kb, .int va, .long vb]))] H ∧ va_D A [(aM, .inr (7, [.int co, .ref a1, .int (nI ks), .int (nI dn), .ref a2, .ref a3, .ref a4, .ref a5, .ref a6, .int (nI xa), .int ri, .int fa, .int fq, .int bg, .long tm, .int ka, .long kb, .int va, .long vb]))] ∧ va_S A s.heap H locs ∧ lv_has ls 2 [(0, .ref aM), (1, .int i)]) (fun v17_0 ls => F0 m 17 ls [.int v17_0]) ?_ (fun hJ17 => ?_)
  · rintro v17_0 H locs ls ⟨ev17_0, hP, hD, hS, hl⟩
    have hP : va_P (dC, dI) vwCl [(aM, .inr (7, [.int co, .ref a1, .int (nI ks), .int (nI dn), .ref a2, .ref a3, .ref a4, .ref a5, .ref a6, .int (nI xa), .int ri, .int fa, .int fq, .int bg, .long tm, .int ka, .long kb, .int va, .long vb]))] H := hP
    have hD : va_D A [(aM, .inr (7, [.int co, .ref a1, .int (nI ks), .int (nI dn), .ref a2, .ref a3, .ref a4, .ref a5, .ref a6, .int (nI xa), .int ri, .int fa, .int fq, .int bg, .long tm, .int ka, .long kb, .int va, .long vb]))] := hD
    have hl : lv_has ls 2 [(0, .ref aM), (1, .int i)] := hl
    show W _ _ _ _ _ _ _ _ _ _ _ _ _ _ _ (F0 m 17 ls [.int v17_0])
    have h01v17_0 : v17_0 = 0 ∨ v17_0 = 1 := by rw [ev17_0]; exact i01 (Or.inl rfl) (i01 (Or.inl rfl) (Or.inr rfl))
    have hP9 := hP.sub (ws' := [(aM, .inr (7, [.int co, .ref a1, .int (nI ks), .int (nI dn), .ref a2, .ref a3, .ref a4, .ref a5, .ref a6, .int (nI xa), .int ri, .int fa, .int fq, .int bg, .long tm, .int ka, .long kb, .int va, .long vb]))]) [0] rfl
    have hD9 := hD.sub (ws' := [(aM, .inr (7, [.int co, .ref a1, .int (nI ks), .int (nI dn), .ref a2, .ref a3, .ref a4, .ref a5, .ref a6, .int (nI xa), .int ri, .int fa, .int fq, .int bg, .long tm, .int ka, .long kb, .int va, .long vb]))]) [0] (by decide) rfl
    have hK9 := hK.sub (tys' := []) [] rfl
    exact W.zret (v := v17_0) hx hb hr (by rcases h01v17_0 with h | h <;> rw [h] <;> rfl) (fun t ht hW => ⟨⟨v17_0, (), rfl, ev17_0.trans rfl, by rw [ht]; exact hP9, va_K.moved hW.alike hK9, hD9⟩, hS.F ht⟩) hS.2.2 dc_M_isByte_17
  · refine lv_if_lt (tgt := 16) hx hb dc_M_isByte_1 (by decide) (fun c_1 => ?_) (fun c_1 => ?_)
    · refine lv_iconst (v := 0) hx hb dc_M_isByte_16 (by decide) ?_
      exact hJ17 0 _ _ _ ⟨by rw [if_pos c_1], hP.sub [0] rfl, hD.sub [0] (by decide) rfl, hS, lv_sub hl [0, 1] rfl⟩
    · refine lv_iload_n hx hb dc_M_isByte_4 rfl (lv_at hl 1 rfl) ?_
      refine lv_aload_n hx hb dc_M_isByte_5 rfl (lv_at hl 0 rfl) ?_
      refine va_get (D := (dC, dI)) (ci := 7) (v := .int (nI ks)) (C := rn_M) (T := ft_M) (N := 19) hx hb hts fw_M hown hK hP 0 rfl rfl 2 (by decide) (hts _ bw3_161) (fun _ h9 => h9) rfl dc_M_isByte_6 ?_
      refine lv_icmp_ge (tgt := 16) hx hb dc_M_isByte_9 (by decide) (fun c_2 => ?_) (fun c_2 => ?_)
      · refine lv_iconst (v := 0) hx hb dc_M_isByte_16 (by decide) ?_
        exact hJ17 0 _ _ _ ⟨by rw [if_neg c_1, if_pos c_2], hP.sub [0] rfl, hD.sub [0] (by decide) rfl, hS, lv_sub hl [0, 1] rfl⟩
      · refine lv_iconst (v := 1) hx hb dc_M_isByte_12 (by decide) ?_
        refine lv_goto (tgt := 17) hx hb dc_M_isByte_13 (by decide) ?_
        exact hJ17 1 _ _ _ ⟨by rw [if_neg c_1, if_neg c_2], hP.sub [0] rfl, hD.sub [0] (by decide) rfl, hS, lv_sub hl [0, 1] rfl⟩

set_option maxHeartbeats 1000000 in
set_option maxRecDepth 100000 in
theorem c_M_trim_ok (l : Launch) (dC : Nat → ClassId) (dI : Nat → Nat → Nat) (sz : Nat) (aM : Nat) (co : Int32) (a1 : Nat) (ks : Nat) (dn : Nat) (a2 : Nat) (a3 : Nat) (a4 : Nat) (a5 : Nat) (a6 : Nat) (xa : Nat) (ri : Int32) (fa : Int32) (fq : Int32) (bg : Int32) (tm : Int64) (ka : Int32) (kb : Int64) (va : Int32) (vb : Int64) (j : Nat) (hj : j ≤ ks) (hk : ks ≤ 16384) : Met l my_M_trim (wB my_M_trim cd_M_trim 2 (some .int)) ({ frames := 0, cells := 0, slots := 0, locals := 0 }) (va_Pc [.ref aM, .int (nI j)] (PcW (dC, dI) [(aM, .inr (7, [.int co, .ref a1, .int (nI ks), .int (nI dn), .ref a2, .ref a3, .ref a4, .ref a5, .ref a6, .int (nI xa), .int ri, .int fa, .int fq, .int bg, .long tm, .int ka, .long kb, .int va, .long vb]))] [] sz)) (va_Qi (fun (r : Int32) => fun (_ : Unit) => r = nI (ks - j)) (fun _ => EnW (dC, dI) (va_A [(aM, .inr (7, [.int co, .ref a1, .int (nI ks), .int (nI dn), .ref a2, .ref a3, .ref a4, .ref a5, .ref a6, .int (nI xa), .int ri, .int fa, .int fq, .int bg, .long tm, .int ka, .long kb, .int va, .long vb]))] sz) [(aM, .inr (7, [.int 0, .ref a1, .int (nI (ks - j)), .int (nI dn), .ref a2, .ref a3, .ref a4, .ref a5, .ref a6, .int (nI xa), .int ri, .int fa, .int fq, .int bg, .long tm, .int ka, .long kb, .int va, .long vb]))] []) (va_A [(aM, .inr (7, [.int co, .ref a1, .int (nI ks), .int (nI dn), .ref a2, .ref a3, .ref a4, .ref a5, .ref a6, .int (nI xa), .int ri, .int fa, .int fq, .int bg, .long tm, .int ka, .long kb, .int va, .long vb]))] sz)) 0 0 (va_A [(aM, .inr (7, [.int co, .ref a1, .int (nI ks), .int (nI dn), .ref a2, .ref a3, .ref a4, .ref a5, .ref a6, .int (nI xa), .int ri, .int fa, .int fq, .int bg, .long tm, .int ka, .long kb, .int va, .long vb]))] sz) := by
  refine Met.ofW (cc := cd_M_trim) (maxL := 2) (ret := (some .int)) (by decide) rfl ?_
  intro p e s m args below meth c s₁ B hml hv
  obtain ⟨rfl, hsz, hP, hK, hD0, hG⟩ := hv
  have hx := B.exec
  have hb := B.bytes
  have hr := B.returns
  have hts := fun (w : Cond) (h : w ∈ bigT) => atoms_spec (ws := (wB my_M_trim cd_M_trim 2 (some .int))) B.pre w (List.mem_cons_of_mem _ h)
  have hown : s.vm.findClass rn_M = some m.cls := findClass_of_methodNamed B.named
  have hlocks := B.notSynchronized
  subst hsz
  have hD := hD0.self (sz := s.heap.size)
  generalize hAe : va_A [(aM, .inr (7, [.int co, .ref a1, .int (nI ks), .int (nI dn), .ref a2, .ref a3, .ref a4, .ref a5, .ref a6, .int (nI xa), .int ri, .int fa, .int fq, .int bg, .long tm, .int ka, .long kb, .int va, .long vb]))] s.heap.size = A at hD hG ⊢
  have hA : ∀ q : Nat, s.heap.size ≤ q → A q := fun q h => by rw [← hAe]; exact Or.inr h
  have hS : va_S A s.heap s.heap [] := va_S.rf
  have hP : va_P (dC, dI) vwCl [(aM, .inr (7, [.int co, .ref a1, .int (nI ks), .int (nI dn), .ref a2, .ref a3, .ref a4, .ref a5, .ref a6, .int (nI xa), .int ri, .int fa, .int fq, .int bg, .long tm, .int ka, .long kb, .int va, .long vb]))] s.heap := hP
  have hl := lv_entry ([.ref aM, .int (nI j)]) (n := 2) (Nat.le_of_ble_eq_true rfl)
  rw [lg_entry_eq]
  generalize (lg_sl ([.ref aM, .int (nI j)]) ++ List.replicate (2 - (lg_sl ([.ref aM, .int (nI j)])).length) Slot.unset).toArray = ls at hl ⊢
  have hl : lv_has ls 2 [(0, .ref aM), (1, .int (nI j))] := hl
  refine lv_aload_n hx hb dc_M_trim_0 rfl (lv_at hl 0 rfl) ?_
  refine lv_iload_n hx hb dc_M_trim_1 rfl (lv_at hl 1 rfl) ?_
  refine w_join (σ := Unit) (fun v18_ H locs ls => va_P (dC, dI) vwCl [(aM, .inr (7, [.int co, .ref a1, .int (nI ks), .int (nI dn), .ref a2, .ref a3, .ref a4, .ref a5, .ref a6, .int (nI xa), .int ri, .int fa, .int fq, .int bg, .long tm, .int ka, .long kb, .int va, .long vb]))] H ∧ va_D A [(aM, .inr (7, [.int co, .ref a1, .int (nI ks), .int (nI dn), .ref a2, .ref a3, .ref a4, .ref a5, .ref a6, .int (nI xa), .int ri, .int fa, .int fq, .int bg, .long tm, .int ka, .long kb, .int va, .long vb]))] ∧ va_S A s.heap H locs ∧ lv_has ls 2 [(0, .ref aM), (1, .int (nI j))]) (fun v18_ ls => F0 m 18 ls [.int 0, .ref aM]) ?_ (fun hJ18 => ?_)
  · rintro v18_ H locs ls ⟨hP, hD, hS, hl⟩
    have hP : va_P (dC, dI) vwCl [(aM, .inr (7, [.int co, .ref a1, .int (nI ks), .int (nI dn), .ref a2, .ref a3, .ref a4, .ref a5, .ref a6, .int (nI xa), .int ri, .int fa, .int fq, .int bg, .long tm, .int ka, .long kb, .int va, .long vb]))] H := hP
    have hD : va_D A [(aM, .inr (7, [.int co, .ref a1, .int (nI ks), .int (nI dn), .ref a2, .ref a3, .ref a4, .ref a5, .ref a6, .int (nI xa), .int ri, .int fa, .int fq, .int bg, .long tm, .int ka, .long kb, .int va, .long vb]))] := hD
    have hl : lv_has ls 2 [(0, .ref aM), (1, .int (nI j))] := hl
    show W _ _ _ _ _ _ _ _ _ _ _ _ _ _ _ (F0 m 18 ls [.int 0, .ref aM])
    refine va_put (D := (dC, dI)) (ci := 7) (v := .int 0) (ty := .int) (C := rn_M) (T := ft_M) (N := 19) hx hb hts fw_M fy_M fo_M fn_M hown hK hP hD hS 0 rfl rfl 0 (by decide) (hts _ bw3_159) (fun _ h9 => h9) rfl (by decide +kernel) rfl rfl (Nat.le_of_ble_eq_true rfl) dc_M_trim_18 (fun H locs hP hD hS => ?_)
    have hP : va_P (dC, dI) vwCl [(aM, .inr (7, [.int 0, .ref a1, .int (nI ks), .int (nI dn), .ref a2, .ref a3, .ref a4, .ref a5, .ref a6, .int (nI xa), .int ri, .int fa, .int fq, .int bg, .long tm, .int ka, .long kb, .int va, .long vb]))] H := hP
    have hD : va_D A [(aM, .inr (7, [.int 0, .ref a1, .int (nI ks), .int (nI dn), .ref a2, .ref a3, .ref a4, .ref a5, .ref a6, .int (nI xa), .int ri, .int fa, .int fq, .int bg, .long tm, .int ka, .long kb, .int va, .long vb]))] := hD
    refine lv_aload_n hx hb dc_M_trim_21 rfl (lv_at hl 0 rfl) ?_
    refine va_get (D := (dC, dI)) (ci := 7) (v := .int 0) (C := rn_M) (T := ft_M) (N := 19) hx hb hts fw_M hown hK hP 0 rfl rfl 0 (by decide) (hts _ bw3_159) (fun _ h9 => h9) rfl dc_M_trim_22 ?_
    refine lv_if_le (tgt := 30) hx hb dc_M_trim_25 (by decide) (fun c_1 => ?_) (fun c_1 => ?_)
    · refine lv_aload_n hx hb dc_M_trim_30 rfl (lv_at hl 0 rfl) ?_
      refine lv_dup hx hb dc_M_trim_31 rfl ?_
      refine va_get (D := (dC, dI)) (ci := 7) (v := .int (nI ks)) (C := rn_M) (T := ft_M) (N := 19) hx hb hts fw_M hown hK hP 0 rfl rfl 2 (by decide) (hts _ bw3_161) (fun _ h9 => h9) rfl dc_M_trim_32 ?_
      refine lv_iload_n hx hb dc_M_trim_35 rfl (lv_at hl 1 rfl) ?_
      refine lv_isub hx hb dc_M_trim_36 ?_
      refine va_put (D := (dC, dI)) (ci := 7) (v := .int ((nI ks) - (nI j))) (ty := .int) (C := rn_M) (T := ft_M) (N := 19) hx hb hts fw_M fy_M fo_M fn_M hown hK hP hD hS 0 rfl rfl 2 (by decide) (hts _ bw3_161) (fun _ h9 => h9) rfl (by decide +kernel) rfl rfl (Nat.le_of_ble_eq_true rfl) dc_M_trim_37 (fun H locs hP hD hS => ?_)
      have hP : va_P (dC, dI) vwCl [(aM, .inr (7, [.int 0, .ref a1, .int ((nI ks) - (nI j)), .int (nI dn), .ref a2, .ref a3, .ref a4, .ref a5, .ref a6, .int (nI xa), .int ri, .int fa, .int fq, .int bg, .long tm, .int ka, .long kb, .int va, .long vb]))] H := hP
      have hD : va_D A [(aM, .inr (7, [.int 0, .ref a1, .int ((nI ks) - (nI j)), .int (nI dn), .ref a2, .ref a3, .ref a4, .ref a5, .ref a6, .int (nI xa), .int ri, .int fa, .int fq, .int bg, .long tm, .int ka, .long kb, .int va, .long vb]))] := hD
      refine lv_aload_n hx hb dc_M_trim_40 rfl (lv_at hl 0 rfl) ?_
      refine va_get (D := (dC, dI)) (ci := 7) (v := .int ((nI ks) - (nI j))) (C := rn_M) (T := ft_M) (N := 19) hx hb hts fw_M hown hK hP 0 rfl rfl 2 (by decide) (hts _ bw3_161) (fun _ h9 => h9) rfl dc_M_trim_41 ?_
      have e_2 : ((nI ks) - (nI j)) = (nI (ks - j)) := by first | rfl | exact nI_1 _ | exact nI_add _ _ | exact (pk_sub (by omega)) | exact congrArg nI (by omega)
      have hP := wP_eq (ws' := [(aM, .inr (7, [.int 0, .ref a1, .int (nI (ks - j)), .int (nI dn), .ref a2, .ref a3, .ref a4, .ref a5, .ref a6, .int (nI xa), .int ri, .int fa, .int fq, .int bg, .long tm, .int ka, .long kb, .int va, .long vb]))]) hP (cg1 (fun y0 => ([(aM, .inr (7, [.int 0, .ref a1, .int y0, .int (nI dn), .ref a2, .ref a3, .ref a4, .ref a5, .ref a6, .int (nI xa), .int ri, .int fa, .int fq, .int bg, .long tm, .int ka, .long kb, .int va, .long vb]))] : va_W)) e_2)
      have hD := wD_eq (ws' := [(aM, .inr (7, [.int 0, .ref a1, .int (nI (ks - j)), .int (nI dn), .ref a2, .ref a3, .ref a4, .ref a5, .ref a6, .int (nI xa), .int ri, .int fa, .int fq, .int bg, .long tm, .int ka, .long kb, .int va, .long vb]))]) hD (cg1 (fun y0 => ([(aM, .inr (7, [.int 0, .ref a1, .int y0, .int (nI dn), .ref a2, .ref a3, .ref a4, .ref a5, .ref a6, .int (nI xa), .int ri, .int fa, .int fq, .int bg, .long tm, .int ka, .long kb, .int va, .long vb]))] : va_W)) e_2)
      have hP9 := hP.sub (ws' := [(aM, .inr (7, [.int 0, .ref a1, .int (nI (ks - j)), .int (nI dn), .ref a2, .ref a3, .ref a4, .ref a5, .ref a6, .int (nI xa), .int ri, .int fa, .int fq, .int bg, .long tm, .int ka, .long kb, .int va, .long vb]))]) [0] rfl
      have hD9 := hD.sub (ws' := [(aM, .inr (7, [.int 0, .ref a1, .int (nI (ks - j)), .int (nI dn), .ref a2, .ref a3, .ref a4, .ref a5, .ref a6, .int (nI xa), .int ri, .int fa, .int fq, .int bg, .long tm, .int ka, .long kb, .int va, .long vb]))]) [0] (by decide) rfl
      have hK9 := hK.sub (tys' := []) [] rfl
      exact W.iret (v := ((nI ks) - (nI j))) hx hb hr (fun t ht hW => ⟨⟨((nI ks) - (nI j)), (), rfl, pk_sub hj, by rw [ht]; exact hP9, va_K.moved hW.alike hK9, hD9⟩, hS.F ht⟩) hS.2.2 dc_M_trim_44
    · exact absurd (by decide) c_1
  · refine lv_if_lt (tgt := 13) hx hb dc_M_trim_2 (by decide) (fun c_3 => ?_) (fun c_3 => ?_)
    · exfalso; exact nI_pos (by omega) c_3
    · refine lv_iload_n hx hb dc_M_trim_5 rfl (lv_at hl 1 rfl) ?_
      refine lv_aload_n hx hb dc_M_trim_6 rfl (lv_at hl 0 rfl) ?_
      refine va_get (D := (dC, dI)) (ci := 7) (v := .int (nI ks)) (C := rn_M) (T := ft_M) (N := 19) hx hb hts fw_M hown hK hP 0 rfl rfl 2 (by decide) (hts _ bw3_161) (fun _ h9 => h9) rfl dc_M_trim_7 ?_
      refine lv_icmp_le (tgt := 17) hx hb dc_M_trim_10 (by decide) (fun c_4 => ?_) (fun c_4 => ?_)
      · refine lv_iconst (v := 0) hx hb dc_M_trim_17 (by decide) ?_
        exact hJ18 () _ _ _ ⟨hP.sub [0] rfl, hD.sub [0] (by decide) rfl, hS, lv_sub hl [0, 1] rfl⟩
      · exact absurd (nI_le hj (by omega)) c_4

set_option maxHeartbeats 1000000 in
set_option maxRecDepth 100000 in
theorem c_M_trim_bad (l : Launch) (dC : Nat → ClassId) (dI : Nat → Nat → Nat) (sz : Nat) (aM : Nat) (co : Int32) (a1 : Nat) (ks : Nat) (dn : Nat) (a2 : Nat) (a3 : Nat) (a4 : Nat) (a5 : Nat) (a6 : Nat) (xa : Nat) (ri : Int32) (fa : Int32) (fq : Int32) (bg : Int32) (tm : Int64) (ka : Int32) (kb : Int64) (va : Int32) (vb : Int64) (i : Int32) (hj : i < 0 ∨ ¬ i ≤ nI ks) : Met l my_M_trim (wB my_M_trim cd_M_trim 2 (some .int)) ({ frames := 0, cells := 0, slots := 0, locals := 0 }) (va_Pc [.ref aM, .int i] (PcW (dC, dI) [(aM, .inr (7, [.int co, .ref a1, .int (nI ks), .int (nI dn), .ref a2, .ref a3, .ref a4, .ref a5, .ref a6, .int (nI xa), .int ri, .int fa, .int fq, .int bg, .long tm, .int ka, .long kb, .int va, .long vb]))] [] sz)) (va_Qi (fun (r : Int32) => fun (_ : Unit) => r = 0) (fun _ => EnW (dC, dI) (va_A [(aM, .inr (7, [.int co, .ref a1, .int (nI ks), .int (nI dn), .ref a2, .ref a3, .ref a4, .ref a5, .ref a6, .int (nI xa), .int ri, .int fa, .int fq, .int bg, .long tm, .int ka, .long kb, .int va, .long vb]))] sz) [(aM, .inr (7, [.int 1, .ref a1, .int (nI ks), .int (nI dn), .ref a2, .ref a3, .ref a4, .ref a5, .ref a6, .int (nI xa), .int ri, .int fa, .int fq, .int bg, .long tm, .int ka, .long kb, .int va, .long vb]))] []) (va_A [(aM, .inr (7, [.int co, .ref a1, .int (nI ks), .int (nI dn), .ref a2, .ref a3, .ref a4, .ref a5, .ref a6, .int (nI xa), .int ri, .int fa, .int fq, .int bg, .long tm, .int ka, .long kb, .int va, .long vb]))] sz)) 0 0 (va_A [(aM, .inr (7, [.int co, .ref a1, .int (nI ks), .int (nI dn), .ref a2, .ref a3, .ref a4, .ref a5, .ref a6, .int (nI xa), .int ri, .int fa, .int fq, .int bg, .long tm, .int ka, .long kb, .int va, .long vb]))] sz) := by
  refine Met.ofW (cc := cd_M_trim) (maxL := 2) (ret := (some .int)) (by decide) rfl ?_
  intro p e s m args below meth c s₁ B hml hv
  obtain ⟨rfl, hsz, hP, hK, hD0, hG⟩ := hv
  have hx := B.exec
  have hb := B.bytes
  have hr := B.returns
  have hts := fun (w : Cond) (h : w ∈ bigT) => atoms_spec (ws := (wB my_M_trim cd_M_trim 2 (some .int))) B.pre w (List.mem_cons_of_mem _ h)
  have hown : s.vm.findClass rn_M = some m.cls := findClass_of_methodNamed B.named
  have hlocks := B.notSynchronized
  subst hsz
  have hD := hD0.self (sz := s.heap.size)
  generalize hAe : va_A [(aM, .inr (7, [.int co, .ref a1, .int (nI ks), .int (nI dn), .ref a2, .ref a3, .ref a4, .ref a5, .ref a6, .int (nI xa), .int ri, .int fa, .int fq, .int bg, .long tm, .int ka, .long kb, .int va, .long vb]))] s.heap.size = A at hD hG ⊢
  have hA : ∀ q : Nat, s.heap.size ≤ q → A q := fun q h => by rw [← hAe]; exact Or.inr h
  have hS : va_S A s.heap s.heap [] := va_S.rf
  have hP : va_P (dC, dI) vwCl [(aM, .inr (7, [.int co, .ref a1, .int (nI ks), .int (nI dn), .ref a2, .ref a3, .ref a4, .ref a5, .ref a6, .int (nI xa), .int ri, .int fa, .int fq, .int bg, .long tm, .int ka, .long kb, .int va, .long vb]))] s.heap := hP
  have hl := lv_entry ([.ref aM, .int i]) (n := 2) (Nat.le_of_ble_eq_true rfl)
  rw [lg_entry_eq]
  generalize (lg_sl ([.ref aM, .int i]) ++ List.replicate (2 - (lg_sl ([.ref aM, .int i])).length) Slot.unset).toArray = ls at hl ⊢
  have hl : lv_has ls 2 [(0, .ref aM), (1, .int i)] := hl
  refine lv_aload_n hx hb dc_M_trim_0 rfl (lv_at hl 0 rfl) ?_
  refine lv_iload_n hx hb dc_M_trim_1 rfl (lv_at hl 1 rfl) ?_
  refine lv_if_lt (tgt := 13) hx hb dc_M_trim_2 (by decide) (fun c_1 => ?_) (fun c_1 => ?_)
  · refine lv_iconst (v := 1) hx hb dc_M_trim_13 (by decide) ?_
    refine lv_goto (tgt := 18) hx hb dc_M_trim_14 (by decide) ?_
    refine va_put (D := (dC, dI)) (ci := 7) (v := .int 1) (ty := .int) (C := rn_M) (T := ft_M) (N := 19) hx hb hts fw_M fy_M fo_M fn_M hown hK hP hD hS 0 rfl rfl 0 (by decide) (hts _ bw3_159) (fun _ h9 => h9) rfl (by decide +kernel) rfl rfl (Nat.le_of_ble_eq_true rfl) dc_M_trim_18 (fun H locs hP hD hS => ?_)
    have hP : va_P (dC, dI) vwCl [(aM, .inr (7, [.int 1, .ref a1, .int (nI ks), .int (nI dn), .ref a2, .ref a3, .ref a4, .ref a5, .ref a6, .int (nI xa), .int ri, .int fa, .int fq, .int bg, .long tm, .int ka, .long kb, .int va, .long vb]))] H := hP
    have hD : va_D A [(aM, .inr (7, [.int 1, .ref a1, .int (nI ks), .int (nI dn), .ref a2, .ref a3, .ref a4, .ref a5, .ref a6, .int (nI xa), .int ri, .int fa, .int fq, .int bg, .long tm, .int ka, .long kb, .int va, .long vb]))] := hD
    refine lv_aload_n hx hb dc_M_trim_21 rfl (lv_at hl 0 rfl) ?_
    refine va_get (D := (dC, dI)) (ci := 7) (v := .int 1) (C := rn_M) (T := ft_M) (N := 19) hx hb hts fw_M hown hK hP 0 rfl rfl 0 (by decide) (hts _ bw3_159) (fun _ h9 => h9) rfl dc_M_trim_22 ?_
    refine lv_if_le (tgt := 30) hx hb dc_M_trim_25 (by decide) (fun c_2 => ?_) (fun c_2 => ?_)
    · exact absurd c_2 (by decide)
    · refine lv_iconst (v := 0) hx hb dc_M_trim_28 (by decide) ?_
      have hP9 := hP.sub (ws' := [(aM, .inr (7, [.int 1, .ref a1, .int (nI ks), .int (nI dn), .ref a2, .ref a3, .ref a4, .ref a5, .ref a6, .int (nI xa), .int ri, .int fa, .int fq, .int bg, .long tm, .int ka, .long kb, .int va, .long vb]))]) [0] rfl
      have hD9 := hD.sub (ws' := [(aM, .inr (7, [.int 1, .ref a1, .int (nI ks), .int (nI dn), .ref a2, .ref a3, .ref a4, .ref a5, .ref a6, .int (nI xa), .int ri, .int fa, .int fq, .int bg, .long tm, .int ka, .long kb, .int va, .long vb]))]) [0] (by decide) rfl
      have hK9 := hK.sub (tys' := []) [] rfl
      exact W.iret (v := 0) hx hb hr (fun t ht hW => ⟨⟨0, (), rfl, rfl, by rw [ht]; exact hP9, va_K.moved hW.alike hK9, hD9⟩, hS.F ht⟩) hS.2.2 dc_M_trim_29
  · have hi1 := c_1
    refine lv_iload_n hx hb dc_M_trim_5 rfl (lv_at hl 1 rfl) ?_
    refine lv_aload_n hx hb dc_M_trim_6 rfl (lv_at hl 0 rfl) ?_
    refine va_get (D := (dC, dI)) (ci := 7) (v := .int (nI ks)) (C := rn_M) (T := ft_M) (N := 19) hx hb hts fw_M hown hK hP 0 rfl rfl 2 (by decide) (hts _ bw3_161) (fun _ h9 => h9) rfl dc_M_trim_7 ?_
    refine lv_icmp_le (tgt := 17) hx hb dc_M_trim_10 (by decide) (fun c_3 => ?_) (fun c_3 => ?_)
    · exfalso; exact hj.elim hi1 (fun h => h c_3)
    · refine lv_iconst (v := 1) hx hb dc_M_trim_13 (by decide) ?_
      refine lv_goto (tgt := 18) hx hb dc_M_trim_14 (by decide) ?_
      refine va_put (D := (dC, dI)) (ci := 7) (v := .int 1) (ty := .int) (C := rn_M) (T := ft_M) (N := 19) hx hb hts fw_M fy_M fo_M fn_M hown hK hP hD hS 0 rfl rfl 0 (by decide) (hts _ bw3_159) (fun _ h9 => h9) rfl (by decide +kernel) rfl rfl (Nat.le_of_ble_eq_true rfl) dc_M_trim_18 (fun H locs hP hD hS => ?_)
      have hP : va_P (dC, dI) vwCl [(aM, .inr (7, [.int 1, .ref a1, .int (nI ks), .int (nI dn), .ref a2, .ref a3, .ref a4, .ref a5, .ref a6, .int (nI xa), .int ri, .int fa, .int fq, .int bg, .long tm, .int ka, .long kb, .int va, .long vb]))] H := hP
      have hD : va_D A [(aM, .inr (7, [.int 1, .ref a1, .int (nI ks), .int (nI dn), .ref a2, .ref a3, .ref a4, .ref a5, .ref a6, .int (nI xa), .int ri, .int fa, .int fq, .int bg, .long tm, .int ka, .long kb, .int va, .long vb]))] := hD
      refine lv_aload_n hx hb dc_M_trim_21 rfl (lv_at hl 0 rfl) ?_
      refine va_get (D := (dC, dI)) (ci := 7) (v := .int 1) (C := rn_M) (T := ft_M) (N := 19) hx hb hts fw_M hown hK hP 0 rfl rfl 0 (by decide) (hts _ bw3_159) (fun _ h9 => h9) rfl dc_M_trim_22 ?_
      refine lv_if_le (tgt := 30) hx hb dc_M_trim_25 (by decide) (fun c_4 => ?_) (fun c_4 => ?_)
      · exact absurd c_4 (by decide)
      · refine lv_iconst (v := 0) hx hb dc_M_trim_28 (by decide) ?_
        have hP9 := hP.sub (ws' := [(aM, .inr (7, [.int 1, .ref a1, .int (nI ks), .int (nI dn), .ref a2, .ref a3, .ref a4, .ref a5, .ref a6, .int (nI xa), .int ri, .int fa, .int fq, .int bg, .long tm, .int ka, .long kb, .int va, .long vb]))]) [0] rfl
        have hD9 := hD.sub (ws' := [(aM, .inr (7, [.int 1, .ref a1, .int (nI ks), .int (nI dn), .ref a2, .ref a3, .ref a4, .ref a5, .ref a6, .int (nI xa), .int ri, .int fa, .int fq, .int bg, .long tm, .int ka, .long kb, .int va, .long vb]))]) [0] (by decide) rfl
        have hK9 := hK.sub (tys' := []) [] rfl
        exact W.iret (v := 0) hx hb hr (fun t ht hW => ⟨⟨0, (), rfl, rfl, by rw [ht]; exact hP9, va_K.moved hW.alike hK9, hD9⟩, hS.F ht⟩) hS.2.2 dc_M_trim_29

set_option maxHeartbeats 1000000 in
set_option maxRecDepth 100000 in
theorem c_M_put (l : Launch) (dC : Nat → ClassId) (dI : Nat → Nat → Nat) (sz : Nat) (aM : Nat) (co : Int32) (a1 : Nat) (ks : Nat) (dn : Nat) (a2 : Nat) (a3 : Nat) (a4 : Nat) (a5 : Nat) (a6 : Nat) (xa : Nat) (ri : Int32) (fa : Int32) (fq : Int32) (bg : Int32) (tm : Int64) (ka : Int32) (kb : Int64) (va : Int32) (vb : Int64) (c1_ : ClassId) (tp : Nat → Int32) (v : Int64) (j : Nat) (hk : ks + j ≤ 16384) : Met l my_M_put (wB my_M_put cd_M_put 5 none) ({ frames := 0, cells := 0, slots := 0, locals := 0 }) (va_Pc [.ref aM, .long v, .int (nI j)] (PcW (dC, dI) [(aM, .inr (7, [.int co, .ref a1, .int (nI ks), .int (nI dn), .ref a2, .ref a3, .ref a4, .ref a5, .ref a6, .int (nI xa), .int ri, .int fa, .int fq, .int bg, .long tm, .int ka, .long kb, .int va, .long vb])), (a1, .inl (c1_, 16384, .inl tp))] [(c1_, .int)] sz)) (va_Qv (fun (_ : Unit) => True) (fun _ => EnW (dC, dI) (va_A [(aM, .inr (7, [.int co, .ref a1, .int (nI ks), .int (nI dn), .ref a2, .ref a3, .ref a4, .ref a5, .ref a6, .int (nI xa), .int ri, .int fa, .int fq, .int bg, .long tm, .int ka, .long kb, .int va, .long vb])), (a1, .inl (c1_, 16384, .inl tp))] sz) [(aM, .inr (7, [.int co, .ref a1, .int (nI (ks + j)), .int (nI dn), .ref a2, .ref a3, .ref a4, .ref a5, .ref a6, .int (nI xa), .int ri, .int fa, .int fq, .int bg, .long tm, .int ka, .long kb, .int va, .long vb])), (a1, .inl (c1_, 16384, .inl (wrI tp ks (numL v j))))] [(c1_, .int)]) (va_A [(aM, .inr (7, [.int co, .ref a1, .int (nI ks), .int (nI dn), .ref a2, .ref a3, .ref a4, .ref a5, .ref a6, .int (nI xa), .int ri, .int fa, .int fq, .int bg, .long tm, .int ka, .long kb, .int va, .long vb])), (a1, .inl (c1_, 16384, .inl tp))] sz)) 0 0 (va_A [(aM, .inr (7, [.int co, .ref a1, .int (nI ks), .int (nI dn), .ref a2, .ref a3, .ref a4, .ref a5, .ref a6, .int (nI xa), .int ri, .int fa, .int fq, .int bg, .long tm, .int ka, .long kb, .int va, .long vb])), (a1, .inl (c1_, 16384, .inl tp))] sz) := by
  refine Met.ofW (cc := cd_M_put) (maxL := 5) (ret := none) (by decide) rfl ?_
  intro p e s m args below meth c s₁ B hml hv
  obtain ⟨rfl, hsz, hP, hK, hD0, hG⟩ := hv
  have hx := B.exec
  have hb := B.bytes
  have hr := B.returns
  have hts := fun (w : Cond) (h : w ∈ bigT) => atoms_spec (ws := (wB my_M_put cd_M_put 5 none)) B.pre w (List.mem_cons_of_mem _ h)
  have hown : s.vm.findClass rn_M = some m.cls := findClass_of_methodNamed B.named
  have hlocks := B.notSynchronized
  subst hsz
  have hD := hD0.self (sz := s.heap.size)
  generalize hAe : va_A [(aM, .inr (7, [.int co, .ref a1, .int (nI ks), .int (nI dn), .ref a2, .ref a3, .ref a4, .ref a5, .ref a6, .int (nI xa), .int ri, .int fa, .int fq, .int bg, .long tm, .int ka, .long kb, .int va, .long vb])), (a1, .inl (c1_, 16384, .inl tp))] s.heap.size = A at hD hG ⊢
  have hA : ∀ q : Nat, s.heap.size ≤ q → A q := fun q h => by rw [← hAe]; exact Or.inr h
  have hS : va_S A s.heap s.heap [] := va_S.rf
  have hP : va_P (dC, dI) vwCl [(aM, .inr (7, [.int co, .ref a1, .int (nI ks), .int (nI dn), .ref a2, .ref a3, .ref a4, .ref a5, .ref a6, .int (nI xa), .int ri, .int fa, .int fq, .int bg, .long tm, .int ka, .long kb, .int va, .long vb])), (a1, .inl (c1_, 16384, .inl tp))] s.heap := hP
  have hl := lv_entry ([.ref aM, .long v, .int (nI j)]) (n := 5) (Nat.le_of_ble_eq_true rfl)
  rw [lg_entry_eq]
  generalize (lg_sl ([.ref aM, .long v, .int (nI j)]) ++ List.replicate (5 - (lg_sl ([.ref aM, .long v, .int (nI j)])).length) Slot.unset).toArray = ls at hl ⊢
  have hl : lv_has ls 5 [(0, .ref aM), (1, .long v), (3, .int (nI j))] := hl
  refine lv_iload_n hx hb dc_M_put_0 rfl (lv_at hl 2 rfl) ?_
  refine lv_iconst (v := 1) hx hb dc_M_put_1 (by decide) ?_
  refine lv_isub hx hb dc_M_put_2 ?_
  refine lv_istore (lv' := [(4, .int ((nI j) - 1)), (0, .ref aM), (1, .long v), (3, .int (nI j))]) hx hb dc_M_put_3 hl (by decide) rfl (fun ls hl => ?_)
  refine w_loop (σ := Nat × Nat × (Nat → Int32)) (fun x H locs ls => x.2.1 + x.1 = ks + j ∧ wrI x.2.2 x.2.1 (numL v x.1) = wrI tp ks (numL v j) ∧ va_P (dC, dI) vwCl [(aM, .inr (7, [.int co, .ref a1, .int (nI x.2.1), .int (nI dn), .ref a2, .ref a3, .ref a4, .ref a5, .ref a6, .int (nI xa), .int ri, .int fa, .int fq, .int bg, .long tm, .int ka, .long kb, .int va, .long vb])), (a1, .inl (c1_, 16384, .inl x.2.2))] H ∧ va_D A [(aM, .inr (7, [.int co, .ref a1, .int (nI x.2.1), .int (nI dn), .ref a2, .ref a3, .ref a4, .ref a5, .ref a6, .int (nI xa), .int ri, .int fa, .int fq, .int bg, .long tm, .int ka, .long kb, .int va, .long vb])), (a1, .inl (c1_, 16384, .inl x.2.2))] ∧ va_S A s.heap H locs ∧ lv_has ls 5 [(4, .int ((nI x.1) - 1)), (0, .ref aM), (1, .long v)]) (fun x ls => F0 m 5 ls []) (fun _ => 0) (fun _ => 0) (fun x => x.1) ?_ (j, ks, tp) _ _ _ ⟨by show ks + j = ks + j; omega, (show wrI tp ks (numL v j) = wrI tp ks (numL v j) from rfl), hP.sub [0, 1] rfl, hD.sub [0, 1] (by decide) rfl, hS, lv_sub hl [0, 1, 2] rfl⟩
  rintro ⟨i, kk, tt⟩ H locs ls ⟨hi, hf, hP, hD, hS, hl⟩ ih5
  have hP : va_P (dC, dI) vwCl [(aM, .inr (7, [.int co, .ref a1, .int (nI kk), .int (nI dn), .ref a2, .ref a3, .ref a4, .ref a5, .ref a6, .int (nI xa), .int ri, .int fa, .int fq, .int bg, .long tm, .int ka, .long kb, .int va, .long vb])), (a1, .inl (c1_, 16384, .inl tt))] H := hP
  have hD : va_D A [(aM, .inr (7, [.int co, .ref a1, .int (nI kk), .int (nI dn), .ref a2, .ref a3, .ref a4, .ref a5, .ref a6, .int (nI xa), .int ri, .int fa, .int fq, .int bg, .long tm, .int ka, .long kb, .int va, .long vb])), (a1, .inl (c1_, 16384, .inl tt))] := hD
  have hl : lv_has ls 5 [(4, .int ((nI i) - 1)), (0, .ref aM), (1, .long v)] := hl
  show W _ _ _ _ _ _ _ _ _ _ _ _ _ _ _ (F0 m 5 ls [])
  have hi : kk + i = ks + j := hi
  have hf : wrI tt kk (numL v i) = wrI tp ks (numL v j) := hf
  refine lv_iload hx hb dc_M_put_5 (lv_at hl 0 rfl) ?_
  refine lv_if_lt (tgt := 47) hx hb dc_M_put_7 (by decide) (fun c_1 => ?_) (fun c_1 => ?_)
  · obtain rfl : i = 0 := dn_neg c_1 (by omega)
    have e_2 : (nI kk) = (nI (ks + j)) := by first | rfl | exact nI_1 _ | exact nI_add _ _ | exact (pk_sub (by omega)) | exact congrArg nI (by omega)
    have e_3 : tt = (wrI tp ks (numL v j)) := by rw [← hf]; rfl
    have hP := wP_eq (ws' := [(aM, .inr (7, [.int co, .ref a1, .int (nI (ks + j)), .int (nI dn), .ref a2, .ref a3, .ref a4, .ref a5, .ref a6, .int (nI xa), .int ri, .int fa, .int fq, .int bg, .long tm, .int ka, .long kb, .int va, .long vb])), (a1, .inl (c1_, 16384, .inl (wrI tp ks (numL v j))))]) hP (cg2 (fun y0 y1 => ([(aM, .inr (7, [.int co, .ref a1, .int y0, .int (nI dn), .ref a2, .ref a3, .ref a4, .ref a5, .ref a6, .int (nI xa), .int ri, .int fa, .int fq, .int bg, .long tm, .int ka, .long kb, .int va, .long vb])), (a1, .inl (c1_, 16384, .inl y1))] : va_W)) e_2 e_3)
    have hD := wD_eq (ws' := [(aM, .inr (7, [.int co, .ref a1, .int (nI (ks + j)), .int (nI dn), .ref a2, .ref a3, .ref a4, .ref a5, .ref a6, .int (nI xa), .int ri, .int fa, .int fq, .int bg, .long tm, .int ka, .long kb, .int va, .long vb])), (a1, .inl (c1_, 16384, .inl (wrI tp ks (numL v j))))]) hD (cg2 (fun y0 y1 => ([(aM, .inr (7, [.int co, .ref a1, .int y0, .int (nI dn), .ref a2, .ref a3, .ref a4, .ref a5, .ref a6, .int (nI xa), .int ri, .int fa, .int fq, .int bg, .long tm, .int ka, .long kb, .int va, .long vb])), (a1, .inl (c1_, 16384, .inl y1))] : va_W)) e_2 e_3)
    have hP9 := hP.sub (ws' := [(aM, .inr (7, [.int co, .ref a1, .int (nI (ks + j)), .int (nI dn), .ref a2, .ref a3, .ref a4, .ref a5, .ref a6, .int (nI xa), .int ri, .int fa, .int fq, .int bg, .long tm, .int ka, .long kb, .int va, .long vb])), (a1, .inl (c1_, 16384, .inl (wrI tp ks (numL v j))))]) [0, 1] rfl
    have hD9 := hD.sub (ws' := [(aM, .inr (7, [.int co, .ref a1, .int (nI (ks + j)), .int (nI dn), .ref a2, .ref a3, .ref a4, .ref a5, .ref a6, .int (nI xa), .int ri, .int fa, .int fq, .int bg, .long tm, .int ka, .long kb, .int va, .long vb])), (a1, .inl (c1_, 16384, .inl (wrI tp ks (numL v j))))]) [0, 1] (by decide) rfl
    have hK9 := hK.sub (tys' := [(c1_, .int)]) [0] rfl
    exact W.vret hx hb hr (fun t ht hW => ⟨⟨(), rfl, trivial, by rw [ht]; exact hP9, va_K.moved hW.alike hK9, hD9⟩, hS.F ht⟩) hS.2.2 dc_M_put_47
  · have hpos : 0 < i := dn_pos c_1
    refine lv_aload_n hx hb dc_M_put_10 rfl (lv_at hl 1 rfl) ?_
    refine va_get (D := (dC, dI)) (ci := 7) (v := .ref a1) (C := rn_M) (T := ft_M) (N := 19) hx hb hts fw_M hown hK hP 0 rfl rfl 1 (by decide) (hts _ bw3_160) (fun _ h9 => h9) rfl dc_M_put_11 ?_
    refine lv_aload_n hx hb dc_M_put_14 rfl (lv_at hl 1 rfl) ?_
    refine va_get (D := (dC, dI)) (ci := 7) (v := .int (nI kk)) (C := rn_M) (T := ft_M) (N := 19) hx hb hts fw_M hown hK hP 0 rfl rfl 2 (by decide) (hts _ bw3_161) (fun _ h9 => h9) rfl dc_M_put_15 ?_
    refine lv_lload_n hx hb dc_M_put_18 rfl (lv_at hl 2 rfl) ?_
    refine lv_bipush (v := 8) hx hb dc_M_put_19 (by decide) ?_
    refine lv_iload hx hb dc_M_put_21 (lv_at hl 0 rfl) ?_
    refine lv_imul hx hb dc_M_put_23 ?_
    refine lv_lshr (v := v >>> ((8 * ((nI i) - 1) : Int32).toInt64 &&& 63)) hx hb dc_M_put_24 rfl ?_
    refine lv_l2i (v := (v >>> ((8 * ((nI i) - 1) : Int32).toInt64 &&& 63)).toInt32) hx hb dc_M_put_25 rfl ?_
    refine lv_sipush (v := 255) hx hb dc_M_put_26 (by decide) ?_
    refine lv_iand hx hb dc_M_put_29 ?_
    refine va_iast hx hb hK hP hD hS 1 0 rfl rfl (vp_in_nI (by omega) (by omega)) dc_M_put_30 (fun H locs hP hD hS => ?_)
    rw [show (nI kk).toNatClampNeg = kk from nI_clamp (by omega)] at hP hD
    have hP : va_P (dC, dI) vwCl [(aM, .inr (7, [.int co, .ref a1, .int (nI kk), .int (nI dn), .ref a2, .ref a3, .ref a4, .ref a5, .ref a6, .int (nI xa), .int ri, .int fa, .int fq, .int bg, .long tm, .int ka, .long kb, .int va, .long vb])), (a1, .inl (c1_, 16384, .inl (upd tt kk (((v >>> ((8 * ((nI i) - 1) : Int32).toInt64 &&& 63)).toInt32) &&& 255))))] H := hP
    have hD : va_D A [(aM, .inr (7, [.int co, .ref a1, .int (nI kk), .int (nI dn), .ref a2, .ref a3, .ref a4, .ref a5, .ref a6, .int (nI xa), .int ri, .int fa, .int fq, .int bg, .long tm, .int ka, .long kb, .int va, .long vb])), (a1, .inl (c1_, 16384, .inl (upd tt kk (((v >>> ((8 * ((nI i) - 1) : Int32).toInt64 &&& 63)).toInt32) &&& 255))))] := hD
    refine lv_aload_n hx hb dc_M_put_31 rfl (lv_at hl 1 rfl) ?_
    refine lv_dup hx hb dc_M_put_32 rfl ?_
    refine va_get (D := (dC, dI)) (ci := 7) (v := .int (nI kk)) (C := rn_M) (T := ft_M) (N := 19) hx hb hts fw_M hown hK hP 0 rfl rfl 2 (by decide) (hts _ bw3_161) (fun _ h9 => h9) rfl dc_M_put_33 ?_
    refine lv_iconst (v := 1) hx hb dc_M_put_36 (by decide) ?_
    refine lv_iadd hx hb dc_M_put_37 ?_
    refine va_put (D := (dC, dI)) (ci := 7) (v := .int ((nI kk) + 1)) (ty := .int) (C := rn_M) (T := ft_M) (N := 19) hx hb hts fw_M fy_M fo_M fn_M hown hK hP hD hS 0 rfl rfl 2 (by decide) (hts _ bw3_161) (fun _ h9 => h9) rfl (by decide +kernel) rfl rfl (Nat.le_of_ble_eq_true rfl) dc_M_put_38 (fun H locs hP hD hS => ?_)
    have hP : va_P (dC, dI) vwCl [(aM, .inr (7, [.int co, .ref a1, .int ((nI kk) + 1), .int (nI dn), .ref a2, .ref a3, .ref a4, .ref a5, .ref a6, .int (nI xa), .int ri, .int fa, .int fq, .int bg, .long tm, .int ka, .long kb, .int va, .long vb])), (a1, .inl (c1_, 16384, .inl (upd tt kk (((v >>> ((8 * ((nI i) - 1) : Int32).toInt64 &&& 63)).toInt32) &&& 255))))] H := hP
    have hD : va_D A [(aM, .inr (7, [.int co, .ref a1, .int ((nI kk) + 1), .int (nI dn), .ref a2, .ref a3, .ref a4, .ref a5, .ref a6, .int (nI xa), .int ri, .int fa, .int fq, .int bg, .long tm, .int ka, .long kb, .int va, .long vb])), (a1, .inl (c1_, 16384, .inl (upd tt kk (((v >>> ((8 * ((nI i) - 1) : Int32).toInt64 &&& 63)).toInt32) &&& 255))))] := hD
    refine lv_iinc (v := (((nI i) - 1) + (-1))) (lv' := [(4, .int (((nI i) - 1) + (-1))), (0, .ref aM), (1, .long v)]) hx hb dc_M_put_41 hl (k := 0) rfl rfl (by decide) rfl (fun ls hl => ?_)
    refine lv_goto (tgt := 5) hx hb dc_M_put_44 (by decide) ?_
    obtain ⟨w_4, hw_4⟩ : ∃ y, y = (upd tt kk (((v >>> ((8 * ((nI i) - 1) : Int32).toInt64 &&& 63)).toInt32) &&& 255)) := ⟨_, rfl⟩
    have e_5 : (upd tt kk (((v >>> ((8 * ((nI i) - 1) : Int32).toInt64 &&& 63)).toInt32) &&& 255)) = w_4 := by exact hw_4.symm
    have hP := wP_eq (ws' := [(aM, .inr (7, [.int co, .ref a1, .int ((nI kk) + 1), .int (nI dn), .ref a2, .ref a3, .ref a4, .ref a5, .ref a6, .int (nI xa), .int ri, .int fa, .int fq, .int bg, .long tm, .int ka, .long kb, .int va, .long vb])), (a1, .inl (c1_, 16384, .inl w_4))]) hP (cg1 (fun y0 => ([(aM, .inr (7, [.int co, .ref a1, .int ((nI kk) + 1), .int (nI dn), .ref a2, .ref a3, .ref a4, .ref a5, .ref a6, .int (nI xa), .int ri, .int fa, .int fq, .int bg, .long tm, .int ka, .long kb, .int va, .long vb])), (a1, .inl (c1_, 16384, .inl y0))] : va_W)) e_5)
    have hD := wD_eq (ws' := [(aM, .inr (7, [.int co, .ref a1, .int ((nI kk) + 1), .int (nI dn), .ref a2, .ref a3, .ref a4, .ref a5, .ref a6, .int (nI xa), .int ri, .int fa, .int fq, .int bg, .long tm, .int ka, .long kb, .int va, .long vb])), (a1, .inl (c1_, 16384, .inl w_4))]) hD (cg1 (fun y0 => ([(aM, .inr (7, [.int co, .ref a1, .int ((nI kk) + 1), .int (nI dn), .ref a2, .ref a3, .ref a4, .ref a5, .ref a6, .int (nI xa), .int ri, .int fa, .int fq, .int bg, .long tm, .int ka, .long kb, .int va, .long vb])), (a1, .inl (c1_, 16384, .inl y0))] : va_W)) e_5)
    have e_6 : ((nI kk) + 1) = (nI (kk + 1)) := by first | rfl | exact nI_1 _ | exact nI_add _ _ | exact (pk_sub (by omega)) | exact congrArg nI (by omega)
    have e_7 : (((nI i) - 1) + (-1)) = ((nI (i - 1)) - 1) := by exact dn_step hpos
    have hP := wP_eq (ws' := [(aM, .inr (7, [.int co, .ref a1, .int (nI (kk + 1)), .int (nI dn), .ref a2, .ref a3, .ref a4, .ref a5, .ref a6, .int (nI xa), .int ri, .int fa, .int fq, .int bg, .long tm, .int ka, .long kb, .int va, .long vb])), (a1, .inl (c1_, 16384, .inl w_4))]) hP (cg1 (fun y0 => ([(aM, .inr (7, [.int co, .ref a1, .int y0, .int (nI dn), .ref a2, .ref a3, .ref a4, .ref a5, .ref a6, .int (nI xa), .int ri, .int fa, .int fq, .int bg, .long tm, .int ka, .long kb, .int va, .long vb])), (a1, .inl (c1_, 16384, .inl w_4))] : va_W)) e_6)
    have hD := wD_eq (ws' := [(aM, .inr (7, [.int co, .ref a1, .int (nI (kk + 1)), .int (nI dn), .ref a2, .ref a3, .ref a4, .ref a5, .ref a6, .int (nI xa), .int ri, .int fa, .int fq, .int bg, .long tm, .int ka, .long kb, .int va, .long vb])), (a1, .inl (c1_, 16384, .inl w_4))]) hD (cg1 (fun y0 => ([(aM, .inr (7, [.int co, .ref a1, .int y0, .int (nI dn), .ref a2, .ref a3, .ref a4, .ref a5, .ref a6, .int (nI xa), .int ri, .int fa, .int fq, .int bg, .long tm, .int ka, .long kb, .int va, .long vb])), (a1, .inl (c1_, 16384, .inl w_4))] : va_W)) e_6)
    have hl := wL_eq (lv' := [(4, .int ((nI (i - 1)) - 1)), (0, .ref aM), (1, .long v)]) hl (cg1 (fun y0 => ([(4, .int y0), (0, .ref aM), (1, .long v)] : List (Nat × Value))) e_7)
    exact ih5 (i - 1, kk + 1, w_4) _ _ _ ⟨by show (kk + 1) + (i - 1) = ks + j; omega, by show wrI w_4 (kk + 1) (numL v (i - 1)) = wrI tp ks (numL v j); (try simp only [hw_4]); rw [← hf, numL_pos v hpos]; rfl, hP.sub [0, 1] rfl, hD.sub [0, 1] (by decide) rfl, hS, lv_sub hl [0, 1, 2] rfl⟩ (by show (i - 1) < i; omega)

set_option maxHeartbeats 1000000 in
set_option maxRecDepth 100000 in
theorem c_M_feed_ok (l : Launch) (dC : Nat → ClassId) (dI : Nat → Nat → Nat) (sz : Nat) (aM : Nat) (co : Int32) (a1 : Nat) (ks : Nat) (dn : Nat) (a2 : Nat) (a3 : Nat) (a4 : Nat) (a5 : Nat) (a6 : Nat) (xa : Nat) (ri : Int32) (fa : Int32) (fq : Int32) (bg : Int32) (tm : Int64) (ka : Int32) (kb : Int64) (va : Int32) (vb : Int64) (c1_ : ClassId) (tp : Nat → Int32) (va0 : Int32) (va1 : Int32) (va2 : Int32) (va3 : Int32) (va4 : Int32) (hk : ks + 20 ≤ 16384) : Met l my_M_feed (wB my_M_feed cd_M_feed 6 (some .int)) ({ frames := 1, cells := 0, slots := 0, locals := 24 }) (va_Pc [.ref aM, .int va0, .int va1, .int va2, .int va3, .int va4] (PcW (dC, dI) [(aM, .inr (7, [.int co, .ref a1, .int (nI ks), .int (nI dn), .ref a2, .ref a3, .ref a4, .ref a5, .ref a6, .int (nI xa), .int ri, .int fa, .int fq, .int bg, .long tm, .int ka, .long kb, .int va, .long vb])), (a1, .inl (c1_, 16384, .inl tp))] [(c1_, .int)] sz)) (va_Qi (fun (r : Int32) => fun (_ : Unit) => r = nI (ks + 20)) (fun _ => EnW (dC, dI) (va_A [(aM, .inr (7, [.int co, .ref a1, .int (nI ks), .int (nI dn), .ref a2, .ref a3, .ref a4, .ref a5, .ref a6, .int (nI xa), .int ri, .int fa, .int fq, .int bg, .long tm, .int ka, .long kb, .int va, .long vb])), (a1, .inl (c1_, 16384, .inl tp))] sz) [(aM, .inr (7, [.int 0, .ref a1, .int (nI (ks + 20)), .int (nI dn), .ref a2, .ref a3, .ref a4, .ref a5, .ref a6, .int (nI xa), .int ri, .int fa, .int fq, .int bg, .long tm, .int ka, .long kb, .int va, .long vb])), (a1, .inl (c1_, 16384, .inl (wrI (wrI (wrI (wrI (wrI (tp) (ks) (numL va0.toInt64 4)) (ks + 4) (numL va1.toInt64 4)) (ks + 8) (numL va2.toInt64 4)) (ks + 12) (numL va3.toInt64 4)) (ks + 16) (numL va4.toInt64 4))))] [(c1_, .int)]) (va_A [(aM, .inr (7, [.int co, .ref a1, .int (nI ks), .int (nI dn), .ref a2, .ref a3, .ref a4, .ref a5, .ref a6, .int (nI xa), .int ri, .int fa, .int fq, .int bg, .long tm, .int ka, .long kb, .int va, .long vb])), (a1, .inl (c1_, 16384, .inl tp))] sz)) 0 0 (va_A [(aM, .inr (7, [.int co, .ref a1, .int (nI ks), .int (nI dn), .ref a2, .ref a3, .ref a4, .ref a5, .ref a6, .int (nI xa), .int ri, .int fa, .int fq, .int bg, .long tm, .int ka, .long kb, .int va, .long vb])), (a1, .inl (c1_, 16384, .inl tp))] sz) := by
  refine Met.ofW (cc := cd_M_feed) (maxL := 6) (ret := (some .int)) (by decide) rfl ?_
  intro p e s m args below meth c s₁ B hml hv
  obtain ⟨rfl, hsz, hP, hK, hD0, hG⟩ := hv
  have hx := B.exec
  have hb := B.bytes
  have hr := B.returns
  have hts := fun (w : Cond) (h : w ∈ bigT) => atoms_spec (ws := (wB my_M_feed cd_M_feed 6 (some .int))) B.pre w (List.mem_cons_of_mem _ h)
  have hown : s.vm.findClass rn_M = some m.cls := findClass_of_methodNamed B.named
  have hlocks := B.notSynchronized
  subst hsz
  have hD := hD0.self (sz := s.heap.size)
  generalize hAe : va_A [(aM, .inr (7, [.int co, .ref a1, .int (nI ks), .int (nI dn), .ref a2, .ref a3, .ref a4, .ref a5, .ref a6, .int (nI xa), .int ri, .int fa, .int fq, .int bg, .long tm, .int ka, .long kb, .int va, .long vb])), (a1, .inl (c1_, 16384, .inl tp))] s.heap.size = A at hD hG ⊢
  have hA : ∀ q : Nat, s.heap.size ≤ q → A q := fun q h => by rw [← hAe]; exact Or.inr h
  have hS : va_S A s.heap s.heap [] := va_S.rf
  have hP : va_P (dC, dI) vwCl [(aM, .inr (7, [.int co, .ref a1, .int (nI ks), .int (nI dn), .ref a2, .ref a3, .ref a4, .ref a5, .ref a6, .int (nI xa), .int ri, .int fa, .int fq, .int bg, .long tm, .int ka, .long kb, .int va, .long vb])), (a1, .inl (c1_, 16384, .inl tp))] s.heap := hP
  have hl := lv_entry ([.ref aM, .int va0, .int va1, .int va2, .int va3, .int va4]) (n := 6) (Nat.le_of_ble_eq_true rfl)
  rw [lg_entry_eq]
  generalize (lg_sl ([.ref aM, .int va0, .int va1, .int va2, .int va3, .int va4]) ++ List.replicate (6 - (lg_sl ([.ref aM, .int va0, .int va1, .int va2, .int va3, .int va4])).length) Slot.unset).toArray = ls at hl ⊢
  have hl : lv_has ls 6 [(0, .ref aM), (1, .int va0), (2, .int va1), (3, .int va2), (4, .int va3), (5, .int va4)] := hl
  refine lv_aload_n hx hb dc_M_feed_0 rfl (lv_at hl 0 rfl) ?_
  refine lv_aload_n hx hb dc_M_feed_1 rfl (lv_at hl 0 rfl) ?_
  refine va_get (D := (dC, dI)) (ci := 7) (v := .int (nI ks)) (C := rn_M) (T := ft_M) (N := 19) hx hb hts fw_M hown hK hP 0 rfl rfl 2 (by decide) (hts _ bw3_161) (fun _ h9 => h9) rfl dc_M_feed_2 ?_
  refine lv_bipush (v := 20) hx hb dc_M_feed_5 (by decide) ?_
  refine lv_iadd hx hb dc_M_feed_7 ?_
  refine lv_sipush (v := 16384) hx hb dc_M_feed_8 (by decide) ?_
  refine w_join (σ := Unit) (fun v19_ H locs ls => va_P (dC, dI) vwCl [(aM, .inr (7, [.int co, .ref a1, .int (nI ks), .int (nI dn), .ref a2, .ref a3, .ref a4, .ref a5, .ref a6, .int (nI xa), .int ri, .int fa, .int fq, .int bg, .long tm, .int ka, .long kb, .int va, .long vb])), (a1, .inl (c1_, 16384, .inl tp))] H ∧ va_D A [(aM, .inr (7, [.int co, .ref a1, .int (nI ks), .int (nI dn), .ref a2, .ref a3, .ref a4, .ref a5, .ref a6, .int (nI xa), .int ri, .int fa, .int fq, .int bg, .long tm, .int ka, .long kb, .int va, .long vb])), (a1, .inl (c1_, 16384, .inl tp))] ∧ va_S A s.heap H locs ∧ lv_has ls 6 [(0, .ref aM), (1, .int va0), (2, .int va1), (3, .int va2), (4, .int va3), (5, .int va4)]) (fun v19_ ls => F0 m 19 ls [.int 0, .ref aM]) ?_ (fun hJ19 => ?_)
  · rintro v19_ H locs ls ⟨hP, hD, hS, hl⟩
    have hP : va_P (dC, dI) vwCl [(aM, .inr (7, [.int co, .ref a1, .int (nI ks), .int (nI dn), .ref a2, .ref a3, .ref a4, .ref a5, .ref a6, .int (nI xa), .int ri, .int fa, .int fq, .int bg, .long tm, .int ka, .long kb, .int va, .long vb])), (a1, .inl (c1_, 16384, .inl tp))] H := hP
    have hD : va_D A [(aM, .inr (7, [.int co, .ref a1, .int (nI ks), .int (nI dn), .ref a2, .ref a3, .ref a4, .ref a5, .ref a6, .int (nI xa), .int ri, .int fa, .int fq, .int bg, .long tm, .int ka, .long kb, .int va, .long vb])), (a1, .inl (c1_, 16384, .inl tp))] := hD
    have hl : lv_has ls 6 [(0, .ref aM), (1, .int va0), (2, .int va1), (3, .int va2), (4, .int va3), (5, .int va4)] := hl
    show W _ _ _ _ _ _ _ _ _ _ _ _ _ _ _ (F0 m 19 ls [.int 0, .ref aM])
    refine va_put (D := (dC, dI)) (ci := 7) (v := .int 0) (ty := .int) (C := rn_M) (T := ft_M) (N := 19) hx hb hts fw_M fy_M fo_M fn_M hown hK hP hD hS 0 rfl rfl 0 (by decide) (hts _ bw3_159) (fun _ h9 => h9) rfl (by decide +kernel) rfl rfl (Nat.le_of_ble_eq_true rfl) dc_M_feed_19 (fun H locs hP hD hS => ?_)
    have hP : va_P (dC, dI) vwCl [(aM, .inr (7, [.int 0, .ref a1, .int (nI ks), .int (nI dn), .ref a2, .ref a3, .ref a4, .ref a5, .ref a6, .int (nI xa), .int ri, .int fa, .int fq, .int bg, .long tm, .int ka, .long kb, .int va, .long vb])), (a1, .inl (c1_, 16384, .inl tp))] H := hP
    have hD : va_D A [(aM, .inr (7, [.int 0, .ref a1, .int (nI ks), .int (nI dn), .ref a2, .ref a3, .ref a4, .ref a5, .ref a6, .int (nI xa), .int ri, .int fa, .int fq, .int bg, .long tm, .int ka, .long kb, .int va, .long vb])), (a1, .inl (c1_, 16384, .inl tp))] := hD
    refine lv_aload_n hx hb dc_M_feed_22 rfl (lv_at hl 0 rfl) ?_
    refine va_get (D := (dC, dI)) (ci := 7) (v := .int 0) (C := rn_M) (T := ft_M) (N := 19) hx hb hts fw_M hown hK hP 0 rfl rfl 0 (by decide) (hts _ bw3_159) (fun _ h9 => h9) rfl dc_M_feed_23 ?_
    refine lv_if_le (tgt := 31) hx hb dc_M_feed_26 (by decide) (fun c_1 => ?_) (fun c_1 => ?_)
    · refine lv_aload_n hx hb dc_M_feed_31 rfl (lv_at hl 0 rfl) ?_
      refine lv_iload_n hx hb dc_M_feed_32 rfl (lv_at hl 1 rfl) ?_
      refine lv_i2l (v := va0.toInt64) hx hb dc_M_feed_33 rfl ?_
      refine lv_iconst (v := 4) hx hb dc_M_feed_34 (by decide) ?_
      refine kc_v (wc := [(aM, .inr (7, [.int 0, .ref a1, .int (nI ks), .int (nI dn), .ref a2, .ref a3, .ref a4, .ref a5, .ref a6, .int (nI xa), .int ri, .int fa, .int fq, .int bg, .long tm, .int ka, .long kb, .int va, .long vb])), (a1, .inl (c1_, 16384, .inl tp))]) (wr := []) hP hD hS hA [0, 1] [] rfl rfl (by decide) (by decide) (va_runV (As := [.long va0.toInt64, .int 4]) (rest := []) ⟨hx, hb, hml, hown, hts⟩ (c_M_put l dC dI _ aM 0 a1 ks dn a2 a3 a4 a5 a6 xa ri fa fq bg tm ka kb va vb c1_ tp va0.toInt64 4 (by omega)) (kw_V 2 hts bw3_227 bw3_229 bws_12 bw1_9 bw3_230 rfl rfl (by decide +kernel) ⟨Nat.le_of_ble_eq_true rfl, Nat.le_of_ble_eq_true rfl⟩) (kp_V (wc := [(aM, .inr (7, [.int 0, .ref a1, .int (nI ks), .int (nI dn), .ref a2, .ref a3, .ref a4, .ref a5, .ref a6, .int (nI xa), .int ri, .int fa, .int fq, .int bg, .long tm, .int ka, .long kb, .int va, .long vb])), (a1, .inl (c1_, 16384, .inl tp))]) (tc := [(c1_, .int)]) (As := [.long va0.toInt64, .int 4]) hG hS hA hP hD hK [0, 1] rfl (by decide) rfl [0] rfl (ci := 7) (q0 := 0) rfl rfl) rfl rfl hl.1 rfl (lv_room (Nat.le_of_ble_eq_true rfl)) dc_M_feed_35 ⟨Nat.zero_le _, Nat.zero_le _⟩) (fun _ H locs hw hP hD hK1 hS => ?_)
      have hP : va_P (dC, dI) vwCl [(aM, .inr (7, [.int 0, .ref a1, .int (nI (ks + 4)), .int (nI dn), .ref a2, .ref a3, .ref a4, .ref a5, .ref a6, .int (nI xa), .int ri, .int fa, .int fq, .int bg, .long tm, .int ka, .long kb, .int va, .long vb])), (a1, .inl (c1_, 16384, .inl (wrI tp ks (numL va0.toInt64 4))))] H := hP
      have hD : va_D A [(aM, .inr (7, [.int 0, .ref a1, .int (nI (ks + 4)), .int (nI dn), .ref a2, .ref a3, .ref a4, .ref a5, .ref a6, .int (nI xa), .int ri, .int fa, .int fq, .int bg, .long tm, .int ka, .long kb, .int va, .long vb])), (a1, .inl (c1_, 16384, .inl (wrI tp ks (numL va0.toInt64 4))))] := hD
      refine lv_aload_n hx hb dc_M_feed_38 rfl (lv_at hl 0 rfl) ?_
      refine lv_iload_n hx hb dc_M_feed_39 rfl (lv_at hl 2 rfl) ?_
      refine lv_i2l (v := va1.toInt64) hx hb dc_M_feed_40 rfl ?_
      refine lv_iconst (v := 4) hx hb dc_M_feed_41 (by decide) ?_
      refine kc_v (wc := [(aM, .inr (7, [.int 0, .ref a1, .int (nI (ks + 4)), .int (nI dn), .ref a2, .ref a3, .ref a4, .ref a5, .ref a6, .int (nI xa), .int ri, .int fa, .int fq, .int bg, .long tm, .int ka, .long kb, .int va, .long vb])), (a1, .inl (c1_, 16384, .inl (wrI tp ks (numL va0.toInt64 4))))]) (wr := []) hP hD hS hA [0, 1] [] rfl rfl (by decide) (by decide) (va_runV (As := [.long va1.toInt64, .int 4]) (rest := []) ⟨hx, hb, hml, hown, hts⟩ (c_M_put l dC dI _ aM 0 a1 (ks + 4) dn a2 a3 a4 a5 a6 xa ri fa fq bg tm ka kb va vb c1_ (wrI tp ks (numL va0.toInt64 4)) va1.toInt64 4 (by omega)) (kw_V 2 hts bw3_227 bw3_229 bws_12 bw1_9 bw3_230 rfl rfl (by decide +kernel) ⟨Nat.le_of_ble_eq_true rfl, Nat.le_of_ble_eq_true rfl⟩) (kp_V (wc := [(aM, .inr (7, [.int 0, .ref a1, .int (nI (ks + 4)), .int (nI dn), .ref a2, .ref a3, .ref a4, .ref a5, .ref a6, .int (nI xa), .int ri, .int fa, .int fq, .int bg, .long tm, .int ka, .long kb, .int va, .long vb])), (a1, .inl (c1_, 16384, .inl (wrI tp ks (numL va0.toInt64 4))))]) (tc := [(c1_, .int)]) (As := [.long va1.toInt64, .int 4]) hG hS hA hP hD hK [0, 1] rfl (by decide) rfl [0] rfl (ci := 7) (q0 := 0) rfl rfl) rfl rfl hl.1 rfl (lv_room (Nat.le_of_ble_eq_true rfl)) dc_M_feed_42 ⟨Nat.zero_le _, Nat.zero_le _⟩) (fun _ H locs hw hP hD hK1 hS => ?_)
      have hP : va_P (dC, dI) vwCl [(aM, .inr (7, [.int 0, .ref a1, .int (nI ((ks + 4) + 4)), .int (nI dn), .ref a2, .ref a3, .ref a4, .ref a5, .ref a6, .int (nI xa), .int ri, .int fa, .int fq, .int bg, .long tm, .int ka, .long kb, .int va, .long vb])), (a1, .inl (c1_, 16384, .inl (wrI (wrI tp ks (numL va0.toInt64 4)) (ks + 4) (numL va1.toInt64 4))))] H := hP
      have hD : va_D A [(aM, .inr (7, [.int 0, .ref a1, .int (nI ((ks + 4) + 4)), .int (nI dn), .ref a2, .ref a3, .ref a4, .ref a5, .ref a6, .int (nI xa), .int ri, .int fa, .int fq, .int bg, .long tm, .int ka, .long kb, .int va, .long vb])), (a1, .inl (c1_, 16384, .inl (wrI (wrI tp ks (numL va0.toInt64 4)) (ks + 4) (numL va1.toInt64 4))))] := hD
      refine lv_aload_n hx hb dc_M_feed_45 rfl (lv_at hl 0 rfl) ?_
      refine lv_iload_n hx hb dc_M_feed_46 rfl (lv_at hl 3 rfl) ?_
      refine lv_i2l (v := va2.toInt64) hx hb dc_M_feed_47 rfl ?_
      refine lv_iconst (v := 4) hx hb dc_M_feed_48 (by decide) ?_
      refine kc_v (wc := [(aM, .inr (7, [.int 0, .ref a1, .int (nI ((ks + 4) + 4)), .int (nI dn), .ref a2, .ref a3, .ref a4, .ref a5, .ref a6, .int (nI xa), .int ri, .int fa, .int fq, .int bg, .long tm, .int ka, .long kb, .int va, .long vb])), (a1, .inl (c1_, 16384, .inl (wrI (wrI tp ks (numL va0.toInt64 4)) (ks + 4) (numL va1.toInt64 4))))]) (wr := []) hP hD hS hA [0, 1] [] rfl rfl (by decide) (by decide) (va_runV (As := [.long va2.toInt64, .int 4]) (rest := []) ⟨hx, hb, hml, hown, hts⟩ (c_M_put l dC dI _ aM 0 a1 ((ks + 4) + 4) dn a2 a3 a4 a5 a6 xa ri fa fq bg tm ka kb va vb c1_ (wrI (wrI tp ks (numL va0.toInt64 4)) (ks + 4) (numL va1.toInt64 4)) va2.toInt64 4 (by omega)) (kw_V 2 hts bw3_227 bw3_229 bws_12 bw1_9 bw3_230 rfl rfl (by decide +kernel) ⟨Nat.le_of_ble_eq_true rfl, Nat.le_of_ble_eq_true rfl⟩) (kp_V (wc := [(aM, .inr (7, [.int 0, .ref a1, .int (nI ((ks + 4) + 4)), .int (nI dn), .ref a2, .ref a3, .ref a4, .ref a5, .ref a6, .int (nI xa), .int ri, .int fa, .int fq, .int bg, .long tm, .int ka, .long kb, .int va, .long vb])), (a1, .inl (c1_, 16384, .inl (wrI (wrI tp ks (numL va0.toInt64 4)) (ks + 4) (numL va1.toInt64 4))))]) (tc := [(c1_, .int)]) (As := [.long va2.toInt64, .int 4]) hG hS hA hP hD hK [0, 1] rfl (by decide) rfl [0] rfl (ci := 7) (q0 := 0) rfl rfl) rfl rfl hl.1 rfl (lv_room (Nat.le_of_ble_eq_true rfl)) dc_M_feed_49 ⟨Nat.zero_le _, Nat.zero_le _⟩) (fun _ H locs hw hP hD hK1 hS => ?_)
      have hP : va_P (dC, dI) vwCl [(aM, .inr (7, [.int 0, .ref a1, .int (nI (((ks + 4) + 4) + 4)), .int (nI dn), .ref a2, .ref a3, .ref a4, .ref a5, .ref a6, .int (nI xa), .int ri, .int fa, .int fq, .int bg, .long tm, .int ka, .long kb, .int va, .long vb])), (a1, .inl (c1_, 16384, .inl (wrI (wrI (wrI tp ks (numL va0.toInt64 4)) (ks + 4) (numL va1.toInt64 4)) ((ks + 4) + 4) (numL va2.toInt64 4))))] H := hP
      have hD : va_D A [(aM, .inr (7, [.int 0, .ref a1, .int (nI (((ks + 4) + 4) + 4)), .int (nI dn), .ref a2, .ref a3, .ref a4, .ref a5, .ref a6, .int (nI xa), .int ri, .int fa, .int fq, .int bg, .long tm, .int ka, .long kb, .int va, .long vb])), (a1, .inl (c1_, 16384, .inl (wrI (wrI (wrI tp ks (numL va0.toInt64 4)) (ks + 4) (numL va1.toInt64 4)) ((ks + 4) + 4) (numL va2.toInt64 4))))] := hD
      refine lv_aload_n hx hb dc_M_feed_52 rfl (lv_at hl 0 rfl) ?_
      refine lv_iload hx hb dc_M_feed_53 (lv_at hl 4 rfl) ?_
      refine lv_i2l (v := va3.toInt64) hx hb dc_M_feed_55 rfl ?_
      refine lv_iconst (v := 4) hx hb dc_M_feed_56 (by decide) ?_
      refine kc_v (wc := [(aM, .inr (7, [.int 0, .ref a1, .int (nI (((ks + 4) + 4) + 4)), .int (nI dn), .ref a2, .ref a3, .ref a4, .ref a5, .ref a6, .int (nI xa), .int ri, .int fa, .int fq, .int bg, .long tm, .int ka, .long kb, .int va, .long vb])), (a1, .inl (c1_, 16384, .inl (wrI (wrI (wrI tp ks (numL va0.toInt64 4)) (ks + 4) (numL va1.toInt64 4)) ((ks + 4) + 4) (numL va2.toInt64 4))))]) (wr := []) hP hD hS hA [0, 1] [] rfl rfl (by decide) (by decide) (va_runV (As := [.long va3.toInt64, .int 4]) (rest := []) ⟨hx, hb, hml, hown, hts⟩ (c_M_put l dC dI _ aM 0 a1 (((ks + 4) + 4) + 4) dn a2 a3 a4 a5 a6 xa ri fa fq bg tm ka kb va vb c1_ (wrI (wrI (wrI tp ks (numL va0.toInt64 4)) (ks + 4) (numL va1.toInt64 4)) ((ks + 4) + 4) (numL va2.toInt64 4)) va3.toInt64 4 (by omega)) (kw_V 2 hts bw3_227 bw3_229 bws_12 bw1_9 bw3_230 rfl rfl (by decide +kernel) ⟨Nat.le_of_ble_eq_true rfl, Nat.le_of_ble_eq_true rfl⟩) (kp_V (wc := [(aM, .inr (7, [.int 0, .ref a1, .int (nI (((ks + 4) + 4) + 4)), .int (nI dn), .ref a2, .ref a3, .ref a4, .ref a5, .ref a6, .int (nI xa), .int ri, .int fa, .int fq, .int bg, .long tm, .int ka, .long kb, .int va, .long vb])), (a1, .inl (c1_, 16384, .inl (wrI (wrI (wrI tp ks (numL va0.toInt64 4)) (ks + 4) (numL va1.toInt64 4)) ((ks + 4) + 4) (numL va2.toInt64 4))))]) (tc := [(c1_, .int)]) (As := [.long va3.toInt64, .int 4]) hG hS hA hP hD hK [0, 1] rfl (by decide) rfl [0] rfl (ci := 7) (q0 := 0) rfl rfl) rfl rfl hl.1 rfl (lv_room (Nat.le_of_ble_eq_true rfl)) dc_M_feed_57 ⟨Nat.zero_le _, Nat.zero_le _⟩) (fun _ H locs hw hP hD hK1 hS => ?_)
      have hP : va_P (dC, dI) vwCl [(aM, .inr (7, [.int 0, .ref a1, .int (nI ((((ks + 4) + 4) + 4) + 4)), .int (nI dn), .ref a2, .ref a3, .ref a4, .ref a5, .ref a6, .int (nI xa), .int ri, .int fa, .int fq, .int bg, .long tm, .int ka, .long kb, .int va, .long vb])), (a1, .inl (c1_, 16384, .inl (wrI (wrI (wrI (wrI tp ks (numL va0.toInt64 4)) (ks + 4) (numL va1.toInt64 4)) ((ks + 4) + 4) (numL va2.toInt64 4)) (((ks + 4) + 4) + 4) (numL va3.toInt64 4))))] H := hP
      have hD : va_D A [(aM, .inr (7, [.int 0, .ref a1, .int (nI ((((ks + 4) + 4) + 4) + 4)), .int (nI dn), .ref a2, .ref a3, .ref a4, .ref a5, .ref a6, .int (nI xa), .int ri, .int fa, .int fq, .int bg, .long tm, .int ka, .long kb, .int va, .long vb])), (a1, .inl (c1_, 16384, .inl (wrI (wrI (wrI (wrI tp ks (numL va0.toInt64 4)) (ks + 4) (numL va1.toInt64 4)) ((ks + 4) + 4) (numL va2.toInt64 4)) (((ks + 4) + 4) + 4) (numL va3.toInt64 4))))] := hD
      refine lv_aload_n hx hb dc_M_feed_60 rfl (lv_at hl 0 rfl) ?_
      refine lv_iload hx hb dc_M_feed_61 (lv_at hl 5 rfl) ?_
      refine lv_i2l (v := va4.toInt64) hx hb dc_M_feed_63 rfl ?_
      refine lv_iconst (v := 4) hx hb dc_M_feed_64 (by decide) ?_
      refine kc_v (wc := [(aM, .inr (7, [.int 0, .ref a1, .int (nI ((((ks + 4) + 4) + 4) + 4)), .int (nI dn), .ref a2, .ref a3, .ref a4, .ref a5, .ref a6, .int (nI xa), .int ri, .int fa, .int fq, .int bg, .long tm, .int ka, .long kb, .int va, .long vb])), (a1, .inl (c1_, 16384, .inl (wrI (wrI (wrI (wrI tp ks (numL va0.toInt64 4)) (ks + 4) (numL va1.toInt64 4)) ((ks + 4) + 4) (numL va2.toInt64 4)) (((ks + 4) + 4) + 4) (numL va3.toInt64 4))))]) (wr := []) hP hD hS hA [0, 1] [] rfl rfl (by decide) (by decide) (va_runV (As := [.long va4.toInt64, .int 4]) (rest := []) ⟨hx, hb, hml, hown, hts⟩ (c_M_put l dC dI _ aM 0 a1 ((((ks + 4) + 4) + 4) + 4) dn a2 a3 a4 a5 a6 xa ri fa fq bg tm ka kb va vb c1_ (wrI (wrI (wrI (wrI tp ks (numL va0.toInt64 4)) (ks + 4) (numL va1.toInt64 4)) ((ks + 4) + 4) (numL va2.toInt64 4)) (((ks + 4) + 4) + 4) (numL va3.toInt64 4)) va4.toInt64 4 (by omega)) (kw_V 2 hts bw3_227 bw3_229 bws_12 bw1_9 bw3_230 rfl rfl (by decide +kernel) ⟨Nat.le_of_ble_eq_true rfl, Nat.le_of_ble_eq_true rfl⟩) (kp_V (wc := [(aM, .inr (7, [.int 0, .ref a1, .int (nI ((((ks + 4) + 4) + 4) + 4)), .int (nI dn), .ref a2, .ref a3, .ref a4, .ref a5, .ref a6, .int (nI xa), .int ri, .int fa, .int fq, .int bg, .long tm, .int ka, .long kb, .int va, .long vb])), (a1, .inl (c1_, 16384, .inl (wrI (wrI (wrI (wrI tp ks (numL va0.toInt64 4)) (ks + 4) (numL va1.toInt64 4)) ((ks + 4) + 4) (numL va2.toInt64 4)) (((ks + 4) + 4) + 4) (numL va3.toInt64 4))))]) (tc := [(c1_, .int)]) (As := [.long va4.toInt64, .int 4]) hG hS hA hP hD hK [0, 1] rfl (by decide) rfl [0] rfl (ci := 7) (q0 := 0) rfl rfl) rfl rfl hl.1 rfl (lv_room (Nat.le_of_ble_eq_true rfl)) dc_M_feed_65 ⟨Nat.zero_le _, Nat.zero_le _⟩) (fun _ H locs hw hP hD hK1 hS => ?_)
      have hP : va_P (dC, dI) vwCl [(aM, .inr (7, [.int 0, .ref a1, .int (nI (((((ks + 4) + 4) + 4) + 4) + 4)), .int (nI dn), .ref a2, .ref a3, .ref a4, .ref a5, .ref a6, .int (nI xa), .int ri, .int fa, .int fq, .int bg, .long tm, .int ka, .long kb, .int va, .long vb])), (a1, .inl (c1_, 16384, .inl (wrI (wrI (wrI (wrI (wrI tp ks (numL va0.toInt64 4)) (ks + 4) (numL va1.toInt64 4)) ((ks + 4) + 4) (numL va2.toInt64 4)) (((ks + 4) + 4) + 4) (numL va3.toInt64 4)) ((((ks + 4) + 4) + 4) + 4) (numL va4.toInt64 4))))] H := hP
      have hD : va_D A [(aM, .inr (7, [.int 0, .ref a1, .int (nI (((((ks + 4) + 4) + 4) + 4) + 4)), .int (nI dn), .ref a2, .ref a3, .ref a4, .ref a5, .ref a6, .int (nI xa), .int ri, .int fa, .int fq, .int bg, .long tm, .int ka, .long kb, .int va, .long vb])), (a1, .inl (c1_, 16384, .inl (wrI (wrI (wrI (wrI (wrI tp ks (numL va0.toInt64 4)) (ks + 4) (numL va1.toInt64 4)) ((ks + 4) + 4) (numL va2.toInt64 4)) (((ks + 4) + 4) + 4) (numL va3.toInt64 4)) ((((ks + 4) + 4) + 4) + 4) (numL va4.toInt64 4))))] := hD
      refine lv_aload_n hx hb dc_M_feed_68 rfl (lv_at hl 0 rfl) ?_
      refine va_get (D := (dC, dI)) (ci := 7) (v := .int (nI (((((ks + 4) + 4) + 4) + 4) + 4))) (C := rn_M) (T := ft_M) (N := 19) hx hb hts fw_M hown hK hP 0 rfl rfl 2 (by decide) (hts _ bw3_161) (fun _ h9 => h9) rfl dc_M_feed_69 ?_
      have e_7 : (nI (((((ks + 4) + 4) + 4) + 4) + 4)) = (nI (ks + 20)) := by first | rfl | exact nI_1 _ | exact nI_add _ _ | exact (pk_sub (by omega)) | exact congrArg nI (by omega)
      have e_8 : (wrI (wrI (wrI (wrI (wrI tp ks (numL va0.toInt64 4)) (ks + 4) (numL va1.toInt64 4)) ((ks + 4) + 4) (numL va2.toInt64 4)) (((ks + 4) + 4) + 4) (numL va3.toInt64 4)) ((((ks + 4) + 4) + 4) + 4) (numL va4.toInt64 4)) = (wrI (wrI (wrI (wrI (wrI (tp) (ks) (numL va0.toInt64 4)) (ks + 4) (numL va1.toInt64 4)) (ks + 8) (numL va2.toInt64 4)) (ks + 12) (numL va3.toInt64 4)) (ks + 16) (numL va4.toInt64 4)) := by first | rfl | exact nI_1 _ | exact nI_add _ _ | exact (pk_sub (by omega)) | exact congrArg nI (by omega)
      have hP := wP_eq (ws' := [(aM, .inr (7, [.int 0, .ref a1, .int (nI (ks + 20)), .int (nI dn), .ref a2, .ref a3, .ref a4, .ref a5, .ref a6, .int (nI xa), .int ri, .int fa, .int fq, .int bg, .long tm, .int ka, .long kb, .int va, .long vb])), (a1, .inl (c1_, 16384, .inl (wrI (wrI (wrI (wrI (wrI (tp) (ks) (numL va0.toInt64 4)) (ks + 4) (numL va1.toInt64 4)) (ks + 8) (numL va2.toInt64 4)) (ks + 12) (numL va3.toInt64 4)) (ks + 16) (numL va4.toInt64 4))))]) hP (cg2 (fun y0 y1 => ([(aM, .inr (7, [.int 0, .ref a1, .int y0, .int (nI dn), .ref a2, .ref a3, .ref a4, .ref a5, .ref a6, .int (nI xa), .int ri, .int fa, .int fq, .int bg, .long tm, .int ka, .long kb, .int va, .long vb])), (a1, .inl (c1_, 16384, .inl y1))] : va_W)) e_7 e_8)
      have hD := wD_eq (ws' := [(aM, .inr (7, [.int 0, .ref a1, .int (nI (ks + 20)), .int (nI dn), .ref a2, .ref a3, .ref a4, .ref a5, .ref a6, .int (nI xa), .int ri, .int fa, .int fq, .int bg, .long tm, .int ka, .long kb, .int va, .long vb])), (a1, .inl (c1_, 16384, .inl (wrI (wrI (wrI (wrI (wrI (tp) (ks) (numL va0.toInt64 4)) (ks + 4) (numL va1.toInt64 4)) (ks + 8) (numL va2.toInt64 4)) (ks + 12) (numL va3.toInt64 4)) (ks + 16) (numL va4.toInt64 4))))]) hD (cg2 (fun y0 y1 => ([(aM, .inr (7, [.int 0, .ref a1, .int y0, .int (nI dn), .ref a2, .ref a3, .ref a4, .ref a5, .ref a6, .int (nI xa), .int ri, .int fa, .int fq, .int bg, .long tm, .int ka, .long kb, .int va, .long vb])), (a1, .inl (c1_, 16384, .inl y1))] : va_W)) e_7 e_8)
      have hP9 := hP.sub (ws' := [(aM, .inr (7, [.int 0, .ref a1, .int (nI (ks + 20)), .int (nI dn), .ref a2, .ref a3, .ref a4, .ref a5, .ref a6, .int (nI xa), .int ri, .int fa, .int fq, .int bg, .long tm, .int ka, .long kb, .int va, .long vb])), (a1, .inl (c1_, 16384, .inl (wrI (wrI (wrI (wrI (wrI (tp) (ks) (numL va0.toInt64 4)) (ks + 4) (numL va1.toInt64 4)) (ks + 8) (numL va2.toInt64 4)) (ks + 12) (numL va3.toInt64 4)) (ks + 16) (numL va4.toInt64 4))))]) [0, 1] rfl
      have hD9 := hD.sub (ws' := [(aM, .inr (7, [.int 0, .ref a1, .int (nI (ks + 20)), .int (nI dn), .ref a2, .ref a3, .ref a4, .ref a5, .ref a6, .int (nI xa), .int ri, .int fa, .int fq, .int bg, .long tm, .int ka, .long kb, .int va, .long vb])), (a1, .inl (c1_, 16384, .inl (wrI (wrI (wrI (wrI (wrI (tp) (ks) (numL va0.toInt64 4)) (ks + 4) (numL va1.toInt64 4)) (ks + 8) (numL va2.toInt64 4)) (ks + 12) (numL va3.toInt64 4)) (ks + 16) (numL va4.toInt64 4))))]) [0, 1] (by decide) rfl
      have hK9 := hK.sub (tys' := [(c1_, .int)]) [0] rfl
      exact W.iret (v := (nI (((((ks + 4) + 4) + 4) + 4) + 4))) hx hb hr (fun t ht hW => ⟨⟨(nI (((((ks + 4) + 4) + 4) + 4) + 4)), (), rfl, rfl, by rw [ht]; exact hP9, va_K.moved hW.alike hK9, hD9⟩, hS.F ht⟩) hS.2.2 dc_M_feed_72
    · exact absurd (by decide) c_1
  · refine lv_icmp_le (tgt := 18) hx hb dc_M_feed_11 (by decide) (fun c_9 => ?_) (fun c_9 => ?_)
    · refine lv_iconst (v := 0) hx hb dc_M_feed_18 (by decide) ?_
      exact hJ19 () _ _ _ ⟨hP.sub [0, 1] rfl, hD.sub [0, 1] (by decide) rfl, hS, lv_sub hl [0, 1, 2, 3, 4, 5] rfl⟩
    · exact absurd (by rw [show (20 : Int32) = nI 20 from rfl, nI_add]; exact nI_le (b := 16384) hk (by omega)) c_9

set_option maxHeartbeats 1000000 in
set_option maxRecDepth 100000 in
theorem c_M_feed_bad (l : Launch) (dC : Nat → ClassId) (dI : Nat → Nat → Nat) (sz : Nat) (aM : Nat) (co : Int32) (a1 : Nat) (ks : Nat) (dn : Nat) (a2 : Nat) (a3 : Nat) (a4 : Nat) (a5 : Nat) (a6 : Nat) (xa : Nat) (ri : Int32) (fa : Int32) (fq : Int32) (bg : Int32) (tm : Int64) (ka : Int32) (kb : Int64) (va : Int32) (vb : Int64) (va0 : Int32) (va1 : Int32) (va2 : Int32) (va3 : Int32) (va4 : Int32) (hk : 16384 < ks + 20) (hk2 : ks ≤ 16384) : Met l my_M_feed (wB my_M_feed cd_M_feed 6 (some .int)) ({ frames := 0, cells := 0, slots := 0, locals := 0 }) (va_Pc [.ref aM, .int va0, .int va1, .int va2, .int va3, .int va4] (PcW (dC, dI) [(aM, .inr (7, [.int co, .ref a1, .int (nI ks), .int (nI dn), .ref a2, .ref a3, .ref a4, .ref a5, .ref a6, .int (nI xa), .int ri, .int fa, .int fq, .int bg, .long tm, .int ka, .long kb, .int va, .long vb]))] [] sz)) (va_Qi (fun (r : Int32) => fun (_ : Unit) => r = 0) (fun _ => EnW (dC, dI) (va_A [(aM, .inr (7, [.int co, .ref a1, .int (nI ks), .int (nI dn), .ref a2, .ref a3, .ref a4, .ref a5, .ref a6, .int (nI xa), .int ri, .int fa, .int fq, .int bg, .long tm, .int ka, .long kb, .int va, .long vb]))] sz) [(aM, .inr (7, [.int 1, .ref a1, .int (nI ks), .int (nI dn), .ref a2, .ref a3, .ref a4, .ref a5, .ref a6, .int (nI xa), .int ri, .int fa, .int fq, .int bg, .long tm, .int ka, .long kb, .int va, .long vb]))] []) (va_A [(aM, .inr (7, [.int co, .ref a1, .int (nI ks), .int (nI dn), .ref a2, .ref a3, .ref a4, .ref a5, .ref a6, .int (nI xa), .int ri, .int fa, .int fq, .int bg, .long tm, .int ka, .long kb, .int va, .long vb]))] sz)) 0 0 (va_A [(aM, .inr (7, [.int co, .ref a1, .int (nI ks), .int (nI dn), .ref a2, .ref a3, .ref a4, .ref a5, .ref a6, .int (nI xa), .int ri, .int fa, .int fq, .int bg, .long tm, .int ka, .long kb, .int va, .long vb]))] sz) := by
  refine Met.ofW (cc := cd_M_feed) (maxL := 6) (ret := (some .int)) (by decide) rfl ?_
  intro p e s m args below meth c s₁ B hml hv
  obtain ⟨rfl, hsz, hP, hK, hD0, hG⟩ := hv
  have hx := B.exec
  have hb := B.bytes
  have hr := B.returns
  have hts := fun (w : Cond) (h : w ∈ bigT) => atoms_spec (ws := (wB my_M_feed cd_M_feed 6 (some .int))) B.pre w (List.mem_cons_of_mem _ h)
  have hown : s.vm.findClass rn_M = some m.cls := findClass_of_methodNamed B.named
  have hlocks := B.notSynchronized
  subst hsz
  have hD := hD0.self (sz := s.heap.size)
  generalize hAe : va_A [(aM, .inr (7, [.int co, .ref a1, .int (nI ks), .int (nI dn), .ref a2, .ref a3, .ref a4, .ref a5, .ref a6, .int (nI xa), .int ri, .int fa, .int fq, .int bg, .long tm, .int ka, .long kb, .int va, .long vb]))] s.heap.size = A at hD hG ⊢
  have hA : ∀ q : Nat, s.heap.size ≤ q → A q := fun q h => by rw [← hAe]; exact Or.inr h
  have hS : va_S A s.heap s.heap [] := va_S.rf
  have hP : va_P (dC, dI) vwCl [(aM, .inr (7, [.int co, .ref a1, .int (nI ks), .int (nI dn), .ref a2, .ref a3, .ref a4, .ref a5, .ref a6, .int (nI xa), .int ri, .int fa, .int fq, .int bg, .long tm, .int ka, .long kb, .int va, .long vb]))] s.heap := hP
  have hl := lv_entry ([.ref aM, .int va0, .int va1, .int va2, .int va3, .int va4]) (n := 6) (Nat.le_of_ble_eq_true rfl)
  rw [lg_entry_eq]
  generalize (lg_sl ([.ref aM, .int va0, .int va1, .int va2, .int va3, .int va4]) ++ List.replicate (6 - (lg_sl ([.ref aM, .int va0, .int va1, .int va2, .int va3, .int va4])).length) Slot.unset).toArray = ls at hl ⊢
  have hl : lv_has ls 6 [(0, .ref aM), (1, .int va0), (2, .int va1), (3, .int va2), (4, .int va3), (5, .int va4)] := hl
  refine lv_aload_n hx hb dc_M_feed_0 rfl (lv_at hl 0 rfl) ?_
  refine lv_aload_n hx hb dc_M_feed_1 rfl (lv_at hl 0 rfl) ?_
  refine va_get (D := (dC, dI)) (ci := 7) (v := .int (nI ks)) (C := rn_M) (T := ft_M) (N := 19) hx hb hts fw_M hown hK hP 0 rfl rfl 2 (by decide) (hts _ bw3_161) (fun _ h9 => h9) rfl dc_M_feed_2 ?_
  refine lv_bipush (v := 20) hx hb dc_M_feed_5 (by decide) ?_
  refine lv_iadd hx hb dc_M_feed_7 ?_
  refine lv_sipush (v := 16384) hx hb dc_M_feed_8 (by decide) ?_
  refine w_join (σ := Unit) (fun v19_ H locs ls => va_P (dC, dI) vwCl [(aM, .inr (7, [.int co, .ref a1, .int (nI ks), .int (nI dn), .ref a2, .ref a3, .ref a4, .ref a5, .ref a6, .int (nI xa), .int ri, .int fa, .int fq, .int bg, .long tm, .int ka, .long kb, .int va, .long vb]))] H ∧ va_D A [(aM, .inr (7, [.int co, .ref a1, .int (nI ks), .int (nI dn), .ref a2, .ref a3, .ref a4, .ref a5, .ref a6, .int (nI xa), .int ri, .int fa, .int fq, .int bg, .long tm, .int ka, .long kb, .int va, .long vb]))] ∧ va_S A s.heap H locs ∧ lv_has ls 6 [(0, .ref aM), (1, .int va0), (2, .int va1), (3, .int va2), (4, .int va3), (5, .int va4)]) (fun v19_ ls => F0 m 19 ls [.int 1, .ref aM]) ?_ (fun hJ19 => ?_)
  · rintro v19_ H locs ls ⟨hP, hD, hS, hl⟩
    have hP : va_P (dC, dI) vwCl [(aM, .inr (7, [.int co, .ref a1, .int (nI ks), .int (nI dn), .ref a2, .ref a3, .ref a4, .ref a5, .ref a6, .int (nI xa), .int ri, .int fa, .int fq, .int bg, .long tm, .int ka, .long kb, .int va, .long vb]))] H := hP
    have hD : va_D A [(aM, .inr (7, [.int co, .ref a1, .int (nI ks), .int (nI dn), .ref a2, .ref a3, .ref a4, .ref a5, .ref a6, .int (nI xa), .int ri, .int fa, .int fq, .int bg, .long tm, .int ka, .long kb, .int va, .long vb]))] := hD
    have hl : lv_has ls 6 [(0, .ref aM), (1, .int va0), (2, .int va1), (3, .int va2), (4, .int va3), (5, .int va4)] := hl
    show W _ _ _ _ _ _ _ _ _ _ _ _ _ _ _ (F0 m 19 ls [.int 1, .ref aM])
    refine va_put (D := (dC, dI)) (ci := 7) (v := .int 1) (ty := .int) (C := rn_M) (T := ft_M) (N := 19) hx hb hts fw_M fy_M fo_M fn_M hown hK hP hD hS 0 rfl rfl 0 (by decide) (hts _ bw3_159) (fun _ h9 => h9) rfl (by decide +kernel) rfl rfl (Nat.le_of_ble_eq_true rfl) dc_M_feed_19 (fun H locs hP hD hS => ?_)
    have hP : va_P (dC, dI) vwCl [(aM, .inr (7, [.int 1, .ref a1, .int (nI ks), .int (nI dn), .ref a2, .ref a3, .ref a4, .ref a5, .ref a6, .int (nI xa), .int ri, .int fa, .int fq, .int bg, .long tm, .int ka, .long kb, .int va, .long vb]))] H := hP
    have hD : va_D A [(aM, .inr (7, [.int 1, .ref a1, .int (nI ks), .int (nI dn), .ref a2, .ref a3, .ref a4, .ref a5, .ref a6, .int (nI xa), .int ri, .int fa, .int fq, .int bg, .long tm, .int ka, .long kb, .int va, .long vb]))] := hD
    refine lv_aload_n hx hb dc_M_feed_22 rfl (lv_at hl 0 rfl) ?_
    refine va_get (D := (dC, dI)) (ci := 7) (v := .int 1) (C := rn_M) (T := ft_M) (N := 19) hx hb hts fw_M hown hK hP 0 rfl rfl 0 (by decide) (hts _ bw3_159) (fun _ h9 => h9) rfl dc_M_feed_23 ?_
    refine lv_if_le (tgt := 31) hx hb dc_M_feed_26 (by decide) (fun c_1 => ?_) (fun c_1 => ?_)
    · exact absurd c_1 (by decide)
    · refine lv_iconst (v := 0) hx hb dc_M_feed_29 (by decide) ?_
      have hP9 := hP.sub (ws' := [(aM, .inr (7, [.int 1, .ref a1, .int (nI ks), .int (nI dn), .ref a2, .ref a3, .ref a4, .ref a5, .ref a6, .int (nI xa), .int ri, .int fa, .int fq, .int bg, .long tm, .int ka, .long kb, .int va, .long vb]))]) [0] rfl
      have hD9 := hD.sub (ws' := [(aM, .inr (7, [.int 1, .ref a1, .int (nI ks), .int (nI dn), .ref a2, .ref a3, .ref a4, .ref a5, .ref a6, .int (nI xa), .int ri, .int fa, .int fq, .int bg, .long tm, .int ka, .long kb, .int va, .long vb]))]) [0] (by decide) rfl
      have hK9 := hK.sub (tys' := []) [] rfl
      exact W.iret (v := 0) hx hb hr (fun t ht hW => ⟨⟨0, (), rfl, rfl, by rw [ht]; exact hP9, va_K.moved hW.alike hK9, hD9⟩, hS.F ht⟩) hS.2.2 dc_M_feed_30
  · refine lv_icmp_le (tgt := 18) hx hb dc_M_feed_11 (by decide) (fun c_2 => ?_) (fun c_2 => ?_)
    · exfalso; exact absurd ((nI_leI (a := ks + 20) (b := 16384) (by omega) (by omega)).mp (by rw [← nI_add]; exact c_2)) (by omega)
    · refine lv_iconst (v := 1) hx hb dc_M_feed_14 (by decide) ?_
      refine lv_goto (tgt := 19) hx hb dc_M_feed_15 (by decide) ?_
      exact hJ19 () _ _ _ ⟨hP.sub [0] rfl, hD.sub [0] (by decide) rfl, hS, lv_sub hl [0, 1, 2, 3, 4, 5] rfl⟩
