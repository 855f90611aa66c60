set_option maxHeartbeats 1000000 in
set_option maxRecDepth 100000 in
theorem c_B_feed_bad (l : Launch) (dC : Nat → ClassId) (dI : Nat → Nat → Nat) (sz : Nat) (aB : Nat) (aF : Nat) (aQ : Nat) (fk : Int32) (fp : Int32) (aT : Nat) (aR : Nat) (cA : ClassId) (n : Nat) (f : Nat → Int32) (k : Nat) (ch : Int32) (va0 : Int32) (va1 : Int32) (va2 : Int32) (va3 : Int32) (va4 : Int32) (hk : k ≤ n) (hn : n ≤ 16384) (hk2 : 16384 < k + 20) (hst : l.stackTraces = false) : vx_Met l my_B_feed (wB my_B_feed cd_B_feed 6 (some .int)) ({ frames := 6, cells := 1, slots := 6, locals := 82 }) (va_Pc [.ref aB, .int va0, .int va1, .int va2, .int va3, .int va4] (PcW (dC, dI) [(aB, .inr (6, [.ref aT, .ref aF, .ref aQ, .int fk, .int fp])), (aT, .inr (5, [.ref aR, .int (nI k), .int ch])), (aR, .inl (cA, n, .inl f))] [(cA, .byte)] sz)) (va_Qi (fun (_ : Int32) (_ : Unit) => False) (fun _ _ => True) (va_A [(aB, .inr (6, [.ref aT, .ref aF, .ref aQ, .int fk, .int fp])), (aT, .inr (5, [.ref aR, .int (nI k), .int ch])), (aR, .inl (cA, n, .inl f))] sz)) (vx_X (fun (_ : Unit) => True) (fun E => fun _ => fun t => E = "java/lang/IllegalStateException" ∧ EnW (dC, dI) (va_A [(aB, .inr (6, [.ref aT, .ref aF, .ref aQ, .int fk, .int fp])), (aT, .inr (5, [.ref aR, .int (nI k), .int ch])), (aR, .inl (cA, n, .inl f))] sz) [(aB, .inr (6, [.ref aT, .ref aF, .ref aQ, .int fk, .int fp])), (aT, .inr (5, [.ref aR, .int (nI k), .int ch])), (aR, .inl (cA, n, .inl f))] [(cA, .byte)] t) (va_A [(aB, .inr (6, [.ref aT, .ref aF, .ref aQ, .int fk, .int fp])), (aT, .inr (5, [.ref aR, .int (nI k), .int ch])), (aR, .inl (cA, n, .inl f))] sz)) 1 6 (va_A [(aB, .inr (6, [.ref aT, .ref aF, .ref aQ, .int fk, .int fp])), (aT, .inr (5, [.ref aR, .int (nI k), .int ch])), (aR, .inl (cA, n, .inl f))] sz) := by
  refine vx_ofW (cc := cd_B_feed) (maxL := 6) (ret := (some .int)) (by decide) rfl ?_
  intro p e s m args below meth c s₁ B hml htab hv
  obtain ⟨rfl, hsz, hP, hK, hD0, hG⟩ := hv
  have hx := B.exec
  have hb := B.bytes
  have hr := B.returns
  have hts := fun (w : Cond) (h : w ∈ bigT) => atoms_spec (ws := (wB my_B_feed cd_B_feed 6 (some .int))) B.pre w (List.mem_cons_of_mem _ h)
  have hown : s.vm.findClass rn_B = some m.cls := findClass_of_methodNamed B.named
  have hlocks := B.notSynchronized
  subst hsz
  have hD := hD0.self (sz := s.heap.size)
  generalize hAe : va_A [(aB, .inr (6, [.ref aT, .ref aF, .ref aQ, .int fk, .int fp])), (aT, .inr (5, [.ref aR, .int (nI k), .int ch])), (aR, .inl (cA, n, .inl f))] s.heap.size = A at hD hG ⊢
  have hA : ∀ q : Nat, s.heap.size ≤ q → A q := fun q h => by rw [← hAe]; exact Or.inr h
  have hS : va_S A s.heap s.heap [] := va_S.rf
  have hP : va_P (dC, dI) vwCl [(aB, .inr (6, [.ref aT, .ref aF, .ref aQ, .int fk, .int fp])), (aT, .inr (5, [.ref aR, .int (nI k), .int ch])), (aR, .inl (cA, n, .inl f))] s.heap := hP
  have hl := lv_entry ([.ref aB, .int va0, .int va1, .int va2, .int va3, .int va4]) (n := 6) (Nat.le_of_ble_eq_true rfl)
  rw [lg_entry_eq]
  generalize (lg_sl ([.ref aB, .int va0, .int va1, .int va2, .int va3, .int va4]) ++ List.replicate (6 - (lg_sl ([.ref aB, .int va0, .int va1, .int va2, .int va3, .int va4])).length) Slot.unset).toArray = ls at hl ⊢
  have hl : lv_has ls 6 [(0, .ref aB), (1, .int va0), (2, .int va1), (3, .int va2), (4, .int va3), (5, .int va4)] := hl
  refine lv_aload_n hx hb dc_B_feed_0 rfl (lv_at hl 0 rfl) ?_
  refine va_get (D := (dC, dI)) (ci := 6) (v := .ref aT) (C := rn_B) (T := ft_B) (N := 5) hx hb hts fw_B hown hK hP 0 rfl rfl 0 (by decide) (hts _ bw1_151) (fun _ h9 => h9) rfl dc_B_feed_1 ?_
  refine va_get (D := (dC, dI)) (ci := 5) (v := .int (nI k)) (C := rn_T) (T := ft_T) (N := 3) hx hb hts fw_T hown hK hP 1 rfl rfl 1 (by decide) (hts _ bw1_38) (fun _ h9 => h9) rfl dc_B_feed_4 ?_
  refine lv_bipush (v := 20) hx hb dc_B_feed_7 (by decide) ?_
  refine lv_iadd hx hb dc_B_feed_9 ?_
  refine lv_sipush (v := 16384) hx hb dc_B_feed_10 (by decide) ?_
  refine lv_icmp_le (tgt := 26) hx hb dc_B_feed_13 (by decide) (fun c_1 => ?_) (fun c_1 => ?_)
  · exfalso; exact absurd ((nI_leI (a := k + 20) (b := 16384) (by omega) (by omega)).mp (by rw [← nI_add]; exact c_1)) (by omega)
  · have hP9 := hP.sub (ws' := [(aB, .inr (6, [.ref aT, .ref aF, .ref aQ, .int fk, .int fp])), (aT, .inr (5, [.ref aR, .int (nI k), .int ch])), (aR, .inl (cA, n, .inl f))]) [0, 1, 2] rfl
    have hD9 := hD.sub (ws' := [(aB, .inr (6, [.ref aT, .ref aF, .ref aQ, .int fk, .int fp])), (aT, .inr (5, [.ref aR, .int (nI k), .int ch])), (aR, .inl (cA, n, .inl f))]) [0, 1, 2] (by decide) rfl
    have hK9 := hK.sub (tys' := [(cA, .byte)]) [0] rfl
    obtain ⟨sa, hsa⟩ := hG.2.1 (44, "the tape would have more than 16384 bytes") (by decide +kernel)
    exact vx_throwS (A := A) (free := A) (own := "BatchBytes") (cls := "java/lang/IllegalStateException") (text := "the tape would have more than 16384 bytes") (names := ["java/lang/RuntimeException", "java/lang/Exception"]) hx hb hst hown (by decide +kernel) (by decide +kernel) (hts _ bw1_213) (hts _ bw1_13) hsa (th_S hts hG.1) gd_S hG.2.2.2.2.1.1 hG.2.2.2.2.1.2 hS (hl.1.trans hml.symm) dc_B_feed_16 dc_B_feed_19 dc_B_feed_20 dc_B_feed_22 dc_B_feed_25 (fun q h => (htab q h).elim) (Nat.le_of_ble_eq_true rfl) (Nat.le_of_ble_eq_true rfl) (by show _ ≤ 1; omega) (by show _ ≤ 6; omega) hlocks (fun t hv hz hk => ⟨(), trivial, ⟨rfl, vx_enP hP9 hk, va_K.moved hv hK9, hD9⟩, vx_enF hS hz hk⟩) hS.2.2 (by omega) (by omega)

set_option maxHeartbeats 1000000 in
set_option maxRecDepth 100000 in
theorem c_B_trim_bad (l : Launch) (dC : Nat → ClassId) (dI : Nat → Nat → Nat) (sz : Nat) (aB : Nat) (aF : Nat) (aQ : Nat) (fk : Int32) (fp : Int32) (aT : Nat) (aR : Nat) (cA : ClassId) (n : Nat) (f : Nat → Int32) (k : Nat) (ch : Int32) (xn : Int32) (hbad : xn < 0 ∨ ¬ xn ≤ nI k) (hst : l.stackTraces = false) : vx_Met l my_B_trim (wB my_B_trim cd_B_trim 2 (some .int)) ({ frames := 6, cells := 1, slots := 6, locals := 82 }) (va_Pc [.ref aB, .int xn] (PcW (dC, dI) [(aB, .inr (6, [.ref aT, .ref aF, .ref aQ, .int fk, .int fp])), (aT, .inr (5, [.ref aR, .int (nI k), .int ch])), (aR, .inl (cA, n, .inl f))] [(cA, .byte)] sz)) (va_Qi (fun (_ : Int32) (_ : Unit) => False) (fun _ _ => True) (va_A [(aB, .inr (6, [.ref aT, .ref aF, .ref aQ, .int fk, .int fp])), (aT, .inr (5, [.ref aR, .int (nI k), .int ch])), (aR, .inl (cA, n, .inl f))] sz)) (vx_X (fun (_ : Unit) => True) (fun E => fun _ => fun t => E = "java/lang/IllegalArgumentException" ∧ EnW (dC, dI) (va_A [(aB, .inr (6, [.ref aT, .ref aF, .ref aQ, .int fk, .int fp])), (aT, .inr (5, [.ref aR, .int (nI k), .int ch])), (aR, .inl (cA, n, .inl f))] sz) [(aB, .inr (6, [.ref aT, .ref aF, .ref aQ, .int fk, .int fp])), (aT, .inr (5, [.ref aR, .int (nI k), .int ch])), (aR, .inl (cA, n, .inl f))] [(cA, .byte)] t) (va_A [(aB, .inr (6, [.ref aT, .ref aF, .ref aQ, .int fk, .int fp])), (aT, .inr (5, [.ref aR, .int (nI k), .int ch])), (aR, .inl (cA, n, .inl f))] sz)) 1 6 (va_A [(aB, .inr (6, [.ref aT, .ref aF, .ref aQ, .int fk, .int fp])), (aT, .inr (5, [.ref aR, .int (nI k), .int ch])), (aR, .inl (cA, n, .inl f))] sz) := by
  refine vx_ofW (cc := cd_B_trim) (maxL := 2) (ret := (some .int)) (by decide) rfl ?_
  intro p e s m args below meth c s₁ B hml htab hv
  obtain ⟨rfl, hsz, hP, hK, hD0, hG⟩ := hv
  have hx := B.exec
  have hb := B.bytes
  have hr := B.returns
  have hts := fun (w : Cond) (h : w ∈ bigT) => atoms_spec (ws := (wB my_B_trim cd_B_trim 2 (some .int))) B.pre w (List.mem_cons_of_mem _ h)
  have hown : s.vm.findClass rn_B = some m.cls := findClass_of_methodNamed B.named
  have hlocks := B.notSynchronized
  subst hsz
  have hD := hD0.self (sz := s.heap.size)
  generalize hAe : va_A [(aB, .inr (6, [.ref aT, .ref aF, .ref aQ, .int fk, .int fp])), (aT, .inr (5, [.ref aR, .int (nI k), .int ch])), (aR, .inl (cA, n, .inl f))] s.heap.size = A at hD hG ⊢
  have hA : ∀ q : Nat, s.heap.size ≤ q → A q := fun q h => by rw [← hAe]; exact Or.inr h
  have hS : va_S A s.heap s.heap [] := va_S.rf
  have hP : va_P (dC, dI) vwCl [(aB, .inr (6, [.ref aT, .ref aF, .ref aQ, .int fk, .int fp])), (aT, .inr (5, [.ref aR, .int (nI k), .int ch])), (aR, .inl (cA, n, .inl f))] s.heap := hP
  have hl := lv_entry ([.ref aB, .int xn]) (n := 2) (Nat.le_of_ble_eq_true rfl)
  rw [lg_entry_eq]
  generalize (lg_sl ([.ref aB, .int xn]) ++ List.replicate (2 - (lg_sl ([.ref aB, .int xn])).length) Slot.unset).toArray = ls at hl ⊢
  have hl : lv_has ls 2 [(0, .ref aB), (1, .int xn)] := hl
  refine lv_iload_n hx hb dc_B_trim_0 rfl (lv_at hl 1 rfl) ?_
  refine lv_if_lt (tgt := 15) hx hb dc_B_trim_1 (by decide) (fun c_1 => ?_) (fun c_1 => ?_)
  · have hP9 := hP.sub (ws' := [(aB, .inr (6, [.ref aT, .ref aF, .ref aQ, .int fk, .int fp])), (aT, .inr (5, [.ref aR, .int (nI k), .int ch])), (aR, .inl (cA, n, .inl f))]) [0, 1, 2] rfl
    have hD9 := hD.sub (ws' := [(aB, .inr (6, [.ref aT, .ref aF, .ref aQ, .int fk, .int fp])), (aT, .inr (5, [.ref aR, .int (nI k), .int ch])), (aR, .inl (cA, n, .inl f))]) [0, 1, 2] (by decide) rfl
    have hK9 := hK.sub (tys' := [(cA, .byte)]) [0] rfl
    obtain ⟨sa, hsa⟩ := hG.2.1 (59, "the tape has not so many bytes") (by decide +kernel)
    exact vx_throwS (A := A) (free := A) (own := "BatchBytes") (cls := "java/lang/IllegalArgumentException") (text := "the tape has not so many bytes") (names := ["java/lang/RuntimeException", "java/lang/Exception"]) hx hb hst hown (by decide +kernel) (by decide +kernel) (hts _ bw2_80) (hts _ bw1_17) hsa (th_A hts hG.1) gd_A hG.2.2.2.2.1.1 hG.2.2.2.2.1.2 hS (hl.1.trans hml.symm) dc_B_trim_15 dc_B_trim_18 dc_B_trim_19 dc_B_trim_21 dc_B_trim_24 (fun q h => (htab q h).elim) (Nat.le_of_ble_eq_true rfl) (Nat.le_of_ble_eq_true rfl) (by show _ ≤ 1; omega) (by show _ ≤ 6; omega) hlocks (fun t hv hz hk => ⟨(), trivial, ⟨rfl, vx_enP hP9 hk, va_K.moved hv hK9, hD9⟩, vx_enF hS hz hk⟩) hS.2.2 (by omega) (by omega)
  · have h1 := c_1
    refine lv_iload_n hx hb dc_B_trim_4 rfl (lv_at hl 1 rfl) ?_
    refine lv_aload_n hx hb dc_B_trim_5 rfl (lv_at hl 0 rfl) ?_
    refine va_get (D := (dC, dI)) (ci := 6) (v := .ref aT) (C := rn_B) (T := ft_B) (N := 5) hx hb hts fw_B hown hK hP 0 rfl rfl 0 (by decide) (hts _ bw1_151) (fun _ h9 => h9) rfl dc_B_trim_6 ?_
    refine va_get (D := (dC, dI)) (ci := 5) (v := .int (nI k)) (C := rn_T) (T := ft_T) (N := 3) hx hb hts fw_T hown hK hP 1 rfl rfl 1 (by decide) (hts _ bw1_38) (fun _ h9 => h9) rfl dc_B_trim_9 ?_
    refine lv_icmp_le (tgt := 25) hx hb dc_B_trim_12 (by decide) (fun c_2 => ?_) (fun c_2 => ?_)
    · exfalso; exact hbad.elim h1 (fun h => h c_2)
    · have hP9 := hP.sub (ws' := [(aB, .inr (6, [.ref aT, .ref aF, .ref aQ, .int fk, .int fp])), (aT, .inr (5, [.ref aR, .int (nI k), .int ch])), (aR, .inl (cA, n, .inl f))]) [0, 1, 2] rfl
      have hD9 := hD.sub (ws' := [(aB, .inr (6, [.ref aT, .ref aF, .ref aQ, .int fk, .int fp])), (aT, .inr (5, [.ref aR, .int (nI k), .int ch])), (aR, .inl (cA, n, .inl f))]) [0, 1, 2] (by decide) rfl
      have hK9 := hK.sub (tys' := [(cA, .byte)]) [0] rfl
      obtain ⟨sa, hsa⟩ := hG.2.1 (59, "the tape has not so many bytes") (by decide +kernel)
      exact vx_throwS (A := A) (free := A) (own := "BatchBytes") (cls := "java/lang/IllegalArgumentException") (text := "the tape has not so many bytes") (names := ["java/lang/RuntimeException", "java/lang/Exception"]) hx hb hst hown (by decide +kernel) (by decide +kernel) (hts _ bw2_80) (hts _ bw1_17) hsa (th_A hts hG.1) gd_A hG.2.2.2.2.1.1 hG.2.2.2.2.1.2 hS (hl.1.trans hml.symm) dc_B_trim_15 dc_B_trim_18 dc_B_trim_19 dc_B_trim_21 dc_B_trim_24 (fun q h => (htab q h).elim) (Nat.le_of_ble_eq_true rfl) (Nat.le_of_ble_eq_true rfl) (by show _ ≤ 1; omega) (by show _ ≤ 6; omega) hlocks (fun t hv hz hk => ⟨(), trivial, ⟨rfl, vx_enP hP9 hk, va_K.moved hv hK9, hD9⟩, vx_enF hS hz hk⟩) hS.2.2 (by omega) (by omega)

set_option maxHeartbeats 1000000 in
set_option maxRecDepth 100000 in
theorem c_B_byteAt_bad (l : Launch) (dC : Nat → ClassId) (dI : Nat → Nat → Nat) (sz : Nat) (aB : Nat) (aF : Nat) (aQ : Nat) (fk : Int32) (fp : Int32) (aT : Nat) (aR : Nat) (cA : ClassId) (n : Nat) (f : Nat → Int32) (k : Nat) (ch : Int32) (xi : Int32) (hk : k ≤ n) (hn : n ≤ 16384) (hbad : hasC k xi = 0) (hst : l.stackTraces = false) : vx_Met l my_B_byteAt (wB my_B_byteAt cd_B_byteAt 2 (some .int)) ({ frames := 6, cells := 1, slots := 6, locals := 82 }) (va_Pc [.ref aB, .int xi] (PcW (dC, dI) [(aB, .inr (6, [.ref aT, .ref aF, .ref aQ, .int fk, .int fp])), (aT, .inr (5, [.ref aR, .int (nI k), .int ch])), (aR, .inl (cA, n, .inl f))] [(cA, .byte)] sz)) (va_Qi (fun (_ : Int32) (_ : Unit) => False) (fun _ _ => True) (va_A [(aB, .inr (6, [.ref aT, .ref aF, .ref aQ, .int fk, .int fp])), (aT, .inr (5, [.ref aR, .int (nI k), .int ch])), (aR, .inl (cA, n, .inl f))] sz)) (vx_X (fun (_ : Unit) => True) (fun E => fun _ => fun t => E = "java/lang/IllegalArgumentException" ∧ EnW (dC, dI) (va_A [(aB, .inr (6, [.ref aT, .ref aF, .ref aQ, .int fk, .int fp])), (aT, .inr (5, [.ref aR, .int (nI k), .int ch])), (aR, .inl (cA, n, .inl f))] sz) [(aB, .inr (6, [.ref aT, .ref aF, .ref aQ, .int fk, .int fp])), (aT, .inr (5, [.ref aR, .int (nI k), .int ch])), (aR, .inl (cA, n, .inl f))] [(cA, .byte)] t) (va_A [(aB, .inr (6, [.ref aT, .ref aF, .ref aQ, .int fk, .int fp])), (aT, .inr (5, [.ref aR, .int (nI k), .int ch])), (aR, .inl (cA, n, .inl f))] sz)) 1 6 (va_A [(aB, .inr (6, [.ref aT, .ref aF, .ref aQ, .int fk, .int fp])), (aT, .inr (5, [.ref aR, .int (nI k), .int ch])), (aR, .inl (cA, n, .inl f))] sz) := by
  refine vx_ofW (cc := cd_B_byteAt) (maxL := 2) (ret := (some .int)) (by decide) rfl ?_
  intro p e s m args below meth c s₁ B hml htab hv
  obtain ⟨rfl, hsz, hP, hK, hD0, hG⟩ := hv
  have hx := B.exec
  have hb := B.bytes
  have hr := B.returns
  have hts := fun (w : Cond) (h : w ∈ bigT) => atoms_spec (ws := (wB my_B_byteAt cd_B_byteAt 2 (some .int))) B.pre w (List.mem_cons_of_mem _ h)
  have hown : s.vm.findClass rn_B = some m.cls := findClass_of_methodNamed B.named
  have hlocks := B.notSynchronized
  subst hsz
  have hD := hD0.self (sz := s.heap.size)
  generalize hAe : va_A [(aB, .inr (6, [.ref aT, .ref aF, .ref aQ, .int fk, .int fp])), (aT, .inr (5, [.ref aR, .int (nI k), .int ch])), (aR, .inl (cA, n, .inl f))] s.heap.size = A at hD hG ⊢
  have hA : ∀ q : Nat, s.heap.size ≤ q → A q := fun q h => by rw [← hAe]; exact Or.inr h
  have hS : va_S A s.heap s.heap [] := va_S.rf
  have hP : va_P (dC, dI) vwCl [(aB, .inr (6, [.ref aT, .ref aF, .ref aQ, .int fk, .int fp])), (aT, .inr (5, [.ref aR, .int (nI k), .int ch])), (aR, .inl (cA, n, .inl f))] s.heap := hP
  have hl := lv_entry ([.ref aB, .int xi]) (n := 2) (Nat.le_of_ble_eq_true rfl)
  rw [lg_entry_eq]
  generalize (lg_sl ([.ref aB, .int xi]) ++ List.replicate (2 - (lg_sl ([.ref aB, .int xi])).length) Slot.unset).toArray = ls at hl ⊢
  have hl : lv_has ls 2 [(0, .ref aB), (1, .int xi)] := hl
  refine lv_aload_n hx hb dc_B_byteAt_0 rfl (lv_at hl 0 rfl) ?_
  refine va_get (D := (dC, dI)) (ci := 6) (v := .ref aT) (C := rn_B) (T := ft_B) (N := 5) hx hb hts fw_B hown hK hP 0 rfl rfl 0 (by decide) (hts _ bw1_151) (fun _ h9 => h9) rfl dc_B_byteAt_1 ?_
  refine lv_iload_n hx hb dc_B_byteAt_4 rfl (lv_at hl 1 rfl) ?_
  refine kc_i (wc := [(aT, .inr (5, [.ref aR, .int (nI k), .int ch])), (aR, .inl (cA, n, .inl f))]) (wr := [(aB, .inr (6, [.ref aT, .ref aF, .ref aQ, .int fk, .int fp]))]) hP hD hS hA [1, 2] [0] rfl rfl (by decide) (by decide) (va_runV (As := [.int xi]) (rest := []) ⟨hx, hb, hml, hown, hts⟩ (c_T_has l dC dI _ aT aR cA n f k ch xi (by omega) (by omega)) (kw_V 1 hts bw2_107 bw1_186 bw1_187 bw1_2 bw1_188 rfl rfl (by decide +kernel) ⟨Nat.le_of_ble_eq_true rfl, Nat.le_of_ble_eq_true rfl⟩) (kp_V (wc := [(aT, .inr (5, [.ref aR, .int (nI k), .int ch])), (aR, .inl (cA, n, .inl f))]) (tc := [(cA, .byte)]) (As := [.int xi]) hG hS hA hP hD hK [1, 2] rfl (by decide) rfl [0] rfl (ci := 5) (q0 := 1) rfl rfl) rfl rfl hl.1 rfl (lv_room (Nat.le_of_ble_eq_true rfl)) dc_B_byteAt_5 ⟨Nat.zero_le _, Nat.zero_le _⟩) (fun r_1 _ H locs hw hP hD hK1 hS => ?_)
  have hw : hasC k xi = r_1 := hw.symm
  subst hw
  have hP : va_P (dC, dI) vwCl [(aB, .inr (6, [.ref aT, .ref aF, .ref aQ, .int fk, .int fp])), (aT, .inr (5, [.ref aR, .int (nI k), .int ch])), (aR, .inl (cA, n, .inl f))] H := hP
  have hD : va_D A [(aB, .inr (6, [.ref aT, .ref aF, .ref aQ, .int fk, .int fp])), (aT, .inr (5, [.ref aR, .int (nI k), .int ch])), (aR, .inl (cA, n, .inl f))] := hD
  refine lv_if_ne (tgt := 21) hx hb dc_B_byteAt_8 (by decide) (fun c_2 => ?_) (fun c_2 => ?_)
  · exact absurd (hbad) c_2
  · have hP9 := hP.sub (ws' := [(aB, .inr (6, [.ref aT, .ref aF, .ref aQ, .int fk, .int fp])), (aT, .inr (5, [.ref aR, .int (nI k), .int ch])), (aR, .inl (cA, n, .inl f))]) [0, 1, 2] rfl
    have hD9 := hD.sub (ws' := [(aB, .inr (6, [.ref aT, .ref aF, .ref aQ, .int fk, .int fp])), (aT, .inr (5, [.ref aR, .int (nI k), .int ch])), (aR, .inl (cA, n, .inl f))]) [0, 1, 2] (by decide) rfl
    have hK9 := hK.sub (tys' := [(cA, .byte)]) [0] rfl
    obtain ⟨sa, hsa⟩ := hG.2.1 (69, "the tape has no such byte") (by decide +kernel)
    exact vx_throwS (A := A) (free := A) (own := "BatchBytes") (cls := "java/lang/IllegalArgumentException") (text := "the tape has no such byte") (names := ["java/lang/RuntimeException", "java/lang/Exception"]) hx hb hst hown (by decide +kernel) (by decide +kernel) (hts _ bw2_80) (hts _ bw1_17) hsa (th_A hts hG.1) gd_A hG.2.2.2.2.1.1 hG.2.2.2.2.1.2 hS (hl.1.trans hml.symm) dc_B_byteAt_11 dc_B_byteAt_14 dc_B_byteAt_15 dc_B_byteAt_17 dc_B_byteAt_20 (fun q h => (htab q h).elim) (Nat.le_of_ble_eq_true rfl) (Nat.le_of_ble_eq_true rfl) (by show _ ≤ 1; omega) (by show _ ≤ 6; omega) hlocks (fun t hv hz hk => ⟨(), trivial, ⟨rfl, vx_enP hP9 hk, va_K.moved hv hK9, hD9⟩, vx_enF hS hz hk⟩) hS.2.2 (by omega) (by omega)

set_option maxHeartbeats 1000000 in
set_option maxRecDepth 100000 in
theorem c_B_spoil_bad (l : Launch) (dC : Nat → ClassId) (dI : Nat → Nat → Nat) (sz : Nat) (aB : Nat) (aF : Nat) (aQ : Nat) (fk : Int32) (fp : Int32) (aT : Nat) (aR : Nat) (cA : ClassId) (n : Nat) (f : Nat → Int32) (k : Nat) (ch : Int32) (xi : Int32) (xs : Int32) (hk : k ≤ n) (hn : n ≤ 16384) (hbad : hasC k xi = 0 ∨ xs < 0 ∨ ¬ xs ≤ 255) (hst : l.stackTraces = false) : vx_Met l my_B_spoil (wB my_B_spoil cd_B_spoil 3 (some .int)) ({ frames := 6, cells := 1, slots := 6, locals := 82 }) (va_Pc [.ref aB, .int xi, .int xs] (PcW (dC, dI) [(aB, .inr (6, [.ref aT, .ref aF, .ref aQ, .int fk, .int fp])), (aT, .inr (5, [.ref aR, .int (nI k), .int ch])), (aR, .inl (cA, n, .inl f))] [(cA, .byte)] sz)) (va_Qi (fun (_ : Int32) (_ : Unit) => False) (fun _ _ => True) (va_A [(aB, .inr (6, [.ref aT, .ref aF, .ref aQ, .int fk, .int fp])), (aT, .inr (5, [.ref aR, .int (nI k), .int ch])), (aR, .inl (cA, n, .inl f))] sz)) (vx_X (fun (_ : Unit) => True) (fun E => fun _ => fun t => E = "java/lang/IllegalArgumentException" ∧ EnW (dC, dI) (va_A [(aB, .inr (6, [.ref aT, .ref aF, .ref aQ, .int fk, .int fp])), (aT, .inr (5, [.ref aR, .int (nI k), .int ch])), (aR, .inl (cA, n, .inl f))] sz) [(aB, .inr (6, [.ref aT, .ref aF, .ref aQ, .int fk, .int fp])), (aT, .inr (5, [.ref aR, .int (nI k), .int ch])), (aR, .inl (cA, n, .inl f))] [(cA, .byte)] t) (va_A [(aB, .inr (6, [.ref aT, .ref aF, .ref aQ, .int fk, .int fp])), (aT, .inr (5, [.ref aR, .int (nI k), .int ch])), (aR, .inl (cA, n, .inl f))] sz)) 1 6 (va_A [(aB, .inr (6, [.ref aT, .ref aF, .ref aQ, .int fk, .int fp])), (aT, .inr (5, [.ref aR, .int (nI k), .int ch])), (aR, .inl (cA, n, .inl f))] sz) := by
  refine vx_ofW (cc := cd_B_spoil) (maxL := 3) (ret := (some .int)) (by decide) rfl ?_
  intro p e s m args below meth c s₁ B hml htab hv
  obtain ⟨rfl, hsz, hP, hK, hD0, hG⟩ := hv
  have hx := B.exec
  have hb := B.bytes
  have hr := B.returns
  have hts := fun (w : Cond) (h : w ∈ bigT) => atoms_spec (ws := (wB my_B_spoil cd_B_spoil 3 (some .int))) B.pre w (List.mem_cons_of_mem _ h)
  have hown : s.vm.findClass rn_B = some m.cls := findClass_of_methodNamed B.named
  have hlocks := B.notSynchronized
  subst hsz
  have hD := hD0.self (sz := s.heap.size)
  generalize hAe : va_A [(aB, .inr (6, [.ref aT, .ref aF, .ref aQ, .int fk, .int fp])), (aT, .inr (5, [.ref aR, .int (nI k), .int ch])), (aR, .inl (cA, n, .inl f))] s.heap.size = A at hD hG ⊢
  have hA : ∀ q : Nat, s.heap.size ≤ q → A q := fun q h => by rw [← hAe]; exact Or.inr h
  have hS : va_S A s.heap s.heap [] := va_S.rf
  have hP : va_P (dC, dI) vwCl [(aB, .inr (6, [.ref aT, .ref aF, .ref aQ, .int fk, .int fp])), (aT, .inr (5, [.ref aR, .int (nI k), .int ch])), (aR, .inl (cA, n, .inl f))] s.heap := hP
  have hl := lv_entry ([.ref aB, .int xi, .int xs]) (n := 3) (Nat.le_of_ble_eq_true rfl)
  rw [lg_entry_eq]
  generalize (lg_sl ([.ref aB, .int xi, .int xs]) ++ List.replicate (3 - (lg_sl ([.ref aB, .int xi, .int xs])).length) Slot.unset).toArray = ls at hl ⊢
  have hl : lv_has ls 3 [(0, .ref aB), (1, .int xi), (2, .int xs)] := hl
  refine lv_aload_n hx hb dc_B_spoil_0 rfl (lv_at hl 0 rfl) ?_
  refine va_get (D := (dC, dI)) (ci := 6) (v := .ref aT) (C := rn_B) (T := ft_B) (N := 5) hx hb hts fw_B hown hK hP 0 rfl rfl 0 (by decide) (hts _ bw1_151) (fun _ h9 => h9) rfl dc_B_spoil_1 ?_
  refine lv_iload_n hx hb dc_B_spoil_4 rfl (lv_at hl 1 rfl) ?_
  refine kc_i (wc := [(aT, .inr (5, [.ref aR, .int (nI k), .int ch])), (aR, .inl (cA, n, .inl f))]) (wr := [(aB, .inr (6, [.ref aT, .ref aF, .ref aQ, .int fk, .int fp]))]) hP hD hS hA [1, 2] [0] rfl rfl (by decide) (by decide) (va_runV (As := [.int xi]) (rest := []) ⟨hx, hb, hml, hown, hts⟩ (c_T_has l dC dI _ aT aR cA n f k ch xi (by omega) (by omega)) (kw_V 1 hts bw2_107 bw1_186 bw1_187 bw1_2 bw1_188 rfl rfl (by decide +kernel) ⟨Nat.le_of_ble_eq_true rfl, Nat.le_of_ble_eq_true rfl⟩) (kp_V (wc := [(aT, .inr (5, [.ref aR, .int (nI k), .int ch])), (aR, .inl (cA, n, .inl f))]) (tc := [(cA, .byte)]) (As := [.int xi]) hG hS hA hP hD hK [1, 2] rfl (by decide) rfl [0] rfl (ci := 5) (q0 := 1) rfl rfl) rfl rfl hl.1 rfl (lv_room (Nat.le_of_ble_eq_true rfl)) dc_B_spoil_5 ⟨Nat.zero_le _, Nat.zero_le _⟩) (fun r_1 _ H locs hw hP hD hK1 hS => ?_)
  have hw : hasC k xi = r_1 := hw.symm
  subst hw
  have hP : va_P (dC, dI) vwCl [(aB, .inr (6, [.ref aT, .ref aF, .ref aQ, .int fk, .int fp])), (aT, .inr (5, [.ref aR, .int (nI k), .int ch])), (aR, .inl (cA, n, .inl f))] H := hP
  have hD : va_D A [(aB, .inr (6, [.ref aT, .ref aF, .ref aQ, .int fk, .int fp])), (aT, .inr (5, [.ref aR, .int (nI k), .int ch])), (aR, .inl (cA, n, .inl f))] := hD
  refine lv_if_ne (tgt := 21) hx hb dc_B_spoil_8 (by decide) (fun c_2 => ?_) (fun c_2 => ?_)
  · have h1 := c_2
    refine lv_iload_n hx hb dc_B_spoil_21 rfl (lv_at hl 2 rfl) ?_
    refine lv_if_lt (tgt := 32) hx hb dc_B_spoil_22 (by decide) (fun c_3 => ?_) (fun c_3 => ?_)
    · have hP9 := hP.sub (ws' := [(aB, .inr (6, [.ref aT, .ref aF, .ref aQ, .int fk, .int fp])), (aT, .inr (5, [.ref aR, .int (nI k), .int ch])), (aR, .inl (cA, n, .inl f))]) [0, 1, 2] rfl
      have hD9 := hD.sub (ws' := [(aB, .inr (6, [.ref aT, .ref aF, .ref aQ, .int fk, .int fp])), (aT, .inr (5, [.ref aR, .int (nI k), .int ch])), (aR, .inl (cA, n, .inl f))]) [0, 1, 2] (by decide) rfl
      have hK9 := hK.sub (tys' := [(cA, .byte)]) [0] rfl
      obtain ⟨sa, hsa⟩ := hG.2.1 (71, "x is not 0 .. 255") (by decide +kernel)
      exact vx_throwS (A := A) (free := A) (own := "BatchBytes") (cls := "java/lang/IllegalArgumentException") (text := "x is not 0 .. 255") (names := ["java/lang/RuntimeException", "java/lang/Exception"]) hx hb hst hown (by decide +kernel) (by decide +kernel) (hts _ bw2_80) (hts _ bw1_17) hsa (th_A hts hG.1) gd_A hG.2.2.2.2.1.1 hG.2.2.2.2.1.2 hS (hl.1.trans hml.symm) dc_B_spoil_32 dc_B_spoil_35 dc_B_spoil_36 dc_B_spoil_38 dc_B_spoil_41 (fun q h => (htab q h).elim) (Nat.le_of_ble_eq_true rfl) (Nat.le_of_ble_eq_true rfl) (by show _ ≤ 1; omega) (by show _ ≤ 6; omega) hlocks (fun t hv hz hk => ⟨(), trivial, ⟨rfl, vx_enP hP9 hk, va_K.moved hv hK9, hD9⟩, vx_enF hS hz hk⟩) hS.2.2 (by omega) (by omega)
    · have h2 := c_3
      refine lv_iload_n hx hb dc_B_spoil_25 rfl (lv_at hl 2 rfl) ?_
      refine lv_sipush (v := 255) hx hb dc_B_spoil_26 (by decide) ?_
      refine lv_icmp_le (tgt := 42) hx hb dc_B_spoil_29 (by decide) (fun c_4 => ?_) (fun c_4 => ?_)
      · exfalso; exact hbad.elim h1 (fun h => h.elim h2 (fun h => h c_4))
      · have hP9 := hP.sub (ws' := [(aB, .inr (6, [.ref aT, .ref aF, .ref aQ, .int fk, .int fp])), (aT, .inr (5, [.ref aR, .int (nI k), .int ch])), (aR, .inl (cA, n, .inl f))]) [0, 1, 2] rfl
        have hD9 := hD.sub (ws' := [(aB, .inr (6, [.ref aT, .ref aF, .ref aQ, .int fk, .int fp])), (aT, .inr (5, [.ref aR, .int (nI k), .int ch])), (aR, .inl (cA, n, .inl f))]) [0, 1, 2] (by decide) rfl
        have hK9 := hK.sub (tys' := [(cA, .byte)]) [0] rfl
        obtain ⟨sa, hsa⟩ := hG.2.1 (71, "x is not 0 .. 255") (by decide +kernel)
        exact vx_throwS (A := A) (free := A) (own := "BatchBytes") (cls := "java/lang/IllegalArgumentException") (text := "x is not 0 .. 255") (names := ["java/lang/RuntimeException", "java/lang/Exception"]) hx hb hst hown (by decide +kernel) (by decide +kernel) (hts _ bw2_80) (hts _ bw1_17) hsa (th_A hts hG.1) gd_A hG.2.2.2.2.1.1 hG.2.2.2.2.1.2 hS (hl.1.trans hml.symm) dc_B_spoil_32 dc_B_spoil_35 dc_B_spoil_36 dc_B_spoil_38 dc_B_spoil_41 (fun q h => (htab q h).elim) (Nat.le_of_ble_eq_true rfl) (Nat.le_of_ble_eq_true rfl) (by show _ ≤ 1; omega) (by show _ ≤ 6; omega) hlocks (fun t hv hz hk => ⟨(), trivial, ⟨rfl, vx_enP hP9 hk, va_K.moved hv hK9, hD9⟩, vx_enF hS hz hk⟩) hS.2.2 (by omega) (by omega)
  · have hP9 := hP.sub (ws' := [(aB, .inr (6, [.ref aT, .ref aF, .ref aQ, .int fk, .int fp])), (aT, .inr (5, [.ref aR, .int (nI k), .int ch])), (aR, .inl (cA, n, .inl f))]) [0, 1, 2] rfl
    have hD9 := hD.sub (ws' := [(aB, .inr (6, [.ref aT, .ref aF, .ref aQ, .int fk, .int fp])), (aT, .inr (5, [.ref aR, .int (nI k), .int ch])), (aR, .inl (cA, n, .inl f))]) [0, 1, 2] (by decide) rfl
    have hK9 := hK.sub (tys' := [(cA, .byte)]) [0] rfl
    obtain ⟨sa, hsa⟩ := hG.2.1 (69, "the tape has no such byte") (by decide +kernel)
    exact vx_throwS (A := A) (free := A) (own := "BatchBytes") (cls := "java/lang/IllegalArgumentException") (text := "the tape has no such byte") (names := ["java/lang/RuntimeException", "java/lang/Exception"]) hx hb hst hown (by decide +kernel) (by decide +kernel) (hts _ bw2_80) (hts _ bw1_17) hsa (th_A hts hG.1) gd_A hG.2.2.2.2.1.1 hG.2.2.2.2.1.2 hS (hl.1.trans hml.symm) dc_B_spoil_11 dc_B_spoil_14 dc_B_spoil_15 dc_B_spoil_17 dc_B_spoil_20 (fun q h => (htab q h).elim) (Nat.le_of_ble_eq_true rfl) (Nat.le_of_ble_eq_true rfl) (by show _ ≤ 1; omega) (by show _ ≤ 6; omega) hlocks (fun t hv hz hk => ⟨(), trivial, ⟨rfl, vx_enP hP9 hk, va_K.moved hv hK9, hD9⟩, vx_enF hS hz hk⟩) hS.2.2 (by omega) (by omega)

set_option maxHeartbeats 1000000 in
set_option maxRecDepth 100000 in
theorem c_B_record_arg (l : Launch) (dC : Nat → ClassId) (dI : Nat → Nat → Nat) (sz : Nat) (aB : Nat) (aT : Nat) (aF : Nat) (aQ : Nat) (fk : Int32) (fp : Int32) (xn : Int32) (gy : Int64) (kb : Int32) (gx : Int64) (vb : Int32) (la : Int32) (hbad : xn < 1 ∨ ¬ xn ≤ 100 ∨ kb < -1 ∨ ¬ kb ≤ 8 ∨ vb < -1 ∨ ¬ vb ≤ 300 ∨ la < 0 ∨ ¬ la ≤ 1000000) (hst : l.stackTraces = false) : vx_Met l my_B_record (wB my_B_record cd_B_record 11 (some .int)) ({ frames := 6, cells := 1, slots := 6, locals := 82 }) (va_Pc [.ref aB, .int xn, .long gy, .int kb, .long gx, .int vb, .int la] (PcW (dC, dI) [(aB, .inr (6, [.ref aT, .ref aF, .ref aQ, .int fk, .int fp]))] [] sz)) (va_Qi (fun (_ : Int32) (_ : Unit) => False) (fun _ _ => True) (va_A [(aB, .inr (6, [.ref aT, .ref aF, .ref aQ, .int fk, .int fp]))] sz)) (vx_X (fun (_ : Unit) => True) (fun E => fun _ => fun t => E = "java/lang/IllegalArgumentException" ∧ EnW (dC, dI) (va_A [(aB, .inr (6, [.ref aT, .ref aF, .ref aQ, .int fk, .int fp]))] sz) [(aB, .inr (6, [.ref aT, .ref aF, .ref aQ, .int fk, .int fp]))] [] t) (va_A [(aB, .inr (6, [.ref aT, .ref aF, .ref aQ, .int fk, .int fp]))] sz)) 1 6 (va_A [(aB, .inr (6, [.ref aT, .ref aF, .ref aQ, .int fk, .int fp]))] sz) := by
  refine vx_ofW (cc := cd_B_record) (maxL := 11) (ret := (some .int)) (by decide) rfl ?_
  intro p e s m args below meth c s₁ B hml htab hv
  obtain ⟨rfl, hsz, hP, hK, hD0, hG⟩ := hv
  have hx := B.exec
  have hb := B.bytes
  have hr := B.returns
  have hts := fun (w : Cond) (h : w ∈ bigT) => atoms_spec (ws := (wB my_B_record cd_B_record 11 (some .int))) B.pre w (List.mem_cons_of_mem _ h)
  have hown : s.vm.findClass rn_B = some m.cls := findClass_of_methodNamed B.named
  have hlocks := B.notSynchronized
  subst hsz
  have hD := hD0.self (sz := s.heap.size)
  generalize hAe : va_A [(aB, .inr (6, [.ref aT, .ref aF, .ref aQ, .int fk, .int fp]))] s.heap.size = A at hD hG ⊢
  have hA : ∀ q : Nat, s.heap.size ≤ q → A q := fun q h => by rw [← hAe]; exact Or.inr h
  have hS : va_S A s.heap s.heap [] := va_S.rf
  have hP : va_P (dC, dI) vwCl [(aB, .inr (6, [.ref aT, .ref aF, .ref aQ, .int fk, .int fp]))] s.heap := hP
  have hl := lv_entry ([.ref aB, .int xn, .long gy, .int kb, .long gx, .int vb, .int la]) (n := 11) (Nat.le_of_ble_eq_true rfl)
  rw [lg_entry_eq]
  generalize (lg_sl ([.ref aB, .int xn, .long gy, .int kb, .long gx, .int vb, .int la]) ++ List.replicate (11 - (lg_sl ([.ref aB, .int xn, .long gy, .int kb, .long gx, .int vb, .int la])).length) Slot.unset).toArray = ls at hl ⊢
  have hl : lv_has ls 11 [(0, .ref aB), (1, .int xn), (2, .long gy), (4, .int kb), (5, .long gx), (7, .int vb), (8, .int la)] := hl
  refine lv_iload_n hx hb dc_B_record_0 rfl (lv_at hl 1 rfl) ?_
  refine lv_iconst (v := 1) hx hb dc_B_record_1 (by decide) ?_
  refine lv_icmp_lt (tgt := 11) hx hb dc_B_record_2 (by decide) (fun c_1 => ?_) (fun c_1 => ?_)
  · have hP9 := hP.sub (ws' := [(aB, .inr (6, [.ref aT, .ref aF, .ref aQ, .int fk, .int fp]))]) [0] rfl
    have hD9 := hD.sub (ws' := [(aB, .inr (6, [.ref aT, .ref aF, .ref aQ, .int fk, .int fp]))]) [0] (by decide) rfl
    have hK9 := hK.sub (tys' := []) [] rfl
    obtain ⟨sa, hsa⟩ := hG.2.1 (84, "n is not 1 .. 100") (by decide +kernel)
    exact vx_throwS (A := A) (free := A) (own := "BatchBytes") (cls := "java/lang/IllegalArgumentException") (text := "n is not 1 .. 100") (names := ["java/lang/RuntimeException", "java/lang/Exception"]) hx hb hst hown (by decide +kernel) (by decide +kernel) (hts _ bw2_80) (hts _ bw1_17) hsa (th_A hts hG.1) gd_A hG.2.2.2.2.1.1 hG.2.2.2.2.1.2 hS (hl.1.trans hml.symm) dc_B_record_11 dc_B_record_14 dc_B_record_15 dc_B_record_17 dc_B_record_20 (fun q h => (htab q h).elim) (Nat.le_of_ble_eq_true rfl) (Nat.le_of_ble_eq_true rfl) (by show _ ≤ 1; omega) (by show _ ≤ 6; omega) hlocks (fun t hv hz hk => ⟨(), trivial, ⟨rfl, vx_enP hP9 hk, va_K.moved hv hK9, hD9⟩, vx_enF hS hz hk⟩) hS.2.2 (by omega) (by omega)
  · have hbad := hbad.resolve_left c_1
    refine lv_iload_n hx hb dc_B_record_5 rfl (lv_at hl 1 rfl) ?_
    refine lv_bipush (v := 100) hx hb dc_B_record_6 (by decide) ?_
    refine lv_icmp_le (tgt := 21) hx hb dc_B_record_8 (by decide) (fun c_2 => ?_) (fun c_2 => ?_)
    · have hbad := hbad.resolve_left (fun h => h c_2)
      refine lv_iload hx hb dc_B_record_21 (lv_at hl 3 rfl) ?_
      refine lv_iconst (v := (-1)) hx hb dc_B_record_23 (by decide) ?_
      refine lv_icmp_lt (tgt := 34) hx hb dc_B_record_24 (by decide) (fun c_3 => ?_) (fun c_3 => ?_)
      · have hP9 := hP.sub (ws' := [(aB, .inr (6, [.ref aT, .ref aF, .ref aQ, .int fk, .int fp]))]) [0] rfl
        have hD9 := hD.sub (ws' := [(aB, .inr (6, [.ref aT, .ref aF, .ref aQ, .int fk, .int fp]))]) [0] (by decide) rfl
        have hK9 := hK.sub (tys' := []) [] rfl
        obtain ⟨sa, hsa⟩ := hG.2.1 (86, "keyBytes is not -1 .. 8") (by decide +kernel)
        exact vx_throwS (A := A) (free := A) (own := "BatchBytes") (cls := "java/lang/IllegalArgumentException") (text := "keyBytes is not -1 .. 8") (names := ["java/lang/RuntimeException", "java/lang/Exception"]) hx hb hst hown (by decide +kernel) (by decide +kernel) (hts _ bw2_80) (hts _ bw1_17) hsa (th_A hts hG.1) gd_A hG.2.2.2.2.1.1 hG.2.2.2.2.1.2 hS (hl.1.trans hml.symm) dc_B_record_34 dc_B_record_37 dc_B_record_38 dc_B_record_40 dc_B_record_43 (fun q h => (htab q h).elim) (Nat.le_of_ble_eq_true rfl) (Nat.le_of_ble_eq_true rfl) (by show _ ≤ 1; omega) (by show _ ≤ 6; omega) hlocks (fun t hv hz hk => ⟨(), trivial, ⟨rfl, vx_enP hP9 hk, va_K.moved hv hK9, hD9⟩, vx_enF hS hz hk⟩) hS.2.2 (by omega) (by omega)
      · have hbad := hbad.resolve_left c_3
        refine lv_iload hx hb dc_B_record_27 (lv_at hl 3 rfl) ?_
        refine lv_bipush (v := 8) hx hb dc_B_record_29 (by decide) ?_
        refine lv_icmp_le (tgt := 44) hx hb dc_B_record_31 (by decide) (fun c_4 => ?_) (fun c_4 => ?_)
        · have hbad := hbad.resolve_left (fun h => h c_4)
          refine lv_iload hx hb dc_B_record_44 (lv_at hl 5 rfl) ?_
          refine lv_iconst (v := (-1)) hx hb dc_B_record_46 (by decide) ?_
          refine lv_icmp_lt (tgt := 58) hx hb dc_B_record_47 (by decide) (fun c_5 => ?_) (fun c_5 => ?_)
          · have hP9 := hP.sub (ws' := [(aB, .inr (6, [.ref aT, .ref aF, .ref aQ, .int fk, .int fp]))]) [0] rfl
            have hD9 := hD.sub (ws' := [(aB, .inr (6, [.ref aT, .ref aF, .ref aQ, .int fk, .int fp]))]) [0] (by decide) rfl
            have hK9 := hK.sub (tys' := []) [] rfl
            obtain ⟨sa, hsa⟩ := hG.2.1 (88, "valueBytes is not -1 .. 300") (by decide +kernel)
            exact vx_throwS (A := A) (free := A) (own := "BatchBytes") (cls := "java/lang/IllegalArgumentException") (text := "valueBytes is not -1 .. 300") (names := ["java/lang/RuntimeException", "java/lang/Exception"]) hx hb hst hown (by decide +kernel) (by decide +kernel) (hts _ bw2_80) (hts _ bw1_17) hsa (th_A hts hG.1) gd_A hG.2.2.2.2.1.1 hG.2.2.2.2.1.2 hS (hl.1.trans hml.symm) dc_B_record_58 dc_B_record_61 dc_B_record_62 dc_B_record_64 dc_B_record_67 (fun q h => (htab q h).elim) (Nat.le_of_ble_eq_true rfl) (Nat.le_of_ble_eq_true rfl) (by show _ ≤ 1; omega) (by show _ ≤ 6; omega) hlocks (fun t hv hz hk => ⟨(), trivial, ⟨rfl, vx_enP hP9 hk, va_K.moved hv hK9, hD9⟩, vx_enF hS hz hk⟩) hS.2.2 (by omega) (by omega)
          · have hbad := hbad.resolve_left c_5
            refine lv_iload hx hb dc_B_record_50 (lv_at hl 5 rfl) ?_
            refine lv_sipush (v := 300) hx hb dc_B_record_52 (by decide) ?_
            refine lv_icmp_le (tgt := 68) hx hb dc_B_record_55 (by decide) (fun c_6 => ?_) (fun c_6 => ?_)
            · have hbad := hbad.resolve_left (fun h => h c_6)
              refine lv_iload hx hb dc_B_record_68 (lv_at hl 6 rfl) ?_
              refine lv_if_lt (tgt := 80) hx hb dc_B_record_70 (by decide) (fun c_7 => ?_) (fun c_7 => ?_)
              · have hP9 := hP.sub (ws' := [(aB, .inr (6, [.ref aT, .ref aF, .ref aQ, .int fk, .int fp]))]) [0] rfl
                have hD9 := hD.sub (ws' := [(aB, .inr (6, [.ref aT, .ref aF, .ref aQ, .int fk, .int fp]))]) [0] (by decide) rfl
                have hK9 := hK.sub (tys' := []) [] rfl
                obtain ⟨sa, hsa⟩ := hG.2.1 (91, "later is not 0 .. 1000000") (by decide +kernel)
                exact vx_throwS (A := A) (free := A) (own := "BatchBytes") (cls := "java/lang/IllegalArgumentException") (text := "later is not 0 .. 1000000") (names := ["java/lang/RuntimeException", "java/lang/Exception"]) hx hb hst hown (by decide +kernel) (by decide +kernel) (hts _ bw2_80) (hts _ bw1_17) hsa (th_A hts hG.1) gd_A hG.2.2.2.2.1.1 hG.2.2.2.2.1.2 hS (hl.1.trans hml.symm) dc_B_record_80 dc_B_record_83 dc_B_record_84 dc_B_record_86 dc_B_record_89 (fun q h => (htab q h).elim) (Nat.le_of_ble_eq_true rfl) (Nat.le_of_ble_eq_true rfl) (by show _ ≤ 1; omega) (by show _ ≤ 6; omega) hlocks (fun t hv hz hk => ⟨(), trivial, ⟨rfl, vx_enP hP9 hk, va_K.moved hv hK9, hD9⟩, vx_enF hS hz hk⟩) hS.2.2 (by omega) (by omega)
              · have hbad := hbad.resolve_left c_7
                refine lv_iload hx hb dc_B_record_73 (lv_at hl 6 rfl) ?_
                refine lv_ldc (v := 1000000) hx hb hown (hts _ bw2_125) dc_B_record_75 ?_
                refine lv_icmp_le (tgt := 90) hx hb dc_B_record_77 (by decide) (fun c_8 => ?_) (fun c_8 => ?_)
                · exfalso; exact hbad c_8
                · have hP9 := hP.sub (ws' := [(aB, .inr (6, [.ref aT, .ref aF, .ref aQ, .int fk, .int fp]))]) [0] rfl
                  have hD9 := hD.sub (ws' := [(aB, .inr (6, [.ref aT, .ref aF, .ref aQ, .int fk, .int fp]))]) [0] (by decide) rfl
                  have hK9 := hK.sub (tys' := []) [] rfl
                  obtain ⟨sa, hsa⟩ := hG.2.1 (91, "later is not 0 .. 1000000") (by decide +kernel)
                  exact vx_throwS (A := A) (free := A) (own := "BatchBytes") (cls := "java/lang/IllegalArgumentException") (text := "later is not 0 .. 1000000") (names := ["java/lang/RuntimeException", "java/lang/Exception"]) hx hb hst hown (by decide +kernel) (by decide +kernel) (hts _ bw2_80) (hts _ bw1_17) hsa (th_A hts hG.1) gd_A hG.2.2.2.2.1.1 hG.2.2.2.2.1.2 hS (hl.1.trans hml.symm) dc_B_record_80 dc_B_record_83 dc_B_record_84 dc_B_record_86 dc_B_record_89 (fun q h => (htab q h).elim) (Nat.le_of_ble_eq_true rfl) (Nat.le_of_ble_eq_true rfl) (by show _ ≤ 1; omega) (by show _ ≤ 6; omega) hlocks (fun t hv hz hk => ⟨(), trivial, ⟨rfl, vx_enP hP9 hk, va_K.moved hv hK9, hD9⟩, vx_enF hS hz hk⟩) hS.2.2 (by omega) (by omega)
            · have hP9 := hP.sub (ws' := [(aB, .inr (6, [.ref aT, .ref aF, .ref aQ, .int fk, .int fp]))]) [0] rfl
              have hD9 := hD.sub (ws' := [(aB, .inr (6, [.ref aT, .ref aF, .ref aQ, .int fk, .int fp]))]) [0] (by decide) rfl
              have hK9 := hK.sub (tys' := []) [] rfl
              obtain ⟨sa, hsa⟩ := hG.2.1 (88, "valueBytes is not -1 .. 300") (by decide +kernel)
              exact vx_throwS (A := A) (free := A) (own := "BatchBytes") (cls := "java/lang/IllegalArgumentException") (text := "valueBytes is not -1 .. 300") (names := ["java/lang/RuntimeException", "java/lang/Exception"]) hx hb hst hown (by decide +kernel) (by decide +kernel) (hts _ bw2_80) (hts _ bw1_17) hsa (th_A hts hG.1) gd_A hG.2.2.2.2.1.1 hG.2.2.2.2.1.2 hS (hl.1.trans hml.symm) dc_B_record_58 dc_B_record_61 dc_B_record_62 dc_B_record_64 dc_B_record_67 (fun q h => (htab q h).elim) (Nat.le_of_ble_eq_true rfl) (Nat.le_of_ble_eq_true rfl) (by show _ ≤ 1; omega) (by show _ ≤ 6; omega) hlocks (fun t hv hz hk => ⟨(), trivial, ⟨rfl, vx_enP hP9 hk, va_K.moved hv hK9, hD9⟩, vx_enF hS hz hk⟩) hS.2.2 (by omega) (by omega)
        · have hP9 := hP.sub (ws' := [(aB, .inr (6, [.ref aT, .ref aF, .ref aQ, .int fk, .int fp]))]) [0] rfl
          have hD9 := hD.sub (ws' := [(aB, .inr (6, [.ref aT, .ref aF, .ref aQ, .int fk, .int fp]))]) [0] (by decide) rfl
          have hK9 := hK.sub (tys' := []) [] rfl
          obtain ⟨sa, hsa⟩ := hG.2.1 (86, "keyBytes is not -1 .. 8") (by decide +kernel)
          exact vx_throwS (A := A) (free := A) (own := "BatchBytes") (cls := "java/lang/IllegalArgumentException") (text := "keyBytes is not -1 .. 8") (names := ["java/lang/RuntimeException", "java/lang/Exception"]) hx hb hst hown (by decide +kernel) (by decide +kernel) (hts _ bw2_80) (hts _ bw1_17) hsa (th_A hts hG.1) gd_A hG.2.2.2.2.1.1 hG.2.2.2.2.1.2 hS (hl.1.trans hml.symm) dc_B_record_34 dc_B_record_37 dc_B_record_38 dc_B_record_40 dc_B_record_43 (fun q h => (htab q h).elim) (Nat.le_of_ble_eq_true rfl) (Nat.le_of_ble_eq_true rfl) (by show _ ≤ 1; omega) (by show _ ≤ 6; omega) hlocks (fun t hv hz hk => ⟨(), trivial, ⟨rfl, vx_enP hP9 hk, va_K.moved hv hK9, hD9⟩, vx_enF hS hz hk⟩) hS.2.2 (by omega) (by omega)
    · have hP9 := hP.sub (ws' := [(aB, .inr (6, [.ref aT, .ref aF, .ref aQ, .int fk, .int fp]))]) [0] rfl
      have hD9 := hD.sub (ws' := [(aB, .inr (6, [.ref aT, .ref aF, .ref aQ, .int fk, .int fp]))]) [0] (by decide) rfl
      have hK9 := hK.sub (tys' := []) [] rfl
      obtain ⟨sa, hsa⟩ := hG.2.1 (84, "n is not 1 .. 100") (by decide +kernel)
      exact vx_throwS (A := A) (free := A) (own := "BatchBytes") (cls := "java/lang/IllegalArgumentException") (text := "n is not 1 .. 100") (names := ["java/lang/RuntimeException", "java/lang/Exception"]) hx hb hst hown (by decide +kernel) (by decide +kernel) (hts _ bw2_80) (hts _ bw1_17) hsa (th_A hts hG.1) gd_A hG.2.2.2.2.1.1 hG.2.2.2.2.1.2 hS (hl.1.trans hml.symm) dc_B_record_11 dc_B_record_14 dc_B_record_15 dc_B_record_17 dc_B_record_20 (fun q h => (htab q h).elim) (Nat.le_of_ble_eq_true rfl) (Nat.le_of_ble_eq_true rfl) (by show _ ≤ 1; omega) (by show _ ≤ 6; omega) hlocks (fun t hv hz hk => ⟨(), trivial, ⟨rfl, vx_enP hP9 hk, va_K.moved hv hK9, hD9⟩, vx_enF hS hz hk⟩) hS.2.2 (by omega) (by omega)

set_option maxHeartbeats 1000000 in
set_option maxRecDepth 100000 in
theorem c_B_record_full (l : Launch) (dC : Nat → ClassId) (dI : Nat → Nat → Nat) (sz : Nat) (aB : Nat) (aT : Nat) (aF : Nat) (aQ : Nat) (fk : Int32) (fp : Int32) (aL : Nat) (dn : Nat) (wt : Nat) (lt : Int32) (gn : Nat) (gy : Int64) (kb : Int32) (gx : Int64) (vb : Int32) (la : Int32) (hg1 : 1 ≤ gn) (hg2 : gn ≤ 100) (hr1 : ¬ kb < -1) (hr2 : kb ≤ 8) (hr3 : ¬ vb < -1) (hr4 : vb ≤ 300) (hr5 : ¬ la < 0) (hr6 : la ≤ 1000000) (hdn : dn ≤ 1000) (hwt : wt ≤ 16000) (hbad : 1000 < dn + gn ∨ 16000 < wt + gwN kb vb la dn gn) (hst : l.stackTraces = false) : vx_Met l my_B_record (wB my_B_record cd_B_record 11 (some .int)) ({ frames := 6, cells := 2, slots := 12, locals := 112 }) (va_Pc [.ref aB, .int (nI gn), .long gy, .int kb, .long gx, .int vb, .int la] (PcW (dC, dI) [(aB, .inr (6, [.ref aT, .ref aF, .ref aQ, .int fk, .int fp])), (aF, .inr (1, [.ref aL, .int (nI dn), .int (nI wt), .int lt]))] [] sz)) (va_Qi (fun (_ : Int32) (_ : Unit) => False) (fun _ _ => True) (va_A [(aB, .inr (6, [.ref aT, .ref aF, .ref aQ, .int fk, .int fp])), (aF, .inr (1, [.ref aL, .int (nI dn), .int (nI wt), .int lt]))] sz)) (vx_X (fun (_ : Unit) => True) (fun E => fun _ => fun t => E = "java/lang/IllegalStateException" ∧ EnW (dC, dI) (va_A [(aB, .inr (6, [.ref aT, .ref aF, .ref aQ, .int fk, .int fp])), (aF, .inr (1, [.ref aL, .int (nI dn), .int (nI wt), .int lt]))] sz) [(aB, .inr (6, [.ref aT, .ref aF, .ref aQ, .int fk, .int fp])), (aF, .inr (1, [.ref aL, .int (nI dn), .int (nI wt), .int lt]))] [] t) (va_A [(aB, .inr (6, [.ref aT, .ref aF, .ref aQ, .int fk, .int fp])), (aF, .inr (1, [.ref aL, .int (nI dn), .int (nI wt), .int lt]))] sz)) 2 12 (va_A [(aB, .inr (6, [.ref aT, .ref aF, .ref aQ, .int fk, .int fp])), (aF, .inr (1, [.ref aL, .int (nI dn), .int (nI wt), .int lt]))] sz) := by
  refine vx_ofW (cc := cd_B_record) (maxL := 11) (ret := (some .int)) (by decide) rfl ?_
  intro p e s m args below meth c s₁ B hml htab hv
  obtain ⟨rfl, hsz, hP, hK, hD0, hG⟩ := hv
  have hx := B.exec
  have hb := B.bytes
  have hr := B.returns
  have hts := fun (w : Cond) (h : w ∈ bigT) => atoms_spec (ws := (wB my_B_record cd_B_record 11 (some .int))) B.pre w (List.mem_cons_of_mem _ h)
  have hown : s.vm.findClass rn_B = some m.cls := findClass_of_methodNamed B.named
  have hlocks := B.notSynchronized
  subst hsz
  have hD := hD0.self (sz := s.heap.size)
  generalize hAe : va_A [(aB, .inr (6, [.ref aT, .ref aF, .ref aQ, .int fk, .int fp])), (aF, .inr (1, [.ref aL, .int (nI dn), .int (nI wt), .int lt]))] s.heap.size = A at hD hG ⊢
  have hA : ∀ q : Nat, s.heap.size ≤ q → A q := fun q h => by rw [← hAe]; exact Or.inr h
  have hS : va_S A s.heap s.heap [] := va_S.rf
  have hP : va_P (dC, dI) vwCl [(aB, .inr (6, [.ref aT, .ref aF, .ref aQ, .int fk, .int fp])), (aF, .inr (1, [.ref aL, .int (nI dn), .int (nI wt), .int lt]))] s.heap := hP
  have hl := lv_entry ([.ref aB, .int (nI gn), .long gy, .int kb, .long gx, .int vb, .int la]) (n := 11) (Nat.le_of_ble_eq_true rfl)
  rw [lg_entry_eq]
  generalize (lg_sl ([.ref aB, .int (nI gn), .long gy, .int kb, .long gx, .int vb, .int la]) ++ List.replicate (11 - (lg_sl ([.ref aB, .int (nI gn), .long gy, .int kb, .long gx, .int vb, .int la])).length) Slot.unset).toArray = ls at hl ⊢
  have hl : lv_has ls 11 [(0, .ref aB), (1, .int (nI gn)), (2, .long gy), (4, .int kb), (5, .long gx), (7, .int vb), (8, .int la)] := hl
  have hd : ∀ i, i < gn → dOk kb vb (la + nI i) := fun i hi => dOk_new hr1 hr2 hr3 hr4 hr5 hr6 (by omega)
  have hgw := gwN_le (num := dn) hd
  refine lv_iload_n hx hb dc_B_record_0 rfl (lv_at hl 1 rfl) ?_
  refine lv_iconst (v := 1) hx hb dc_B_record_1 (by decide) ?_
  refine lv_icmp_lt (tgt := 11) hx hb dc_B_record_2 (by decide) (fun c_1 => ?_) (fun c_1 => ?_)
  · exfalso; exact nI_nlt (a := gn) (b := 1) hg1 (by omega) c_1
  · refine lv_iload_n hx hb dc_B_record_5 rfl (lv_at hl 1 rfl) ?_
    refine lv_bipush (v := 100) hx hb dc_B_record_6 (by decide) ?_
    refine lv_icmp_le (tgt := 21) hx hb dc_B_record_8 (by decide) (fun c_2 => ?_) (fun c_2 => ?_)
    · refine lv_iload hx hb dc_B_record_21 (lv_at hl 3 rfl) ?_
      refine lv_iconst (v := (-1)) hx hb dc_B_record_23 (by decide) ?_
      refine lv_icmp_lt (tgt := 34) hx hb dc_B_record_24 (by decide) (fun c_3 => ?_) (fun c_3 => ?_)
      · exfalso; exact hr1 c_3
      · refine lv_iload hx hb dc_B_record_27 (lv_at hl 3 rfl) ?_
        refine lv_bipush (v := 8) hx hb dc_B_record_29 (by decide) ?_
        refine lv_icmp_le (tgt := 44) hx hb dc_B_record_31 (by decide) (fun c_4 => ?_) (fun c_4 => ?_)
        · refine lv_iload hx hb dc_B_record_44 (lv_at hl 5 rfl) ?_
          refine lv_iconst (v := (-1)) hx hb dc_B_record_46 (by decide) ?_
          refine lv_icmp_lt (tgt := 58) hx hb dc_B_record_47 (by decide) (fun c_5 => ?_) (fun c_5 => ?_)
          · exfalso; exact hr3 c_5
          · refine lv_iload hx hb dc_B_record_50 (lv_at hl 5 rfl) ?_
            refine lv_sipush (v := 300) hx hb dc_B_record_52 (by decide) ?_
            refine lv_icmp_le (tgt := 68) hx hb dc_B_record_55 (by decide) (fun c_6 => ?_) (fun c_6 => ?_)
            · refine lv_iload hx hb dc_B_record_68 (lv_at hl 6 rfl) ?_
              refine lv_if_lt (tgt := 80) hx hb dc_B_record_70 (by decide) (fun c_7 => ?_) (fun c_7 => ?_)
              · exfalso; exact hr5 c_7
              · refine lv_iload hx hb dc_B_record_73 (lv_at hl 6 rfl) ?_
                refine lv_ldc (v := 1000000) hx hb hown (hts _ bw2_125) dc_B_record_75 ?_
                refine lv_icmp_le (tgt := 90) hx hb dc_B_record_77 (by decide) (fun c_8 => ?_) (fun c_8 => ?_)
                · refine va_new (ci := 2) (fs := [.int 0, .long 0, .int 0, .long 0, .int 0, .int 0]) (C := rn_G) (T := ft_G) (N := 6) hx hb hts fw_G fy_G fo_G hown (hts _ bw2_127) (hts _ bw2_128) (hts _ bw1_18) hK hP hD hS hA rfl (fun j hj => by rcases (show j = 0 ∨ j = 1 ∨ j = 2 ∨ j = 3 ∨ j = 4 ∨ j = 5 by omega) with rfl | rfl | rfl | rfl | rfl | rfl <;> rfl) (by show _ ≤ 2; omega) (by show _ ≤ 12; omega) dc_B_record_90 (fun q_9 H hP hD hS => ?_)
                  have hP : va_P (dC, dI) vwCl [(aB, .inr (6, [.ref aT, .ref aF, .ref aQ, .int fk, .int fp])), (aF, .inr (1, [.ref aL, .int (nI dn), .int (nI wt), .int lt])), (q_9, .inr (2, [.int 0, .long 0, .int 0, .long 0, .int 0, .int 0]))] H := hP
                  have hD : va_D A [(aB, .inr (6, [.ref aT, .ref aF, .ref aQ, .int fk, .int fp])), (aF, .inr (1, [.ref aL, .int (nI dn), .int (nI wt), .int lt])), (q_9, .inr (2, [.int 0, .long 0, .int 0, .long 0, .int 0, .int 0]))] := hD
                  refine lv_dup hx hb dc_B_record_93 rfl ?_
                  refine lv_iload_n hx hb dc_B_record_94 rfl (lv_at hl 1 rfl) ?_
                  refine lv_lload_n hx hb dc_B_record_95 rfl (lv_at hl 2 rfl) ?_
                  refine lv_iload hx hb dc_B_record_96 (lv_at hl 3 rfl) ?_
                  refine lv_lload hx hb dc_B_record_98 (lv_at hl 4 rfl) ?_
                  refine lv_iload hx hb dc_B_record_100 (lv_at hl 5 rfl) ?_
                  refine lv_iload hx hb dc_B_record_102 (lv_at hl 6 rfl) ?_
                  refine kc_v (wc := [(q_9, .inr (2, [.int 0, .long 0, .int 0, .long 0, .int 0, .int 0]))]) (wr := [(aB, .inr (6, [.ref aT, .ref aF, .ref aQ, .int fk, .int fp])), (aF, .inr (1, [.ref aL, .int (nI dn), .int (nI wt), .int lt]))]) hP hD hS hA [2] [0, 1] rfl rfl (by decide) (by decide) (va_runI (As := [.int (nI gn), .long gy, .int kb, .long gx, .int vb, .int la]) (rest := [.ref q_9]) ⟨hx, hb, hml, hown, hts⟩ (c_G_init l dC dI _ q_9 gn gy kb gx vb la ) (kw_I 6 hts bw2_129 bw2_130 bw1_18 bw2_131 rfl rfl rfl (by decide +kernel) ⟨Nat.le_of_ble_eq_true rfl, Nat.le_of_ble_eq_true rfl⟩) (kp_S (wc := [(q_9, .inr (2, [.int 0, .long 0, .int 0, .long 0, .int 0, .int 0]))]) (tc := []) (av := [.ref q_9, .int (nI gn), .long gy, .int kb, .long gx, .int vb, .int la]) hG hS hA hP hD hK [2] rfl (by decide) rfl [] rfl) rfl rfl hl.1 rfl (lv_room (Nat.le_of_ble_eq_true rfl)) dc_B_record_104 ⟨by show _ ≤ 2; omega, by show _ ≤ 12; omega⟩) (fun _ H locs hw hP hD hK1 hS => ?_)
                  have hP : va_P (dC, dI) vwCl [(aB, .inr (6, [.ref aT, .ref aF, .ref aQ, .int fk, .int fp])), (aF, .inr (1, [.ref aL, .int (nI dn), .int (nI wt), .int lt])), (q_9, .inr (2, [.int (nI gn), .long gy, .int kb, .long gx, .int vb, .int la]))] H := hP
                  have hD : va_D A [(aB, .inr (6, [.ref aT, .ref aF, .ref aQ, .int fk, .int fp])), (aF, .inr (1, [.ref aL, .int (nI dn), .int (nI wt), .int lt])), (q_9, .inr (2, [.int (nI gn), .long gy, .int kb, .long gx, .int vb, .int la]))] := hD
                  refine lv_astore (lv' := [(9, .ref q_9), (0, .ref aB), (1, .int (nI gn)), (2, .long gy), (4, .int kb), (5, .long gx), (7, .int vb), (8, .int la)]) hx hb dc_B_record_107 hl (by decide) rfl (fun ls hl => ?_)
                  refine lv_aload hx hb dc_B_record_109 (lv_at hl 0 rfl) ?_
                  refine lv_aload_n hx hb dc_B_record_111 rfl (lv_at hl 1 rfl) ?_
                  refine va_get (D := (dC, dI)) (ci := 6) (v := .ref aF) (C := rn_B) (T := ft_B) (N := 5) hx hb hts fw_B hown hK hP 0 rfl rfl 1 (by decide) (hts _ bw1_152) (fun _ h9 => h9) rfl dc_B_record_112 ?_
                  refine va_get (D := (dC, dI)) (ci := 1) (v := .int (nI dn)) (C := rn_D) (T := ft_D) (N := 4) hx hb hts fw_D hown hK hP 1 rfl rfl 1 (by decide) (hts _ bw1_84) (fun _ h9 => h9) rfl dc_B_record_115 ?_
                  refine kc_i (wc := [(q_9, .inr (2, [.int (nI gn), .long gy, .int kb, .long gx, .int vb, .int la]))]) (wr := [(aB, .inr (6, [.ref aT, .ref aF, .ref aQ, .int fk, .int fp])), (aF, .inr (1, [.ref aL, .int (nI dn), .int (nI wt), .int lt]))]) hP hD hS hA [2] [0, 1] rfl rfl (by decide) (by decide) (va_runV (As := [.int (nI dn)]) (rest := []) ⟨hx, hb, hml, hown, hts⟩ (c_G_bytesFrom l dC dI _ q_9 gn gy kb gx vb la dn (hd) (by omega) (by omega)) (kw_V 1 hts bw2_154 bw2_155 bw2_156 bw1_18 bw2_157 rfl rfl (by decide +kernel) ⟨Nat.le_of_ble_eq_true rfl, Nat.le_of_ble_eq_true rfl⟩) (kp_V (wc := [(q_9, .inr (2, [.int (nI gn), .long gy, .int kb, .long gx, .int vb, .int la]))]) (tc := []) (As := [.int (nI dn)]) hG hS hA hP hD hK [2] rfl (by decide) rfl [] rfl (ci := 2) (q0 := 2) rfl rfl) rfl rfl hl.1 rfl (lv_room (Nat.le_of_ble_eq_true rfl)) dc_B_record_118 ⟨by show _ ≤ 2; omega, by show _ ≤ 12; omega⟩) (fun r_11 _ H locs hw hP hD hK1 hS => ?_)
                  have hw : nI (gwN kb vb la dn gn) = r_11 := hw.symm
                  subst hw
                  have hP : va_P (dC, dI) vwCl [(aB, .inr (6, [.ref aT, .ref aF, .ref aQ, .int fk, .int fp])), (aF, .inr (1, [.ref aL, .int (nI dn), .int (nI wt), .int lt])), (q_9, .inr (2, [.int (nI gn), .long gy, .int kb, .long gx, .int vb, .int la]))] H := hP
                  have hD : va_D A [(aB, .inr (6, [.ref aT, .ref aF, .ref aQ, .int fk, .int fp])), (aF, .inr (1, [.ref aL, .int (nI dn), .int (nI wt), .int lt])), (q_9, .inr (2, [.int (nI gn), .long gy, .int kb, .long gx, .int vb, .int la]))] := hD
                  refine lv_istore (lv' := [(10, .int (nI (gwN kb vb la dn gn))), (9, .ref q_9), (0, .ref aB), (1, .int (nI gn)), (2, .long gy), (4, .int kb), (5, .long gx), (7, .int vb), (8, .int la)]) hx hb dc_B_record_121 hl (by decide) rfl (fun ls hl => ?_)
                  refine lv_aload_n hx hb dc_B_record_123 rfl (lv_at hl 2 rfl) ?_
                  refine va_get (D := (dC, dI)) (ci := 6) (v := .ref aF) (C := rn_B) (T := ft_B) (N := 5) hx hb hts fw_B hown hK hP 0 rfl rfl 1 (by decide) (hts _ bw1_152) (fun _ h9 => h9) rfl dc_B_record_124 ?_
                  refine va_get (D := (dC, dI)) (ci := 1) (v := .int (nI dn)) (C := rn_D) (T := ft_D) (N := 4) hx hb hts fw_D hown hK hP 1 rfl rfl 1 (by decide) (hts _ bw1_84) (fun _ h9 => h9) rfl dc_B_record_127 ?_
                  refine lv_iload_n hx hb dc_B_record_130 rfl (lv_at hl 3 rfl) ?_
                  refine lv_iadd hx hb dc_B_record_131 ?_
                  refine lv_sipush (v := 1000) hx hb dc_B_record_132 (by decide) ?_
                  refine lv_icmp_le (tgt := 148) hx hb dc_B_record_135 (by decide) (fun c_12 => ?_) (fun c_12 => ?_)
                  · have h1 : dn + gn ≤ 1000 := (nI_leI (b := 1000) (by omega) (by omega)).mp (by rw [← nI_add]; exact c_12)
                    refine lv_aload_n hx hb dc_B_record_148 rfl (lv_at hl 2 rfl) ?_
                    refine va_get (D := (dC, dI)) (ci := 6) (v := .ref aF) (C := rn_B) (T := ft_B) (N := 5) hx hb hts fw_B hown hK hP 0 rfl rfl 1 (by decide) (hts _ bw1_152) (fun _ h9 => h9) rfl dc_B_record_149 ?_
                    refine va_get (D := (dC, dI)) (ci := 1) (v := .int (nI wt)) (C := rn_D) (T := ft_D) (N := 4) hx hb hts fw_D hown hK hP 1 rfl rfl 2 (by decide) (hts _ bw1_86) (fun _ h9 => h9) rfl dc_B_record_152 ?_
                    refine lv_iload hx hb dc_B_record_155 (lv_at hl 0 rfl) ?_
                    refine lv_iadd hx hb dc_B_record_157 ?_
                    refine lv_sipush (v := 16000) hx hb dc_B_record_158 (by decide) ?_
                    refine lv_icmp_le (tgt := 174) hx hb dc_B_record_161 (by decide) (fun c_13 => ?_) (fun c_13 => ?_)
                    · exfalso; have h2 : wt + gwN kb vb la dn gn ≤ 16000 := (nI_leI (b := 16000) (by omega) (by omega)).mp (by rw [← nI_add]; exact c_13); omega
                    · have hP9 := hP.sub (ws' := [(aB, .inr (6, [.ref aT, .ref aF, .ref aQ, .int fk, .int fp])), (aF, .inr (1, [.ref aL, .int (nI dn), .int (nI wt), .int lt]))]) [0, 1] rfl
                      have hD9 := hD.sub (ws' := [(aB, .inr (6, [.ref aT, .ref aF, .ref aQ, .int fk, .int fp])), (aF, .inr (1, [.ref aL, .int (nI dn), .int (nI wt), .int lt]))]) [0, 1] (by decide) rfl
                      have hK9 := hK.sub (tys' := []) [] rfl
                      obtain ⟨sa, hsa⟩ := hG.2.1 (109, "the draft would have more than 16000 bytes") (by decide +kernel)
                      exact vx_throwS (A := A) (free := A) (own := "BatchBytes") (cls := "java/lang/IllegalStateException") (text := "the draft would have more than 16000 bytes") (names := ["java/lang/RuntimeException", "java/lang/Exception"]) hx hb hst hown (by decide +kernel) (by decide +kernel) (hts _ bw1_213) (hts _ bw1_13) hsa (th_S hts hG.1) gd_S hG.2.2.2.2.1.1 hG.2.2.2.2.1.2 hS (hl.1.trans hml.symm) dc_B_record_164 dc_B_record_167 dc_B_record_168 dc_B_record_170 dc_B_record_173 (fun q h => (htab q h).elim) (Nat.le_of_ble_eq_true rfl) (Nat.le_of_ble_eq_true rfl) (by show _ ≤ 2; omega) (by show _ ≤ 12; omega) hlocks (fun t hv hz hk => ⟨(), trivial, ⟨rfl, vx_enP hP9 hk, va_K.moved hv hK9, hD9⟩, vx_enF hS hz hk⟩) hS.2.2 (by omega) (by omega)
                  · have hP9 := hP.sub (ws' := [(aB, .inr (6, [.ref aT, .ref aF, .ref aQ, .int fk, .int fp])), (aF, .inr (1, [.ref aL, .int (nI dn), .int (nI wt), .int lt]))]) [0, 1] rfl
                    have hD9 := hD.sub (ws' := [(aB, .inr (6, [.ref aT, .ref aF, .ref aQ, .int fk, .int fp])), (aF, .inr (1, [.ref aL, .int (nI dn), .int (nI wt), .int lt]))]) [0, 1] (by decide) rfl
                    have hK9 := hK.sub (tys' := []) [] rfl
                    obtain ⟨sa, hsa⟩ := hG.2.1 (104, "the draft would have more than 1000 records") (by decide +kernel)
                    exact vx_throwS (A := A) (free := A) (own := "BatchBytes") (cls := "java/lang/IllegalStateException") (text := "the draft would have more than 1000 records") (names := ["java/lang/RuntimeException", "java/lang/Exception"]) hx hb hst hown (by decide +kernel) (by decide +kernel) (hts _ bw1_213) (hts _ bw1_13) hsa (th_S hts hG.1) gd_S hG.2.2.2.2.1.1 hG.2.2.2.2.1.2 hS (hl.1.trans hml.symm) dc_B_record_138 dc_B_record_141 dc_B_record_142 dc_B_record_144 dc_B_record_147 (fun q h => (htab q h).elim) (Nat.le_of_ble_eq_true rfl) (Nat.le_of_ble_eq_true rfl) (by show _ ≤ 2; omega) (by show _ ≤ 12; omega) hlocks (fun t hv hz hk => ⟨(), trivial, ⟨rfl, vx_enP hP9 hk, va_K.moved hv hK9, hD9⟩, vx_enF hS hz hk⟩) hS.2.2 (by omega) (by omega)
                · exact absurd (hr6) c_8
            · exact absurd (hr4) c_6
        · exact absurd (hr2) c_4
    · exact absurd (nI_le (b := 100) hg2 (by omega)) c_2

set_option maxHeartbeats 1000000 in
set_option maxRecDepth 100000 in
theorem c_B_seal_arg (l : Launch) (dC : Nat → ClassId) (dI : Nat → Nat → Nat) (sz : Nat) (aB : Nat) (aT : Nat) (aF : Nat) (aQ : Nat) (fk : Int32) (fp : Int32) (pr : Int64) (ep : Int32) (sq : Int32) (ft : Int64) (hbad : ft < 0 ∨ ¬ ft ≤ 562949953421312) (hst : l.stackTraces = false) : vx_Met l my_B_seal (wB my_B_seal cd_B_seal 9 (some .int)) ({ frames := 6, cells := 1, slots := 6, locals := 82 }) (va_Pc [.ref aB, .long pr, .int ep, .int sq, .long ft] (PcW (dC, dI) [(aB, .inr (6, [.ref aT, .ref aF, .ref aQ, .int fk, .int fp]))] [] sz)) (va_Qi (fun (_ : Int32) (_ : Unit) => False) (fun _ _ => True) (va_A [(aB, .inr (6, [.ref aT, .ref aF, .ref aQ, .int fk, .int fp]))] sz)) (vx_X (fun (_ : Unit) => True) (fun E => fun _ => fun t => E = "java/lang/IllegalArgumentException" ∧ EnW (dC, dI) (va_A [(aB, .inr (6, [.ref aT, .ref aF, .ref aQ, .int fk, .int fp]))] sz) [(aB, .inr (6, [.ref aT, .ref aF, .ref aQ, .int fk, .int fp]))] [] t) (va_A [(aB, .inr (6, [.ref aT, .ref aF, .ref aQ, .int fk, .int fp]))] sz)) 1 6 (va_A [(aB, .inr (6, [.ref aT, .ref aF, .ref aQ, .int fk, .int fp]))] sz) := by
  refine vx_ofW (cc := cd_B_seal) (maxL := 9) (ret := (some .int)) (by decide) rfl ?_
  intro p e s m args below meth c s₁ B hml htab hv
  obtain ⟨rfl, hsz, hP, hK, hD0, hG⟩ := hv
  have hx := B.exec
  have hb := B.bytes
  have hr := B.returns
  have hts := fun (w : Cond) (h : w ∈ bigT) => atoms_spec (ws := (wB my_B_seal cd_B_seal 9 (some .int))) B.pre w (List.mem_cons_of_mem _ h)
  have hown : s.vm.findClass rn_B = some m.cls := findClass_of_methodNamed B.named
  have hlocks := B.notSynchronized
  subst hsz
  have hD := hD0.self (sz := s.heap.size)
  generalize hAe : va_A [(aB, .inr (6, [.ref aT, .ref aF, .ref aQ, .int fk, .int fp]))] s.heap.size = A at hD hG ⊢
  have hA : ∀ q : Nat, s.heap.size ≤ q → A q := fun q h => by rw [← hAe]; exact Or.inr h
  have hS : va_S A s.heap s.heap [] := va_S.rf
  have hP : va_P (dC, dI) vwCl [(aB, .inr (6, [.ref aT, .ref aF, .ref aQ, .int fk, .int fp]))] s.heap := hP
  have hl := lv_entry ([.ref aB, .long pr, .int ep, .int sq, .long ft]) (n := 9) (Nat.le_of_ble_eq_true rfl)
  rw [lg_entry_eq]
  generalize (lg_sl ([.ref aB, .long pr, .int ep, .int sq, .long ft]) ++ List.replicate (9 - (lg_sl ([.ref aB, .long pr, .int ep, .int sq, .long ft])).length) Slot.unset).toArray = ls at hl ⊢
  have hl : lv_has ls 9 [(0, .ref aB), (1, .long pr), (3, .int ep), (4, .int sq), (5, .long ft)] := hl
  refine lv_lload hx hb dc_B_seal_0 (lv_at hl 4 rfl) ?_
  refine lv_lconst (v := 0) hx hb dc_B_seal_2 rfl ?_
  refine W.lcmp hx hb dc_B_seal_3 ?_
  refine lv_if_lt (tgt := 16) hx hb dc_B_seal_4 (by decide) (fun c_1 => ?_) (fun c_1 => ?_)
  · have c_1 : ft < 0 := (lg_cmp_lt _ _).mp c_1
    have hP9 := hP.sub (ws' := [(aB, .inr (6, [.ref aT, .ref aF, .ref aQ, .int fk, .int fp]))]) [0] rfl
    have hD9 := hD.sub (ws' := [(aB, .inr (6, [.ref aT, .ref aF, .ref aQ, .int fk, .int fp]))]) [0] (by decide) rfl
    have hK9 := hK.sub (tys' := []) [] rfl
    obtain ⟨sa, hsa⟩ := hG.2.1 (120, "time is not 0 .. 2^49") (by decide +kernel)
    exact vx_throwS (A := A) (free := A) (own := "BatchBytes") (cls := "java/lang/IllegalArgumentException") (text := "time is not 0 .. 2^49") (names := ["java/lang/RuntimeException", "java/lang/Exception"]) hx hb hst hown (by decide +kernel) (by decide +kernel) (hts _ bw2_80) (hts _ bw1_17) hsa (th_A hts hG.1) gd_A hG.2.2.2.2.1.1 hG.2.2.2.2.1.2 hS (hl.1.trans hml.symm) dc_B_seal_16 dc_B_seal_19 dc_B_seal_20 dc_B_seal_22 dc_B_seal_25 (fun q h => (htab q h).elim) (Nat.le_of_ble_eq_true rfl) (Nat.le_of_ble_eq_true rfl) (by show _ ≤ 1; omega) (by show _ ≤ 6; omega) hlocks (fun t hv hz hk => ⟨(), trivial, ⟨rfl, vx_enP hP9 hk, va_K.moved hv hK9, hD9⟩, vx_enF hS hz hk⟩) hS.2.2 (by omega) (by omega)
  · have c_1 : ¬ (ft < 0) := fun h => c_1 ((lg_cmp_lt _ _).mpr h)
    have h1 := c_1
    refine lv_lload hx hb dc_B_seal_7 (lv_at hl 4 rfl) ?_
    refine lv_ldc2 (v := 562949953421312) hx hb hown (hts _ bw2_235) dc_B_seal_9 ?_
    refine W.lcmp hx hb dc_B_seal_12 ?_
    refine lv_if_le (tgt := 26) hx hb dc_B_seal_13 (by decide) (fun c_2 => ?_) (fun c_2 => ?_)
    · have c_2 : ft ≤ 562949953421312 := (lg_cmp_le _ _).mp c_2
      exfalso; exact hbad.elim h1 (fun h => h c_2)
    · have c_2 : ¬ (ft ≤ 562949953421312) := fun h => c_2 ((lg_cmp_le _ _).mpr h)
      have hP9 := hP.sub (ws' := [(aB, .inr (6, [.ref aT, .ref aF, .ref aQ, .int fk, .int fp]))]) [0] rfl
      have hD9 := hD.sub (ws' := [(aB, .inr (6, [.ref aT, .ref aF, .ref aQ, .int fk, .int fp]))]) [0] (by decide) rfl
      have hK9 := hK.sub (tys' := []) [] rfl
      obtain ⟨sa, hsa⟩ := hG.2.1 (120, "time is not 0 .. 2^49") (by decide +kernel)
      exact vx_throwS (A := A) (free := A) (own := "BatchBytes") (cls := "java/lang/IllegalArgumentException") (text := "time is not 0 .. 2^49") (names := ["java/lang/RuntimeException", "java/lang/Exception"]) hx hb hst hown (by decide +kernel) (by decide +kernel) (hts _ bw2_80) (hts _ bw1_17) hsa (th_A hts hG.1) gd_A hG.2.2.2.2.1.1 hG.2.2.2.2.1.2 hS (hl.1.trans hml.symm) dc_B_seal_16 dc_B_seal_19 dc_B_seal_20 dc_B_seal_22 dc_B_seal_25 (fun q h => (htab q h).elim) (Nat.le_of_ble_eq_true rfl) (Nat.le_of_ble_eq_true rfl) (by show _ ≤ 1; omega) (by show _ ≤ 6; omega) hlocks (fun t hv hz hk => ⟨(), trivial, ⟨rfl, vx_enP hP9 hk, va_K.moved hv hK9, hD9⟩, vx_enF hS hz hk⟩) hS.2.2 (by omega) (by omega)

set_option maxHeartbeats 1000000 in
set_option maxRecDepth 100000 in
theorem c_B_seal_full (l : Launch) (dC : Nat → ClassId) (dI : Nat → Nat → Nat) (sz : Nat) (aB : Nat) (aF : Nat) (aQ : Nat) (fk : Int32) (fp : Int32) (aT : Nat) (aR : Nat) (cA : ClassId) (n : Nat) (f : Nat → Int32) (k : Nat) (ch : Int32) (aL : Nat) (dn : Nat) (wt : Nat) (lt : Int32) (pr : Int64) (ep : Int32) (sq : Int32) (ft : Int64) (hk : k ≤ n) (hn : n ≤ 16384) (hf0 : ¬ ft < 0) (hf1 : ft ≤ 562949953421312) (hwt : wt ≤ 16000) (hbad : 16384 < k + (61 + wt)) (hst : l.stackTraces = false) : vx_Met l my_B_seal (wB my_B_seal cd_B_seal 9 (some .int)) ({ frames := 6, cells := 1, slots := 6, locals := 82 }) (va_Pc [.ref aB, .long pr, .int ep, .int sq, .long ft] (PcW (dC, dI) [(aB, .inr (6, [.ref aT, .ref aF, .ref aQ, .int fk, .int fp])), (aF, .inr (1, [.ref aL, .int (nI dn), .int (nI wt), .int lt])), (aT, .inr (5, [.ref aR, .int (nI k), .int ch])), (aR, .inl (cA, n, .inl f))] [(cA, .byte)] sz)) (va_Qi (fun (_ : Int32) (_ : Unit) => False) (fun _ _ => True) (va_A [(aB, .inr (6, [.ref aT, .ref aF, .ref aQ, .int fk, .int fp])), (aF, .inr (1, [.ref aL, .int (nI dn), .int (nI wt), .int lt])), (aT, .inr (5, [.ref aR, .int (nI k), .int ch])), (aR, .inl (cA, n, .inl f))] sz)) (vx_X (fun (_ : Unit) => True) (fun E => fun _ => fun t => E = "java/lang/IllegalStateException" ∧ EnW (dC, dI) (va_A [(aB, .inr (6, [.ref aT, .ref aF, .ref aQ, .int fk, .int fp])), (aF, .inr (1, [.ref aL, .int (nI dn), .int (nI wt), .int lt])), (aT, .inr (5, [.ref aR, .int (nI k), .int ch])), (aR, .inl (cA, n, .inl f))] sz) [(aB, .inr (6, [.ref aT, .ref aF, .ref aQ, .int fk, .int fp])), (aF, .inr (1, [.ref aL, .int (nI dn), .int (nI wt), .int lt])), (aT, .inr (5, [.ref aR, .int (nI k), .int ch])), (aR, .inl (cA, n, .inl f))] [(cA, .byte)] t) (va_A [(aB, .inr (6, [.ref aT, .ref aF, .ref aQ, .int fk, .int fp])), (aF, .inr (1, [.ref aL, .int (nI dn), .int (nI wt), .int lt])), (aT, .inr (5, [.ref aR, .int (nI k), .int ch])), (aR, .inl (cA, n, .inl f))] sz)) 1 6 (va_A [(aB, .inr (6, [.ref aT, .ref aF, .ref aQ, .int fk, .int fp])), (aF, .inr (1, [.ref aL, .int (nI dn), .int (nI wt), .int lt])), (aT, .inr (5, [.ref aR, .int (nI k), .int ch])), (aR, .inl (cA, n, .inl f))] sz) := by
  refine vx_ofW (cc := cd_B_seal) (maxL := 9) (ret := (some .int)) (by decide) rfl ?_
  intro p e s m args below meth c s₁ B hml htab hv
  obtain ⟨rfl, hsz, hP, hK, hD0, hG⟩ := hv
  have hx := B.exec
  have hb := B.bytes
  have hr := B.returns
  have hts := fun (w : Cond) (h : w ∈ bigT) => atoms_spec (ws := (wB my_B_seal cd_B_seal 9 (some .int))) B.pre w (List.mem_cons_of_mem _ h)
  have hown : s.vm.findClass rn_B = some m.cls := findClass_of_methodNamed B.named
  have hlocks := B.notSynchronized
  subst hsz
  have hD := hD0.self (sz := s.heap.size)
  generalize hAe : va_A [(aB, .inr (6, [.ref aT, .ref aF, .ref aQ, .int fk, .int fp])), (aF, .inr (1, [.ref aL, .int (nI dn), .int (nI wt), .int lt])), (aT, .inr (5, [.ref aR, .int (nI k), .int ch])), (aR, .inl (cA, n, .inl f))] s.heap.size = A at hD hG ⊢
  have hA : ∀ q : Nat, s.heap.size ≤ q → A q := fun q h => by rw [← hAe]; exact Or.inr h
  have hS : va_S A s.heap s.heap [] := va_S.rf
  have hP : va_P (dC, dI) vwCl [(aB, .inr (6, [.ref aT, .ref aF, .ref aQ, .int fk, .int fp])), (aF, .inr (1, [.ref aL, .int (nI dn), .int (nI wt), .int lt])), (aT, .inr (5, [.ref aR, .int (nI k), .int ch])), (aR, .inl (cA, n, .inl f))] s.heap := hP
  have hl := lv_entry ([.ref aB, .long pr, .int ep, .int sq, .long ft]) (n := 9) (Nat.le_of_ble_eq_true rfl)
  rw [lg_entry_eq]
  generalize (lg_sl ([.ref aB, .long pr, .int ep, .int sq, .long ft]) ++ List.replicate (9 - (lg_sl ([.ref aB, .long pr, .int ep, .int sq, .long ft])).length) Slot.unset).toArray = ls at hl ⊢
  have hl : lv_has ls 9 [(0, .ref aB), (1, .long pr), (3, .int ep), (4, .int sq), (5, .long ft)] := hl
  refine lv_lload hx hb dc_B_seal_0 (lv_at hl 4 rfl) ?_
  refine lv_lconst (v := 0) hx hb dc_B_seal_2 rfl ?_
  refine W.lcmp hx hb dc_B_seal_3 ?_
  refine lv_if_lt (tgt := 16) hx hb dc_B_seal_4 (by decide) (fun c_1 => ?_) (fun c_1 => ?_)
  · have c_1 : ft < 0 := (lg_cmp_lt _ _).mp c_1
    exfalso; exact hf0 c_1
  · have c_1 : ¬ (ft < 0) := fun h => c_1 ((lg_cmp_lt _ _).mpr h)
    refine lv_lload hx hb dc_B_seal_7 (lv_at hl 4 rfl) ?_
    refine lv_ldc2 (v := 562949953421312) hx hb hown (hts _ bw2_235) dc_B_seal_9 ?_
    refine W.lcmp hx hb dc_B_seal_12 ?_
    refine lv_if_le (tgt := 26) hx hb dc_B_seal_13 (by decide) (fun c_2 => ?_) (fun c_2 => ?_)
    · have c_2 : ft ≤ 562949953421312 := (lg_cmp_le _ _).mp c_2
      refine lv_bipush (v := 61) hx hb dc_B_seal_26 (by decide) ?_
      refine lv_aload_n hx hb dc_B_seal_28 rfl (lv_at hl 0 rfl) ?_
      refine va_get (D := (dC, dI)) (ci := 6) (v := .ref aF) (C := rn_B) (T := ft_B) (N := 5) hx hb hts fw_B hown hK hP 0 rfl rfl 1 (by decide) (hts _ bw1_152) (fun _ h9 => h9) rfl dc_B_seal_29 ?_
      refine va_get (D := (dC, dI)) (ci := 1) (v := .int (nI wt)) (C := rn_D) (T := ft_D) (N := 4) hx hb hts fw_D hown hK hP 1 rfl rfl 2 (by decide) (hts _ bw1_86) (fun _ h9 => h9) rfl dc_B_seal_32 ?_
      refine lv_iadd hx hb dc_B_seal_35 ?_
      refine lv_istore (lv' := [(7, .int (61 + (nI wt))), (0, .ref aB), (1, .long pr), (3, .int ep), (4, .int sq), (5, .long ft)]) hx hb dc_B_seal_36 hl (by decide) rfl (fun ls hl => ?_)
      refine lv_aload_n hx hb dc_B_seal_38 rfl (lv_at hl 1 rfl) ?_
      refine va_get (D := (dC, dI)) (ci := 6) (v := .ref aT) (C := rn_B) (T := ft_B) (N := 5) hx hb hts fw_B hown hK hP 0 rfl rfl 0 (by decide) (hts _ bw1_151) (fun _ h9 => h9) rfl dc_B_seal_39 ?_
      refine va_get (D := (dC, dI)) (ci := 5) (v := .int (nI k)) (C := rn_T) (T := ft_T) (N := 3) hx hb hts fw_T hown hK hP 2 rfl rfl 1 (by decide) (hts _ bw1_38) (fun _ h9 => h9) rfl dc_B_seal_42 ?_
      refine lv_iload hx hb dc_B_seal_45 (lv_at hl 0 rfl) ?_
      refine lv_iadd hx hb dc_B_seal_47 ?_
      refine lv_sipush (v := 16384) hx hb dc_B_seal_48 (by decide) ?_
      refine lv_icmp_le (tgt := 64) hx hb dc_B_seal_51 (by decide) (fun c_3 => ?_) (fun c_3 => ?_)
      · exfalso; exact absurd ((nI_leI (a := k + (61 + wt)) (b := 16384) (by omega) (by omega)).mp (by rw [← nI_add, ← nI_add]; exact c_3)) (by omega)
      · have hP9 := hP.sub (ws' := [(aB, .inr (6, [.ref aT, .ref aF, .ref aQ, .int fk, .int fp])), (aF, .inr (1, [.ref aL, .int (nI dn), .int (nI wt), .int lt])), (aT, .inr (5, [.ref aR, .int (nI k), .int ch])), (aR, .inl (cA, n, .inl f))]) [0, 1, 2, 3] rfl
        have hD9 := hD.sub (ws' := [(aB, .inr (6, [.ref aT, .ref aF, .ref aQ, .int fk, .int fp])), (aF, .inr (1, [.ref aL, .int (nI dn), .int (nI wt), .int lt])), (aT, .inr (5, [.ref aR, .int (nI k), .int ch])), (aR, .inl (cA, n, .inl f))]) [0, 1, 2, 3] (by decide) rfl
        have hK9 := hK.sub (tys' := [(cA, .byte)]) [0] rfl
        obtain ⟨sa, hsa⟩ := hG.2.1 (44, "the tape would have more than 16384 bytes") (by decide +kernel)
        exact vx_throwS (A := A) (free := A) (own := "BatchBytes") (cls := "java/lang/IllegalStateException") (text := "the tape would have more than 16384 bytes") (names := ["java/lang/RuntimeException", "java/lang/Exception"]) hx hb hst hown (by decide +kernel) (by decide +kernel) (hts _ bw1_213) (hts _ bw1_13) hsa (th_S hts hG.1) gd_S hG.2.2.2.2.1.1 hG.2.2.2.2.1.2 hS (hl.1.trans hml.symm) dc_B_seal_54 dc_B_seal_57 dc_B_seal_58 dc_B_seal_60 dc_B_seal_63 (fun q h => (htab q h).elim) (Nat.le_of_ble_eq_true rfl) (Nat.le_of_ble_eq_true rfl) (by show _ ≤ 1; omega) (by show _ ≤ 6; omega) hlocks (fun t hv hz hk => ⟨(), trivial, ⟨rfl, vx_enP hP9 hk, va_K.moved hv hK9, hD9⟩, vx_enF hS hz hk⟩) hS.2.2 (by omega) (by omega)
    · have c_2 : ¬ (ft ≤ 562949953421312) := fun h => c_2 ((lg_cmp_le _ _).mpr h)
      exact absurd (hf1) c_2

set_option maxHeartbeats 1000000 in
set_option maxRecDepth 100000 in
theorem c_B_fault_bad (l : Launch) (dC : Nat → ClassId) (dI : Nat → Nat → Nat) (sz : Nat) (aB : Nat) (aT : Nat) (aF : Nat) (aQ : Nat) (fk : Int32) (fp : Int32) (xw : Int32) (hbad : xw < 0 ∨ ¬ xw ≤ 1) (hst : l.stackTraces = false) : vx_Met l my_B_fault (wB my_B_fault cd_B_fault 2 (some .int)) ({ frames := 6, cells := 1, slots := 6, locals := 82 }) (va_Pc [.ref aB, .int xw] (PcW (dC, dI) [(aB, .inr (6, [.ref aT, .ref aF, .ref aQ, .int fk, .int fp]))] [] sz)) (va_Qi (fun (_ : Int32) (_ : Unit) => False) (fun _ _ => True) (va_A [(aB, .inr (6, [.ref aT, .ref aF, .ref aQ, .int fk, .int fp]))] sz)) (vx_X (fun (_ : Unit) => True) (fun E => fun _ => fun t => E = "java/lang/IllegalArgumentException" ∧ EnW (dC, dI) (va_A [(aB, .inr (6, [.ref aT, .ref aF, .ref aQ, .int fk, .int fp]))] sz) [(aB, .inr (6, [.ref aT, .ref aF, .ref aQ, .int fk, .int fp]))] [] t) (va_A [(aB, .inr (6, [.ref aT, .ref aF, .ref aQ, .int fk, .int fp]))] sz)) 1 6 (va_A [(aB, .inr (6, [.ref aT, .ref aF, .ref aQ, .int fk, .int fp]))] sz) := by
  refine vx_ofW (cc := cd_B_fault) (maxL := 2) (ret := (some .int)) (by decide) rfl ?_
  intro p e s m args below meth c s₁ B hml htab hv
  obtain ⟨rfl, hsz, hP, hK, hD0, hG⟩ := hv
  have hx := B.exec
  have hb := B.bytes
  have hr := B.returns
  have hts := fun (w : Cond) (h : w ∈ bigT) => atoms_spec (ws := (wB my_B_fault cd_B_fault 2 (some .int))) B.pre w (List.mem_cons_of_mem _ h)
  have hown : s.vm.findClass rn_B = some m.cls := findClass_of_methodNamed B.named
  have hlocks := B.notSynchronized
  subst hsz
  have hD := hD0.self (sz := s.heap.size)
  generalize hAe : va_A [(aB, .inr (6, [.ref aT, .ref aF, .ref aQ, .int fk, .int fp]))] s.heap.size = A at hD hG ⊢
  have hA : ∀ q : Nat, s.heap.size ≤ q → A q := fun q h => by rw [← hAe]; exact Or.inr h
  have hS : va_S A s.heap s.heap [] := va_S.rf
  have hP : va_P (dC, dI) vwCl [(aB, .inr (6, [.ref aT, .ref aF, .ref aQ, .int fk, .int fp]))] s.heap := hP
  have hl := lv_entry ([.ref aB, .int xw]) (n := 2) (Nat.le_of_ble_eq_true rfl)
  rw [lg_entry_eq]
  generalize (lg_sl ([.ref aB, .int xw]) ++ List.replicate (2 - (lg_sl ([.ref aB, .int xw])).length) Slot.unset).toArray = ls at hl ⊢
  have hl : lv_has ls 2 [(0, .ref aB), (1, .int xw)] := hl
  refine lv_iload_n hx hb dc_B_fault_0 rfl (lv_at hl 1 rfl) ?_
  refine lv_if_lt (tgt := 9) hx hb dc_B_fault_1 (by decide) (fun c_1 => ?_) (fun c_1 => ?_)
  · have hP9 := hP.sub (ws' := [(aB, .inr (6, [.ref aT, .ref aF, .ref aQ, .int fk, .int fp]))]) [0] rfl
    have hD9 := hD.sub (ws' := [(aB, .inr (6, [.ref aT, .ref aF, .ref aQ, .int fk, .int fp]))]) [0] (by decide) rfl
    have hK9 := hK.sub (tys' := []) [] rfl
    obtain ⟨sa, hsa⟩ := hG.2.1 (129, "what is not 0 or 1") (by decide +kernel)
    exact vx_throwS (A := A) (free := A) (own := "BatchBytes") (cls := "java/lang/IllegalArgumentException") (text := "what is not 0 or 1") (names := ["java/lang/RuntimeException", "java/lang/Exception"]) hx hb hst hown (by decide +kernel) (by decide +kernel) (hts _ bw2_80) (hts _ bw1_17) hsa (th_A hts hG.1) gd_A hG.2.2.2.2.1.1 hG.2.2.2.2.1.2 hS (hl.1.trans hml.symm) dc_B_fault_9 dc_B_fault_12 dc_B_fault_13 dc_B_fault_15 dc_B_fault_18 (fun q h => (htab q h).elim) (Nat.le_of_ble_eq_true rfl) (Nat.le_of_ble_eq_true rfl) (by show _ ≤ 1; omega) (by show _ ≤ 6; omega) hlocks (fun t hv hz hk => ⟨(), trivial, ⟨rfl, vx_enP hP9 hk, va_K.moved hv hK9, hD9⟩, vx_enF hS hz hk⟩) hS.2.2 (by omega) (by omega)
  · have h1 := c_1
    refine lv_iload_n hx hb dc_B_fault_4 rfl (lv_at hl 1 rfl) ?_
    refine lv_iconst (v := 1) hx hb dc_B_fault_5 (by decide) ?_
    refine lv_icmp_le (tgt := 19) hx hb dc_B_fault_6 (by decide) (fun c_2 => ?_) (fun c_2 => ?_)
    · exfalso; exact hbad.elim h1 (fun h => h c_2)
    · have hP9 := hP.sub (ws' := [(aB, .inr (6, [.ref aT, .ref aF, .ref aQ, .int fk, .int fp]))]) [0] rfl
      have hD9 := hD.sub (ws' := [(aB, .inr (6, [.ref aT, .ref aF, .ref aQ, .int fk, .int fp]))]) [0] (by decide) rfl
      have hK9 := hK.sub (tys' := []) [] rfl
      obtain ⟨sa, hsa⟩ := hG.2.1 (129, "what is not 0 or 1") (by decide +kernel)
      exact vx_throwS (A := A) (free := A) (own := "BatchBytes") (cls := "java/lang/IllegalArgumentException") (text := "what is not 0 or 1") (names := ["java/lang/RuntimeException", "java/lang/Exception"]) hx hb hst hown (by decide +kernel) (by decide +kernel) (hts _ bw2_80) (hts _ bw1_17) hsa (th_A hts hG.1) gd_A hG.2.2.2.2.1.1 hG.2.2.2.2.1.2 hS (hl.1.trans hml.symm) dc_B_fault_9 dc_B_fault_12 dc_B_fault_13 dc_B_fault_15 dc_B_fault_18 (fun q h => (htab q h).elim) (Nat.le_of_ble_eq_true rfl) (Nat.le_of_ble_eq_true rfl) (by show _ ≤ 1; omega) (by show _ ≤ 6; omega) hlocks (fun t hv hz hk => ⟨(), trivial, ⟨rfl, vx_enP hP9 hk, va_K.moved hv hK9, hD9⟩, vx_enF hS hz hk⟩) hS.2.2 (by omega) (by omega)
