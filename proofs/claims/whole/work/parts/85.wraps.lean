set_option maxHeartbeats 1000000 in
set_option maxRecDepth 100000 in
theorem c_L_feed_ok (l : Launch) (dC : Nat → ClassId) (dI : Nat → Nat → Nat) (sz : Nat) (aB : Nat) (aF : Nat) (aQ : Nat) (fk : Int32) (fp : Int32) (aT : Nat) (aR : Nat) (cA : ClassId) (n : Nat) (f : Nat → Int32) (k : Nat) (ch : Int32) (va0 : Int32) (va1 : Int32) (va2 : Int32) (va3 : Int32) (va4 : Int32) (aO : Nat) (cJ : ClassId) (fo : Nat → Int64) (hk : k ≤ n) (hn : n ≤ 16384) (hk2 : k + 20 ≤ 16384) (hfit : fitB f) : Met l my_L_feed (wBW my_L_feed cd_L_feed 8 (some .int) [(0, 16, 19, 13)]) ({ frames := 4, cells := grC n (k + 20), slots := grS n (k + 20), locals := 98 }) (va_Pc [.ref aB, .int va0, .int va1, .int va2, .int va3, .int va4, .ref aO] (PcW (dC, dI) [(aB, .inr (6, [.ref aT, .ref aF, .ref aQ, .int fk, .int fp])), (aT, .inr (5, [.ref aR, .int (nI k), .int ch])), (aR, .inl (cA, n, .inl f)), (aO, .inl (cJ, 1, .inr (.inl fo)))] [(cA, .byte), (cJ, .long)] sz)) (va_Qi (fun (r : Int32) => fun (u : Nat × ClassId × (Nat → Int32)) => r = 0 ∧ (∀ i, i < k → u.2.2 i = f i) ∧ fitB u.2.2) (fun u => EnW (dC, dI) (va_A [(aB, .inr (6, [.ref aT, .ref aF, .ref aQ, .int fk, .int fp])), (aT, .inr (5, [.ref aR, .int (nI k), .int ch])), (aR, .inl (cA, n, .inl f)), (aO, .inl (cJ, 1, .inr (.inl fo)))] sz) [(aB, .inr (6, [.ref aT, .ref aF, .ref aQ, .int fk, .int fp])), (aT, .inr (5, [.ref u.1, .int (nI (k + 20)), .int 1])), (u.1, .inl (u.2.1, grN n (k + 20), .inl (wrB (wrB (wrB (wrB (wrB u.2.2 k (numL va0.toInt64 4)) (k + 4) (numL va1.toInt64 4)) (k + 8) (numL va2.toInt64 4)) (k + 12) (numL va3.toInt64 4)) (k + 16) (numL va4.toInt64 4)))), (aO, .inl (cJ, 1, .inr (.inl (vp_updL fo 0 ((nI (k + 20)).toInt64)))))] [(u.2.1, .byte), (cJ, .long)]) (va_A [(aB, .inr (6, [.ref aT, .ref aF, .ref aQ, .int fk, .int fp])), (aT, .inr (5, [.ref aR, .int (nI k), .int ch])), (aR, .inl (cA, n, .inl f)), (aO, .inl (cJ, 1, .inr (.inl fo)))] sz)) (grC n (k + 20)) (grS n (k + 20)) (va_A [(aB, .inr (6, [.ref aT, .ref aF, .ref aQ, .int fk, .int fp])), (aT, .inr (5, [.ref aR, .int (nI k), .int ch])), (aR, .inl (cA, n, .inl f)), (aO, .inl (cJ, 1, .inr (.inl fo)))] sz) := by
  refine va_MetW (cc := cd_L_feed) (maxL := 8) (ret := (some .int)) (hh := [(0, 16, 19, 13)]) (by decide) rfl ?_
  intro p e s m args below meth c s₁ B hml hv
  obtain ⟨rfl, hsz, hP, hK, hD0, hG⟩ := hv
  have hx := B.exec
  have hb := B.bytes
  have hr := B.returns
  have hts := fun (w : Cond) (h : w ∈ bigT) => atoms_spec (ws := (wBW my_L_feed cd_L_feed 8 (some .int) [(0, 16, 19, 13)])) B.pre w (List.mem_cons_of_mem _ h)
  have hown : s.vm.findClass rn_L = some m.cls := findClass_of_methodNamed B.named
  have hlocks := B.notSynchronized
  have htb := vx_table (x := my_L_feed) B (atoms_spec (ws := (wBW my_L_feed cd_L_feed 8 (some .int) [(0, 16, 19, 13)])) B.pre _ (List.mem_cons_self ..))
  subst hsz
  have hD := hD0.self (sz := s.heap.size)
  generalize hAe : va_A [(aB, .inr (6, [.ref aT, .ref aF, .ref aQ, .int fk, .int fp])), (aT, .inr (5, [.ref aR, .int (nI k), .int ch])), (aR, .inl (cA, n, .inl f)), (aO, .inl (cJ, 1, .inr (.inl fo)))] s.heap.size = A at hD hG ⊢
  have hA : ∀ q : Nat, s.heap.size ≤ q → A q := fun q h => by rw [← hAe]; exact Or.inr h
  have hS : va_S A s.heap s.heap [] := va_S.rf
  have hP : va_P (dC, dI) vwCl [(aB, .inr (6, [.ref aT, .ref aF, .ref aQ, .int fk, .int fp])), (aT, .inr (5, [.ref aR, .int (nI k), .int ch])), (aR, .inl (cA, n, .inl f)), (aO, .inl (cJ, 1, .inr (.inl fo)))] s.heap := hP
  have hl := lv_entry ([.ref aB, .int va0, .int va1, .int va2, .int va3, .int va4, .ref aO]) (n := 8) (Nat.le_of_ble_eq_true rfl)
  rw [lg_entry_eq]
  generalize (lg_sl ([.ref aB, .int va0, .int va1, .int va2, .int va3, .int va4, .ref aO]) ++ List.replicate (8 - (lg_sl ([.ref aB, .int va0, .int va1, .int va2, .int va3, .int va4, .ref aO])).length) Slot.unset).toArray = ls at hl ⊢
  have hl : lv_has ls 8 [(0, .ref aB), (1, .int va0), (2, .int va1), (3, .int va2), (4, .int va3), (5, .int va4), (6, .ref aO)] := hl
  refine lv_aload hx hb dc_L_feed_0 (lv_at hl 6 rfl) ?_
  refine lv_iconst (v := 0) hx hb dc_L_feed_2 (by decide) ?_
  refine lv_aload_n hx hb dc_L_feed_3 rfl (lv_at hl 0 rfl) ?_
  refine lv_iload_n hx hb dc_L_feed_4 rfl (lv_at hl 1 rfl) ?_
  refine lv_iload_n hx hb dc_L_feed_5 rfl (lv_at hl 2 rfl) ?_
  refine lv_iload_n hx hb dc_L_feed_6 rfl (lv_at hl 3 rfl) ?_
  refine lv_iload hx hb dc_L_feed_7 (lv_at hl 4 rfl) ?_
  refine lv_iload hx hb dc_L_feed_9 (lv_at hl 5 rfl) ?_
  refine kc_i (wc := [(aB, .inr (6, [.ref aT, .ref aF, .ref aQ, .int fk, .int fp])), (aT, .inr (5, [.ref aR, .int (nI k), .int ch])), (aR, .inl (cA, n, .inl f))]) (wr := [(aO, .inl (cJ, 1, .inr (.inl fo)))]) hP hD hS hA [0, 1, 2] [3] rfl rfl (by decide) (by decide) (va_runV (As := [.int va0, .int va1, .int va2, .int va3, .int va4]) (rest := [.int 0, .ref aO]) ⟨hx, hb, hml, hown, hts⟩ (c_B_feed_ok l dC dI _ aB aF aQ fk fp aT aR cA n f k ch va0 va1 va2 va3 va4 (hk) (hn) (hk2) (hfit)) (kw_V 5 hts bw1_209 bw1_210 bw1_211 bw1_1 bw1_212 rfl rfl (by decide +kernel) ⟨Nat.le_of_ble_eq_true rfl, Nat.le_of_ble_eq_true rfl⟩) (kp_V (wc := [(aB, .inr (6, [.ref aT, .ref aF, .ref aQ, .int fk, .int fp])), (aT, .inr (5, [.ref aR, .int (nI k), .int ch])), (aR, .inl (cA, n, .inl f))]) (tc := [(cA, .byte)]) (As := [.int va0, .int va1, .int va2, .int va3, .int va4]) hG hS hA hP hD hK [0, 1, 2] rfl (by decide) rfl [0] rfl (ci := 6) (q0 := 0) rfl rfl) rfl rfl hl.1 rfl (lv_room (Nat.le_of_ble_eq_true rfl)) dc_L_feed_11 ⟨by show _ ≤ grC n (k + 20); omega, by show _ ≤ grS n (k + 20); omega⟩) (fun r_4 u_5 H locs hw hP hD hK1 hS => ?_)
  obtain ⟨aR1_1, cA1_2, f1_3⟩ := u_5
  obtain ⟨rfl, h_6, h_7⟩ := hw
  have h_6 : (∀ i, i < k → f1_3 i = f i) := h_6
  have h_7 : fitB f1_3 := h_7
  have hK := hK.app hK1
  have hK : va_K (dC, dI) vwCl [(cA, .byte), (cJ, .long), (cA1_2, .byte)] s := hK
  have hP : va_P (dC, dI) vwCl [(aO, .inl (cJ, 1, .inr (.inl fo))), (aB, .inr (6, [.ref aT, .ref aF, .ref aQ, .int fk, .int fp])), (aT, .inr (5, [.ref aR1_1, .int (nI (k + 20)), .int 1])), (aR1_1, .inl (cA1_2, grN n (k + 20), .inl (wrB (wrB (wrB (wrB (wrB f1_3 k (numL va0.toInt64 4)) (k + 4) (numL va1.toInt64 4)) (k + 8) (numL va2.toInt64 4)) (k + 12) (numL va3.toInt64 4)) (k + 16) (numL va4.toInt64 4))))] H := hP
  have hD : va_D A [(aO, .inl (cJ, 1, .inr (.inl fo))), (aB, .inr (6, [.ref aT, .ref aF, .ref aQ, .int fk, .int fp])), (aT, .inr (5, [.ref aR1_1, .int (nI (k + 20)), .int 1])), (aR1_1, .inl (cA1_2, grN n (k + 20), .inl (wrB (wrB (wrB (wrB (wrB f1_3 k (numL va0.toInt64 4)) (k + 4) (numL va1.toInt64 4)) (k + 8) (numL va2.toInt64 4)) (k + 12) (numL va3.toInt64 4)) (k + 16) (numL va4.toInt64 4))))] := hD
  refine lv_i2l (v := (nI (k + 20)).toInt64) hx hb dc_L_feed_14 rfl ?_
  rw [show (0 : Int32) = nI 0 from rfl]
  refine va_last hx hb hK hP hD hS 0 1 rfl rfl (vp_in_nI (by omega) (by omega)) dc_L_feed_15 (fun H locs hP hD hS => ?_)
  rw [show (nI 0).toNatClampNeg = 0 from nI_clamp (by omega)] at hP hD
  have hP : va_P (dC, dI) vwCl [(aO, .inl (cJ, 1, .inr (.inl (vp_updL fo 0 ((nI (k + 20)).toInt64))))), (aB, .inr (6, [.ref aT, .ref aF, .ref aQ, .int fk, .int fp])), (aT, .inr (5, [.ref aR1_1, .int (nI (k + 20)), .int 1])), (aR1_1, .inl (cA1_2, grN n (k + 20), .inl (wrB (wrB (wrB (wrB (wrB f1_3 k (numL va0.toInt64 4)) (k + 4) (numL va1.toInt64 4)) (k + 8) (numL va2.toInt64 4)) (k + 12) (numL va3.toInt64 4)) (k + 16) (numL va4.toInt64 4))))] H := hP
  have hD : va_D A [(aO, .inl (cJ, 1, .inr (.inl (vp_updL fo 0 ((nI (k + 20)).toInt64))))), (aB, .inr (6, [.ref aT, .ref aF, .ref aQ, .int fk, .int fp])), (aT, .inr (5, [.ref aR1_1, .int (nI (k + 20)), .int 1])), (aR1_1, .inl (cA1_2, grN n (k + 20), .inl (wrB (wrB (wrB (wrB (wrB f1_3 k (numL va0.toInt64 4)) (k + 4) (numL va1.toInt64 4)) (k + 8) (numL va2.toInt64 4)) (k + 12) (numL va3.toInt64 4)) (k + 16) (numL va4.toInt64 4))))] := hD
  refine lv_goto (tgt := 23) hx hb dc_L_feed_16 (by decide) ?_
  refine lv_iconst (v := 0) hx hb dc_L_feed_23 (by decide) ?_
  have hP9 := hP.sub (ws' := [(aB, .inr (6, [.ref aT, .ref aF, .ref aQ, .int fk, .int fp])), (aT, .inr (5, [.ref aR1_1, .int (nI (k + 20)), .int 1])), (aR1_1, .inl (cA1_2, grN n (k + 20), .inl (wrB (wrB (wrB (wrB (wrB f1_3 k (numL va0.toInt64 4)) (k + 4) (numL va1.toInt64 4)) (k + 8) (numL va2.toInt64 4)) (k + 12) (numL va3.toInt64 4)) (k + 16) (numL va4.toInt64 4)))), (aO, .inl (cJ, 1, .inr (.inl (vp_updL fo 0 ((nI (k + 20)).toInt64)))))]) [1, 2, 3, 0] rfl
  have hD9 := hD.sub (ws' := [(aB, .inr (6, [.ref aT, .ref aF, .ref aQ, .int fk, .int fp])), (aT, .inr (5, [.ref aR1_1, .int (nI (k + 20)), .int 1])), (aR1_1, .inl (cA1_2, grN n (k + 20), .inl (wrB (wrB (wrB (wrB (wrB f1_3 k (numL va0.toInt64 4)) (k + 4) (numL va1.toInt64 4)) (k + 8) (numL va2.toInt64 4)) (k + 12) (numL va3.toInt64 4)) (k + 16) (numL va4.toInt64 4)))), (aO, .inl (cJ, 1, .inr (.inl (vp_updL fo 0 ((nI (k + 20)).toInt64)))))]) [1, 2, 3, 0] (by decide) rfl
  have hK9 := hK.sub (tys' := [(cA1_2, .byte), (cJ, .long)]) [2, 1] rfl
  refine W.widen (k := grC n (k + 20)) (n := grS n (k + 20)) (by omega) (by omega) ?_
  exact W.iret (v := 0) hx hb hr (fun t ht hW => ⟨⟨0, (aR1_1, cA1_2, f1_3), rfl, ⟨rfl, h_6, h_7⟩, by rw [ht]; exact hP9, va_K.moved hW.alike hK9, hD9⟩, hS.F ht⟩) hS.2.2 dc_L_feed_24

set_option maxHeartbeats 1000000 in
set_option maxRecDepth 100000 in
theorem c_L_feed_bad (l : Launch) (dC : Nat → ClassId) (dI : Nat → Nat → Nat) (sz : Nat) (aB : Nat) (aF : Nat) (aQ : Nat) (fk : Int32) (fp : Int32) (aT : Nat) (aR : Nat) (cA : ClassId) (n : Nat) (f : Nat → Int32) (k : Nat) (ch : Int32) (va0 : Int32) (va1 : Int32) (va2 : Int32) (va3 : Int32) (va4 : Int32) (aO : Nat) (cJ : ClassId) (fo : Nat → Int64) (hk : k ≤ n) (hn : n ≤ 16384) (hk2 : 16384 < k + 20) (hst : l.stackTraces = false) : Met l my_L_feed (wBW my_L_feed cd_L_feed 8 (some .int) [(0, 16, 19, 13)]) ({ frames := 7, cells := 1, slots := 6, locals := 107 }) (va_Pc [.ref aB, .int va0, .int va1, .int va2, .int va3, .int va4, .ref aO] (PcW (dC, dI) [(aB, .inr (6, [.ref aT, .ref aF, .ref aQ, .int fk, .int fp])), (aT, .inr (5, [.ref aR, .int (nI k), .int ch])), (aR, .inl (cA, n, .inl f)), (aO, .inl (cJ, 1, .inr (.inl fo)))] [(cA, .byte), (cJ, .long)] sz)) (va_Qi (fun (r : Int32) => fun (_ : Unit) => r = 1) (fun _ => EnW (dC, dI) (va_A [(aB, .inr (6, [.ref aT, .ref aF, .ref aQ, .int fk, .int fp])), (aT, .inr (5, [.ref aR, .int (nI k), .int ch])), (aR, .inl (cA, n, .inl f)), (aO, .inl (cJ, 1, .inr (.inl fo)))] sz) [(aB, .inr (6, [.ref aT, .ref aF, .ref aQ, .int fk, .int fp])), (aT, .inr (5, [.ref aR, .int (nI k), .int ch])), (aR, .inl (cA, n, .inl f)), (aO, .inl (cJ, 1, .inr (.inl fo)))] [(cA, .byte), (cJ, .long)]) (va_A [(aB, .inr (6, [.ref aT, .ref aF, .ref aQ, .int fk, .int fp])), (aT, .inr (5, [.ref aR, .int (nI k), .int ch])), (aR, .inl (cA, n, .inl f)), (aO, .inl (cJ, 1, .inr (.inl fo)))] sz)) 1 6 (va_A [(aB, .inr (6, [.ref aT, .ref aF, .ref aQ, .int fk, .int fp])), (aT, .inr (5, [.ref aR, .int (nI k), .int ch])), (aR, .inl (cA, n, .inl f)), (aO, .inl (cJ, 1, .inr (.inl fo)))] sz) := by
  refine va_MetW (cc := cd_L_feed) (maxL := 8) (ret := (some .int)) (hh := [(0, 16, 19, 13)]) (by decide) rfl ?_
  intro p e s m args below meth c s₁ B hml hv
  obtain ⟨rfl, hsz, hP, hK, hD0, hG⟩ := hv
  have hx := B.exec
  have hb := B.bytes
  have hr := B.returns
  have hts := fun (w : Cond) (h : w ∈ bigT) => atoms_spec (ws := (wBW my_L_feed cd_L_feed 8 (some .int) [(0, 16, 19, 13)])) B.pre w (List.mem_cons_of_mem _ h)
  have hown : s.vm.findClass rn_L = some m.cls := findClass_of_methodNamed B.named
  have hlocks := B.notSynchronized
  have htb := vx_table (x := my_L_feed) B (atoms_spec (ws := (wBW my_L_feed cd_L_feed 8 (some .int) [(0, 16, 19, 13)])) B.pre _ (List.mem_cons_self ..))
  subst hsz
  have hD := hD0.self (sz := s.heap.size)
  generalize hAe : va_A [(aB, .inr (6, [.ref aT, .ref aF, .ref aQ, .int fk, .int fp])), (aT, .inr (5, [.ref aR, .int (nI k), .int ch])), (aR, .inl (cA, n, .inl f)), (aO, .inl (cJ, 1, .inr (.inl fo)))] s.heap.size = A at hD hG ⊢
  have hA : ∀ q : Nat, s.heap.size ≤ q → A q := fun q h => by rw [← hAe]; exact Or.inr h
  have hS : va_S A s.heap s.heap [] := va_S.rf
  have hP : va_P (dC, dI) vwCl [(aB, .inr (6, [.ref aT, .ref aF, .ref aQ, .int fk, .int fp])), (aT, .inr (5, [.ref aR, .int (nI k), .int ch])), (aR, .inl (cA, n, .inl f)), (aO, .inl (cJ, 1, .inr (.inl fo)))] s.heap := hP
  have hl := lv_entry ([.ref aB, .int va0, .int va1, .int va2, .int va3, .int va4, .ref aO]) (n := 8) (Nat.le_of_ble_eq_true rfl)
  rw [lg_entry_eq]
  generalize (lg_sl ([.ref aB, .int va0, .int va1, .int va2, .int va3, .int va4, .ref aO]) ++ List.replicate (8 - (lg_sl ([.ref aB, .int va0, .int va1, .int va2, .int va3, .int va4, .ref aO])).length) Slot.unset).toArray = ls at hl ⊢
  have hl : lv_has ls 8 [(0, .ref aB), (1, .int va0), (2, .int va1), (3, .int va2), (4, .int va3), (5, .int va4), (6, .ref aO)] := hl
  refine lv_aload hx hb dc_L_feed_0 (lv_at hl 6 rfl) ?_
  refine lv_iconst (v := 0) hx hb dc_L_feed_2 (by decide) ?_
  refine lv_aload_n hx hb dc_L_feed_3 rfl (lv_at hl 0 rfl) ?_
  refine lv_iload_n hx hb dc_L_feed_4 rfl (lv_at hl 1 rfl) ?_
  refine lv_iload_n hx hb dc_L_feed_5 rfl (lv_at hl 2 rfl) ?_
  refine lv_iload_n hx hb dc_L_feed_6 rfl (lv_at hl 3 rfl) ?_
  refine lv_iload hx hb dc_L_feed_7 (lv_at hl 4 rfl) ?_
  refine lv_iload hx hb dc_L_feed_9 (lv_at hl 5 rfl) ?_
  refine kcx_i (wc := [(aB, .inr (6, [.ref aT, .ref aF, .ref aQ, .int fk, .int fp])), (aT, .inr (5, [.ref aR, .int (nI k), .int ch])), (aR, .inl (cA, n, .inl f))]) (wr := [(aO, .inl (cJ, 1, .inr (.inl fo)))]) hP hD hS hA [0, 1, 2] [3] rfl rfl (by decide) (by decide) (vx_runV (As := [.int va0, .int va1, .int va2, .int va3, .int va4]) (rest := [.int 0, .ref aO]) ⟨hx, hb, hml, hown, hts⟩ (c_B_feed_bad l dC dI _ aB aF aQ fk fp aT aR cA n f k ch va0 va1 va2 va3 va4 (hk) (hn) (hk2) hst) (kw_V 5 hts bw1_209 bw1_210 bw1_211 bw1_1 bw1_212 rfl rfl (by decide +kernel) ⟨Nat.le_of_ble_eq_true rfl, Nat.le_of_ble_eq_true rfl⟩) (kp_V (wc := [(aB, .inr (6, [.ref aT, .ref aF, .ref aQ, .int fk, .int fp])), (aT, .inr (5, [.ref aR, .int (nI k), .int ch])), (aR, .inl (cA, n, .inl f))]) (tc := [(cA, .byte)]) (As := [.int va0, .int va1, .int va2, .int va3, .int va4]) hG hS hA hP hD hK [0, 1, 2] rfl (by decide) rfl [0] rfl (ci := 6) (q0 := 0) rfl rfl) rfl rfl hl.1 rfl (lv_room (Nat.le_of_ble_eq_true rfl)) dc_L_feed_11 ⟨by show _ ≤ 1; omega, by show _ ≤ 6; omega⟩) (fun _ ce q_1 H locs hP hD hK1 hS h1 h2 h3 => ?_)
  refine vx_catch (own := "BatchBytesLaw") hown [] ⟨0, 16, 19, 13⟩ [] (htb.trans rfl) (fun z hz => nomatch hz) (by decide) (by decide) (hts _ bw1_208) (nd_use hG.1 (.castable "java/lang/IllegalStateException" "java/lang/IllegalStateException") (by decide +kernel)) h1 h2 h3 ?_
  have hP : va_P (dC, dI) vwCl [(aO, .inl (cJ, 1, .inr (.inl fo))), (aB, .inr (6, [.ref aT, .ref aF, .ref aQ, .int fk, .int fp])), (aT, .inr (5, [.ref aR, .int (nI k), .int ch])), (aR, .inl (cA, n, .inl f))] H := hP
  have hD : va_D A [(aO, .inl (cJ, 1, .inr (.inl fo))), (aB, .inr (6, [.ref aT, .ref aF, .ref aQ, .int fk, .int fp])), (aT, .inr (5, [.ref aR, .int (nI k), .int ch])), (aR, .inl (cA, n, .inl f))] := hD
  refine lv_astore (lv' := [(7, .ref q_1), (0, .ref aB), (1, .int va0), (2, .int va1), (3, .int va2), (4, .int va3), (5, .int va4), (6, .ref aO)]) hx hb dc_L_feed_19 hl (by decide) rfl (fun ls hl => ?_)
  refine lv_iconst (v := 1) hx hb dc_L_feed_21 (by decide) ?_
  have hP9 := hP.sub (ws' := [(aB, .inr (6, [.ref aT, .ref aF, .ref aQ, .int fk, .int fp])), (aT, .inr (5, [.ref aR, .int (nI k), .int ch])), (aR, .inl (cA, n, .inl f)), (aO, .inl (cJ, 1, .inr (.inl fo)))]) [1, 2, 3, 0] rfl
  have hD9 := hD.sub (ws' := [(aB, .inr (6, [.ref aT, .ref aF, .ref aQ, .int fk, .int fp])), (aT, .inr (5, [.ref aR, .int (nI k), .int ch])), (aR, .inl (cA, n, .inl f)), (aO, .inl (cJ, 1, .inr (.inl fo)))]) [1, 2, 3, 0] (by decide) rfl
  have hK9 := hK.sub (tys' := [(cA, .byte), (cJ, .long)]) [0, 1] rfl
  refine W.widen (k := 1) (n := 6) (by omega) (by omega) ?_
  exact W.iret (v := 1) hx hb hr (fun t ht hW => ⟨⟨1, (), rfl, rfl, by rw [ht]; exact hP9, va_K.moved hW.alike hK9, hD9⟩, hS.F ht⟩) hS.2.2 dc_L_feed_22

set_option maxHeartbeats 1000000 in
set_option maxRecDepth 100000 in
theorem c_L_trim_ok (l : Launch) (dC : Nat → ClassId) (dI : Nat → Nat → Nat) (sz : Nat) (aB : Nat) (aF : Nat) (aQ : Nat) (fk : Int32) (fp : Int32) (aT : Nat) (aR : Nat) (cA : ClassId) (n : Nat) (f : Nat → Int32) (k : Nat) (ch : Int32) (j : Nat) (aO : Nat) (cJ : ClassId) (fo : Nat → Int64) (hk : k ≤ n) (hn : n ≤ 16384) (hj : j ≤ k) : Met l my_L_trim (wBW my_L_trim cd_L_trim 4 (some .int) [(0, 9, 12, 19)]) ({ frames := 2, cells := 0, slots := 0, locals := 42 }) (va_Pc [.ref aB, .int (nI j), .ref aO] (PcW (dC, dI) [(aB, .inr (6, [.ref aT, .ref aF, .ref aQ, .int fk, .int fp])), (aT, .inr (5, [.ref aR, .int (nI k), .int ch])), (aR, .inl (cA, n, .inl f)), (aO, .inl (cJ, 1, .inr (.inl fo)))] [(cA, .byte), (cJ, .long)] sz)) (va_Qi (fun (r : Int32) => fun (_ : Unit) => r = 0) (fun _ => EnW (dC, dI) (va_A [(aB, .inr (6, [.ref aT, .ref aF, .ref aQ, .int fk, .int fp])), (aT, .inr (5, [.ref aR, .int (nI k), .int ch])), (aR, .inl (cA, n, .inl f)), (aO, .inl (cJ, 1, .inr (.inl fo)))] sz) [(aB, .inr (6, [.ref aT, .ref aF, .ref aQ, .int fk, .int fp])), (aT, .inr (5, [.ref aR, .int (nI (k - j)), .int 1])), (aR, .inl (cA, n, .inl f)), (aO, .inl (cJ, 1, .inr (.inl (vp_updL fo 0 ((nI (k - j)).toInt64)))))] [(cA, .byte), (cJ, .long)]) (va_A [(aB, .inr (6, [.ref aT, .ref aF, .ref aQ, .int fk, .int fp])), (aT, .inr (5, [.ref aR, .int (nI k), .int ch])), (aR, .inl (cA, n, .inl f)), (aO, .inl (cJ, 1, .inr (.inl fo)))] sz)) 0 0 (va_A [(aB, .inr (6, [.ref aT, .ref aF, .ref aQ, .int fk, .int fp])), (aT, .inr (5, [.ref aR, .int (nI k), .int ch])), (aR, .inl (cA, n, .inl f)), (aO, .inl (cJ, 1, .inr (.inl fo)))] sz) := by
  refine va_MetW (cc := cd_L_trim) (maxL := 4) (ret := (some .int)) (hh := [(0, 9, 12, 19)]) (by decide) rfl ?_
  intro p e s m args below meth c s₁ B hml hv
  obtain ⟨rfl, hsz, hP, hK, hD0, hG⟩ := hv
  have hx := B.exec
  have hb := B.bytes
  have hr := B.returns
  have hts := fun (w : Cond) (h : w ∈ bigT) => atoms_spec (ws := (wBW my_L_trim cd_L_trim 4 (some .int) [(0, 9, 12, 19)])) B.pre w (List.mem_cons_of_mem _ h)
  have hown : s.vm.findClass rn_L = some m.cls := findClass_of_methodNamed B.named
  have hlocks := B.notSynchronized
  have htb := vx_table (x := my_L_trim) B (atoms_spec (ws := (wBW my_L_trim cd_L_trim 4 (some .int) [(0, 9, 12, 19)])) B.pre _ (List.mem_cons_self ..))
  subst hsz
  have hD := hD0.self (sz := s.heap.size)
  generalize hAe : va_A [(aB, .inr (6, [.ref aT, .ref aF, .ref aQ, .int fk, .int fp])), (aT, .inr (5, [.ref aR, .int (nI k), .int ch])), (aR, .inl (cA, n, .inl f)), (aO, .inl (cJ, 1, .inr (.inl fo)))] s.heap.size = A at hD hG ⊢
  have hA : ∀ q : Nat, s.heap.size ≤ q → A q := fun q h => by rw [← hAe]; exact Or.inr h
  have hS : va_S A s.heap s.heap [] := va_S.rf
  have hP : va_P (dC, dI) vwCl [(aB, .inr (6, [.ref aT, .ref aF, .ref aQ, .int fk, .int fp])), (aT, .inr (5, [.ref aR, .int (nI k), .int ch])), (aR, .inl (cA, n, .inl f)), (aO, .inl (cJ, 1, .inr (.inl fo)))] s.heap := hP
  have hl := lv_entry ([.ref aB, .int (nI j), .ref aO]) (n := 4) (Nat.le_of_ble_eq_true rfl)
  rw [lg_entry_eq]
  generalize (lg_sl ([.ref aB, .int (nI j), .ref aO]) ++ List.replicate (4 - (lg_sl ([.ref aB, .int (nI j), .ref aO])).length) Slot.unset).toArray = ls at hl ⊢
  have hl : lv_has ls 4 [(0, .ref aB), (1, .int (nI j)), (2, .ref aO)] := hl
  refine lv_aload_n hx hb dc_L_trim_0 rfl (lv_at hl 2 rfl) ?_
  refine lv_iconst (v := 0) hx hb dc_L_trim_1 (by decide) ?_
  refine lv_aload_n hx hb dc_L_trim_2 rfl (lv_at hl 0 rfl) ?_
  refine lv_iload_n hx hb dc_L_trim_3 rfl (lv_at hl 1 rfl) ?_
  refine kc_i (wc := [(aB, .inr (6, [.ref aT, .ref aF, .ref aQ, .int fk, .int fp])), (aT, .inr (5, [.ref aR, .int (nI k), .int ch])), (aR, .inl (cA, n, .inl f))]) (wr := [(aO, .inl (cJ, 1, .inr (.inl fo)))]) hP hD hS hA [0, 1, 2] [3] rfl rfl (by decide) (by decide) (va_runV (As := [.int (nI j)]) (rest := [.int 0, .ref aO]) ⟨hx, hb, hml, hown, hts⟩ (c_B_trim_ok l dC dI _ aB aF aQ fk fp aT aR cA n f k ch j (hk) (hn) (hj)) (kw_V 1 hts bw2_76 bw2_77 bw2_78 bw1_1 bw2_79 rfl rfl (by decide +kernel) ⟨Nat.le_of_ble_eq_true rfl, Nat.le_of_ble_eq_true rfl⟩) (kp_V (wc := [(aB, .inr (6, [.ref aT, .ref aF, .ref aQ, .int fk, .int fp])), (aT, .inr (5, [.ref aR, .int (nI k), .int ch])), (aR, .inl (cA, n, .inl f))]) (tc := [(cA, .byte)]) (As := [.int (nI j)]) hG hS hA hP hD hK [0, 1, 2] rfl (by decide) rfl [0] rfl (ci := 6) (q0 := 0) rfl rfl) rfl rfl hl.1 rfl (lv_room (Nat.le_of_ble_eq_true rfl)) dc_L_trim_4 ⟨Nat.zero_le _, Nat.zero_le _⟩) (fun r_1 _ H locs hw hP hD hK1 hS => ?_)
  have hw : nI (k - j) = r_1 := hw.symm
  subst hw
  have hP : va_P (dC, dI) vwCl [(aO, .inl (cJ, 1, .inr (.inl fo))), (aB, .inr (6, [.ref aT, .ref aF, .ref aQ, .int fk, .int fp])), (aT, .inr (5, [.ref aR, .int (nI (k - j)), .int 1])), (aR, .inl (cA, n, .inl f))] H := hP
  have hD : va_D A [(aO, .inl (cJ, 1, .inr (.inl fo))), (aB, .inr (6, [.ref aT, .ref aF, .ref aQ, .int fk, .int fp])), (aT, .inr (5, [.ref aR, .int (nI (k - j)), .int 1])), (aR, .inl (cA, n, .inl f))] := hD
  refine lv_i2l (v := (nI (k - j)).toInt64) hx hb dc_L_trim_7 rfl ?_
  rw [show (0 : Int32) = nI 0 from rfl]
  refine va_last hx hb hK hP hD hS 0 1 rfl rfl (vp_in_nI (by omega) (by omega)) dc_L_trim_8 (fun H locs hP hD hS => ?_)
  rw [show (nI 0).toNatClampNeg = 0 from nI_clamp (by omega)] at hP hD
  have hP : va_P (dC, dI) vwCl [(aO, .inl (cJ, 1, .inr (.inl (vp_updL fo 0 ((nI (k - j)).toInt64))))), (aB, .inr (6, [.ref aT, .ref aF, .ref aQ, .int fk, .int fp])), (aT, .inr (5, [.ref aR, .int (nI (k - j)), .int 1])), (aR, .inl (cA, n, .inl f))] H := hP
  have hD : va_D A [(aO, .inl (cJ, 1, .inr (.inl (vp_updL fo 0 ((nI (k - j)).toInt64))))), (aB, .inr (6, [.ref aT, .ref aF, .ref aQ, .int fk, .int fp])), (aT, .inr (5, [.ref aR, .int (nI (k - j)), .int 1])), (aR, .inl (cA, n, .inl f))] := hD
  refine lv_goto (tgt := 15) hx hb dc_L_trim_9 (by decide) ?_
  refine lv_iconst (v := 0) hx hb dc_L_trim_15 (by decide) ?_
  have hP9 := hP.sub (ws' := [(aB, .inr (6, [.ref aT, .ref aF, .ref aQ, .int fk, .int fp])), (aT, .inr (5, [.ref aR, .int (nI (k - j)), .int 1])), (aR, .inl (cA, n, .inl f)), (aO, .inl (cJ, 1, .inr (.inl (vp_updL fo 0 ((nI (k - j)).toInt64)))))]) [1, 2, 3, 0] rfl
  have hD9 := hD.sub (ws' := [(aB, .inr (6, [.ref aT, .ref aF, .ref aQ, .int fk, .int fp])), (aT, .inr (5, [.ref aR, .int (nI (k - j)), .int 1])), (aR, .inl (cA, n, .inl f)), (aO, .inl (cJ, 1, .inr (.inl (vp_updL fo 0 ((nI (k - j)).toInt64)))))]) [1, 2, 3, 0] (by decide) rfl
  have hK9 := hK.sub (tys' := [(cA, .byte), (cJ, .long)]) [0, 1] rfl
  exact W.iret (v := 0) hx hb hr (fun t ht hW => ⟨⟨0, (), rfl, rfl, by rw [ht]; exact hP9, va_K.moved hW.alike hK9, hD9⟩, hS.F ht⟩) hS.2.2 dc_L_trim_16

set_option maxHeartbeats 1000000 in
set_option maxRecDepth 100000 in
theorem c_L_trim_bad (l : Launch) (dC : Nat → ClassId) (dI : Nat → Nat → Nat) (sz : Nat) (aB : Nat) (aF : Nat) (aQ : Nat) (fk : Int32) (fp : Int32) (aT : Nat) (aR : Nat) (cA : ClassId) (n : Nat) (f : Nat → Int32) (k : Nat) (ch : Int32) (xn : Int32) (aO : Nat) (cJ : ClassId) (fo : Nat → Int64) (hbad : xn < 0 ∨ ¬ xn ≤ nI k) (hst : l.stackTraces = false) : Met l my_L_trim (wBW my_L_trim cd_L_trim 4 (some .int) [(0, 9, 12, 19)]) ({ frames := 7, cells := 1, slots := 6, locals := 103 }) (va_Pc [.ref aB, .int xn, .ref aO] (PcW (dC, dI) [(aB, .inr (6, [.ref aT, .ref aF, .ref aQ, .int fk, .int fp])), (aT, .inr (5, [.ref aR, .int (nI k), .int ch])), (aR, .inl (cA, n, .inl f)), (aO, .inl (cJ, 1, .inr (.inl fo)))] [(cA, .byte), (cJ, .long)] sz)) (va_Qi (fun (r : Int32) => fun (_ : Unit) => r = 1) (fun _ => EnW (dC, dI) (va_A [(aB, .inr (6, [.ref aT, .ref aF, .ref aQ, .int fk, .int fp])), (aT, .inr (5, [.ref aR, .int (nI k), .int ch])), (aR, .inl (cA, n, .inl f)), (aO, .inl (cJ, 1, .inr (.inl fo)))] sz) [(aB, .inr (6, [.ref aT, .ref aF, .ref aQ, .int fk, .int fp])), (aT, .inr (5, [.ref aR, .int (nI k), .int ch])), (aR, .inl (cA, n, .inl f)), (aO, .inl (cJ, 1, .inr (.inl fo)))] [(cA, .byte), (cJ, .long)]) (va_A [(aB, .inr (6, [.ref aT, .ref aF, .ref aQ, .int fk, .int fp])), (aT, .inr (5, [.ref aR, .int (nI k), .int ch])), (aR, .inl (cA, n, .inl f)), (aO, .inl (cJ, 1, .inr (.inl fo)))] sz)) 1 6 (va_A [(aB, .inr (6, [.ref aT, .ref aF, .ref aQ, .int fk, .int fp])), (aT, .inr (5, [.ref aR, .int (nI k), .int ch])), (aR, .inl (cA, n, .inl f)), (aO, .inl (cJ, 1, .inr (.inl fo)))] sz) := by
  refine va_MetW (cc := cd_L_trim) (maxL := 4) (ret := (some .int)) (hh := [(0, 9, 12, 19)]) (by decide) rfl ?_
  intro p e s m args below meth c s₁ B hml hv
  obtain ⟨rfl, hsz, hP, hK, hD0, hG⟩ := hv
  have hx := B.exec
  have hb := B.bytes
  have hr := B.returns
  have hts := fun (w : Cond) (h : w ∈ bigT) => atoms_spec (ws := (wBW my_L_trim cd_L_trim 4 (some .int) [(0, 9, 12, 19)])) B.pre w (List.mem_cons_of_mem _ h)
  have hown : s.vm.findClass rn_L = some m.cls := findClass_of_methodNamed B.named
  have hlocks := B.notSynchronized
  have htb := vx_table (x := my_L_trim) B (atoms_spec (ws := (wBW my_L_trim cd_L_trim 4 (some .int) [(0, 9, 12, 19)])) B.pre _ (List.mem_cons_self ..))
  subst hsz
  have hD := hD0.self (sz := s.heap.size)
  generalize hAe : va_A [(aB, .inr (6, [.ref aT, .ref aF, .ref aQ, .int fk, .int fp])), (aT, .inr (5, [.ref aR, .int (nI k), .int ch])), (aR, .inl (cA, n, .inl f)), (aO, .inl (cJ, 1, .inr (.inl fo)))] s.heap.size = A at hD hG ⊢
  have hA : ∀ q : Nat, s.heap.size ≤ q → A q := fun q h => by rw [← hAe]; exact Or.inr h
  have hS : va_S A s.heap s.heap [] := va_S.rf
  have hP : va_P (dC, dI) vwCl [(aB, .inr (6, [.ref aT, .ref aF, .ref aQ, .int fk, .int fp])), (aT, .inr (5, [.ref aR, .int (nI k), .int ch])), (aR, .inl (cA, n, .inl f)), (aO, .inl (cJ, 1, .inr (.inl fo)))] s.heap := hP
  have hl := lv_entry ([.ref aB, .int xn, .ref aO]) (n := 4) (Nat.le_of_ble_eq_true rfl)
  rw [lg_entry_eq]
  generalize (lg_sl ([.ref aB, .int xn, .ref aO]) ++ List.replicate (4 - (lg_sl ([.ref aB, .int xn, .ref aO])).length) Slot.unset).toArray = ls at hl ⊢
  have hl : lv_has ls 4 [(0, .ref aB), (1, .int xn), (2, .ref aO)] := hl
  refine lv_aload_n hx hb dc_L_trim_0 rfl (lv_at hl 2 rfl) ?_
  refine lv_iconst (v := 0) hx hb dc_L_trim_1 (by decide) ?_
  refine lv_aload_n hx hb dc_L_trim_2 rfl (lv_at hl 0 rfl) ?_
  refine lv_iload_n hx hb dc_L_trim_3 rfl (lv_at hl 1 rfl) ?_
  refine kcx_i (wc := [(aB, .inr (6, [.ref aT, .ref aF, .ref aQ, .int fk, .int fp])), (aT, .inr (5, [.ref aR, .int (nI k), .int ch])), (aR, .inl (cA, n, .inl f))]) (wr := [(aO, .inl (cJ, 1, .inr (.inl fo)))]) hP hD hS hA [0, 1, 2] [3] rfl rfl (by decide) (by decide) (vx_runV (As := [.int xn]) (rest := [.int 0, .ref aO]) ⟨hx, hb, hml, hown, hts⟩ (c_B_trim_bad l dC dI _ aB aF aQ fk fp aT aR cA n f k ch xn (hbad) hst) (kw_V 1 hts bw2_76 bw2_77 bw2_78 bw1_1 bw2_79 rfl rfl (by decide +kernel) ⟨Nat.le_of_ble_eq_true rfl, Nat.le_of_ble_eq_true rfl⟩) (kp_V (wc := [(aB, .inr (6, [.ref aT, .ref aF, .ref aQ, .int fk, .int fp])), (aT, .inr (5, [.ref aR, .int (nI k), .int ch])), (aR, .inl (cA, n, .inl f))]) (tc := [(cA, .byte)]) (As := [.int xn]) hG hS hA hP hD hK [0, 1, 2] rfl (by decide) rfl [0] rfl (ci := 6) (q0 := 0) rfl rfl) rfl rfl hl.1 rfl (lv_room (Nat.le_of_ble_eq_true rfl)) dc_L_trim_4 ⟨by show _ ≤ 1; omega, by show _ ≤ 6; omega⟩) (fun _ ce q_1 H locs hP hD hK1 hS h1 h2 h3 => ?_)
  refine vx_catch (own := "BatchBytesLaw") hown [] ⟨0, 9, 12, 19⟩ [] (htb.trans rfl) (fun z hz => nomatch hz) (by decide) (by decide) (hts _ bw2_75) (nd_use hG.1 (.castable "java/lang/IllegalArgumentException" "java/lang/IllegalArgumentException") (by decide +kernel)) h1 h2 h3 ?_
  have hP : va_P (dC, dI) vwCl [(aO, .inl (cJ, 1, .inr (.inl fo))), (aB, .inr (6, [.ref aT, .ref aF, .ref aQ, .int fk, .int fp])), (aT, .inr (5, [.ref aR, .int (nI k), .int ch])), (aR, .inl (cA, n, .inl f))] H := hP
  have hD : va_D A [(aO, .inl (cJ, 1, .inr (.inl fo))), (aB, .inr (6, [.ref aT, .ref aF, .ref aQ, .int fk, .int fp])), (aT, .inr (5, [.ref aR, .int (nI k), .int ch])), (aR, .inl (cA, n, .inl f))] := hD
  refine lv_astore_n (lv' := [(3, .ref q_1), (0, .ref aB), (1, .int xn), (2, .ref aO)]) hx hb dc_L_trim_12 rfl hl (by decide) rfl (fun ls hl => ?_)
  refine lv_iconst (v := 1) hx hb dc_L_trim_13 (by decide) ?_
  have hP9 := hP.sub (ws' := [(aB, .inr (6, [.ref aT, .ref aF, .ref aQ, .int fk, .int fp])), (aT, .inr (5, [.ref aR, .int (nI k), .int ch])), (aR, .inl (cA, n, .inl f)), (aO, .inl (cJ, 1, .inr (.inl fo)))]) [1, 2, 3, 0] rfl
  have hD9 := hD.sub (ws' := [(aB, .inr (6, [.ref aT, .ref aF, .ref aQ, .int fk, .int fp])), (aT, .inr (5, [.ref aR, .int (nI k), .int ch])), (aR, .inl (cA, n, .inl f)), (aO, .inl (cJ, 1, .inr (.inl fo)))]) [1, 2, 3, 0] (by decide) rfl
  have hK9 := hK.sub (tys' := [(cA, .byte), (cJ, .long)]) [0, 1] rfl
  refine W.widen (k := 1) (n := 6) (by omega) (by omega) ?_
  exact W.iret (v := 1) hx hb hr (fun t ht hW => ⟨⟨1, (), rfl, rfl, by rw [ht]; exact hP9, va_K.moved hW.alike hK9, hD9⟩, hS.F ht⟩) hS.2.2 dc_L_trim_14

set_option maxHeartbeats 1000000 in
set_option maxRecDepth 100000 in
theorem c_L_spoil_ok (l : Launch) (dC : Nat → ClassId) (dI : Nat → Nat → Nat) (sz : Nat) (aB : Nat) (aF : Nat) (aQ : Nat) (fk : Int32) (fp : Int32) (aT : Nat) (aR : Nat) (cA : ClassId) (n : Nat) (f : Nat → Int32) (k : Nat) (ch : Int32) (j : Nat) (xs : Int32) (aO : Nat) (cJ : ClassId) (fo : Nat → Int64) (hk : k ≤ n) (hn : n ≤ 16384) (hj : j < k) (hx0 : ¬ xs < 0) (hx1 : xs ≤ 255) : Met l my_L_spoil (wBW my_L_spoil cd_L_spoil 5 (some .int) [(0, 10, 13, 19)]) ({ frames := 3, cells := 0, slots := 0, locals := 65 }) (va_Pc [.ref aB, .int (nI j), .int xs, .ref aO] (PcW (dC, dI) [(aB, .inr (6, [.ref aT, .ref aF, .ref aQ, .int fk, .int fp])), (aT, .inr (5, [.ref aR, .int (nI k), .int ch])), (aR, .inl (cA, n, .inl f)), (aO, .inl (cJ, 1, .inr (.inl fo)))] [(cA, .byte), (cJ, .long)] sz)) (va_Qi (fun (r : Int32) => fun (_ : Unit) => r = 0) (fun _ => EnW (dC, dI) (va_A [(aB, .inr (6, [.ref aT, .ref aF, .ref aQ, .int fk, .int fp])), (aT, .inr (5, [.ref aR, .int (nI k), .int ch])), (aR, .inl (cA, n, .inl f)), (aO, .inl (cJ, 1, .inr (.inl fo)))] sz) [(aB, .inr (6, [.ref aT, .ref aF, .ref aQ, .int fk, .int fp])), (aT, .inr (5, [.ref aR, .int (nI k), .int 1])), (aR, .inl (cA, n, .inl (upd f j (tb f k (nI j) ^^^ xs).toInt8.toInt32))), (aO, .inl (cJ, 1, .inr (.inl (vp_updL fo 0 ((tb (upd f j (tb f k (nI j) ^^^ xs).toInt8.toInt32) k (nI j)).toInt64)))))] [(cA, .byte), (cJ, .long)]) (va_A [(aB, .inr (6, [.ref aT, .ref aF, .ref aQ, .int fk, .int fp])), (aT, .inr (5, [.ref aR, .int (nI k), .int ch])), (aR, .inl (cA, n, .inl f)), (aO, .inl (cJ, 1, .inr (.inl fo)))] sz)) 0 0 (va_A [(aB, .inr (6, [.ref aT, .ref aF, .ref aQ, .int fk, .int fp])), (aT, .inr (5, [.ref aR, .int (nI k), .int ch])), (aR, .inl (cA, n, .inl f)), (aO, .inl (cJ, 1, .inr (.inl fo)))] sz) := by
  refine va_MetW (cc := cd_L_spoil) (maxL := 5) (ret := (some .int)) (hh := [(0, 10, 13, 19)]) (by decide) rfl ?_
  intro p e s m args below meth c s₁ B hml hv
  obtain ⟨rfl, hsz, hP, hK, hD0, hG⟩ := hv
  have hx := B.exec
  have hb := B.bytes
  have hr := B.returns
  have hts := fun (w : Cond) (h : w ∈ bigT) => atoms_spec (ws := (wBW my_L_spoil cd_L_spoil 5 (some .int) [(0, 10, 13, 19)])) B.pre w (List.mem_cons_of_mem _ h)
  have hown : s.vm.findClass rn_L = some m.cls := findClass_of_methodNamed B.named
  have hlocks := B.notSynchronized
  have htb := vx_table (x := my_L_spoil) B (atoms_spec (ws := (wBW my_L_spoil cd_L_spoil 5 (some .int) [(0, 10, 13, 19)])) B.pre _ (List.mem_cons_self ..))
  subst hsz
  have hD := hD0.self (sz := s.heap.size)
  generalize hAe : va_A [(aB, .inr (6, [.ref aT, .ref aF, .ref aQ, .int fk, .int fp])), (aT, .inr (5, [.ref aR, .int (nI k), .int ch])), (aR, .inl (cA, n, .inl f)), (aO, .inl (cJ, 1, .inr (.inl fo)))] s.heap.size = A at hD hG ⊢
  have hA : ∀ q : Nat, s.heap.size ≤ q → A q := fun q h => by rw [← hAe]; exact Or.inr h
  have hS : va_S A s.heap s.heap [] := va_S.rf
  have hP : va_P (dC, dI) vwCl [(aB, .inr (6, [.ref aT, .ref aF, .ref aQ, .int fk, .int fp])), (aT, .inr (5, [.ref aR, .int (nI k), .int ch])), (aR, .inl (cA, n, .inl f)), (aO, .inl (cJ, 1, .inr (.inl fo)))] s.heap := hP
  have hl := lv_entry ([.ref aB, .int (nI j), .int xs, .ref aO]) (n := 5) (Nat.le_of_ble_eq_true rfl)
  rw [lg_entry_eq]
  generalize (lg_sl ([.ref aB, .int (nI j), .int xs, .ref aO]) ++ List.replicate (5 - (lg_sl ([.ref aB, .int (nI j), .int xs, .ref aO])).length) Slot.unset).toArray = ls at hl ⊢
  have hl : lv_has ls 5 [(0, .ref aB), (1, .int (nI j)), (2, .int xs), (3, .ref aO)] := hl
  refine lv_aload_n hx hb dc_L_spoil_0 rfl (lv_at hl 3 rfl) ?_
  refine lv_iconst (v := 0) hx hb dc_L_spoil_1 (by decide) ?_
  refine lv_aload_n hx hb dc_L_spoil_2 rfl (lv_at hl 0 rfl) ?_
  refine lv_iload_n hx hb dc_L_spoil_3 rfl (lv_at hl 1 rfl) ?_
  refine lv_iload_n hx hb dc_L_spoil_4 rfl (lv_at hl 2 rfl) ?_
  refine kc_i (wc := [(aB, .inr (6, [.ref aT, .ref aF, .ref aQ, .int fk, .int fp])), (aT, .inr (5, [.ref aR, .int (nI k), .int ch])), (aR, .inl (cA, n, .inl f))]) (wr := [(aO, .inl (cJ, 1, .inr (.inl fo)))]) hP hD hS hA [0, 1, 2] [3] rfl rfl (by decide) (by decide) (va_runV (As := [.int (nI j), .int xs]) (rest := [.int 0, .ref aO]) ⟨hx, hb, hml, hown, hts⟩ (c_B_spoil_ok l dC dI _ aB aF aQ fk fp aT aR cA n f k ch j xs (hk) (hn) (hj) (hx0) (hx1)) (kw_V 2 hts bw2_103 bw2_104 bw2_105 bw1_1 bw2_106 rfl rfl (by decide +kernel) ⟨Nat.le_of_ble_eq_true rfl, Nat.le_of_ble_eq_true rfl⟩) (kp_V (wc := [(aB, .inr (6, [.ref aT, .ref aF, .ref aQ, .int fk, .int fp])), (aT, .inr (5, [.ref aR, .int (nI k), .int ch])), (aR, .inl (cA, n, .inl f))]) (tc := [(cA, .byte)]) (As := [.int (nI j), .int xs]) hG hS hA hP hD hK [0, 1, 2] rfl (by decide) rfl [0] rfl (ci := 6) (q0 := 0) rfl rfl) rfl rfl hl.1 rfl (lv_room (Nat.le_of_ble_eq_true rfl)) dc_L_spoil_5 ⟨Nat.zero_le _, Nat.zero_le _⟩) (fun r_1 _ H locs hw hP hD hK1 hS => ?_)
  have hw : tb (upd f j (tb f k (nI j) ^^^ xs).toInt8.toInt32) k (nI j) = r_1 := hw.symm
  subst hw
  have hP : va_P (dC, dI) vwCl [(aO, .inl (cJ, 1, .inr (.inl fo))), (aB, .inr (6, [.ref aT, .ref aF, .ref aQ, .int fk, .int fp])), (aT, .inr (5, [.ref aR, .int (nI k), .int 1])), (aR, .inl (cA, n, .inl (upd f j (tb f k (nI j) ^^^ xs).toInt8.toInt32)))] H := hP
  have hD : va_D A [(aO, .inl (cJ, 1, .inr (.inl fo))), (aB, .inr (6, [.ref aT, .ref aF, .ref aQ, .int fk, .int fp])), (aT, .inr (5, [.ref aR, .int (nI k), .int 1])), (aR, .inl (cA, n, .inl (upd f j (tb f k (nI j) ^^^ xs).toInt8.toInt32)))] := hD
  refine lv_i2l (v := (tb (upd f j (tb f k (nI j) ^^^ xs).toInt8.toInt32) k (nI j)).toInt64) hx hb dc_L_spoil_8 rfl ?_
  rw [show (0 : Int32) = nI 0 from rfl]
  refine va_last hx hb hK hP hD hS 0 1 rfl rfl (vp_in_nI (by omega) (by omega)) dc_L_spoil_9 (fun H locs hP hD hS => ?_)
  rw [show (nI 0).toNatClampNeg = 0 from nI_clamp (by omega)] at hP hD
  have hP : va_P (dC, dI) vwCl [(aO, .inl (cJ, 1, .inr (.inl (vp_updL fo 0 ((tb (upd f j (tb f k (nI j) ^^^ xs).toInt8.toInt32) k (nI j)).toInt64))))), (aB, .inr (6, [.ref aT, .ref aF, .ref aQ, .int fk, .int fp])), (aT, .inr (5, [.ref aR, .int (nI k), .int 1])), (aR, .inl (cA, n, .inl (upd f j (tb f k (nI j) ^^^ xs).toInt8.toInt32)))] H := hP
  have hD : va_D A [(aO, .inl (cJ, 1, .inr (.inl (vp_updL fo 0 ((tb (upd f j (tb f k (nI j) ^^^ xs).toInt8.toInt32) k (nI j)).toInt64))))), (aB, .inr (6, [.ref aT, .ref aF, .ref aQ, .int fk, .int fp])), (aT, .inr (5, [.ref aR, .int (nI k), .int 1])), (aR, .inl (cA, n, .inl (upd f j (tb f k (nI j) ^^^ xs).toInt8.toInt32)))] := hD
  refine lv_goto (tgt := 17) hx hb dc_L_spoil_10 (by decide) ?_
  refine lv_iconst (v := 0) hx hb dc_L_spoil_17 (by decide) ?_
  have hP9 := hP.sub (ws' := [(aB, .inr (6, [.ref aT, .ref aF, .ref aQ, .int fk, .int fp])), (aT, .inr (5, [.ref aR, .int (nI k), .int 1])), (aR, .inl (cA, n, .inl (upd f j (tb f k (nI j) ^^^ xs).toInt8.toInt32))), (aO, .inl (cJ, 1, .inr (.inl (vp_updL fo 0 ((tb (upd f j (tb f k (nI j) ^^^ xs).toInt8.toInt32) k (nI j)).toInt64)))))]) [1, 2, 3, 0] rfl
  have hD9 := hD.sub (ws' := [(aB, .inr (6, [.ref aT, .ref aF, .ref aQ, .int fk, .int fp])), (aT, .inr (5, [.ref aR, .int (nI k), .int 1])), (aR, .inl (cA, n, .inl (upd f j (tb f k (nI j) ^^^ xs).toInt8.toInt32))), (aO, .inl (cJ, 1, .inr (.inl (vp_updL fo 0 ((tb (upd f j (tb f k (nI j) ^^^ xs).toInt8.toInt32) k (nI j)).toInt64)))))]) [1, 2, 3, 0] (by decide) rfl
  have hK9 := hK.sub (tys' := [(cA, .byte), (cJ, .long)]) [0, 1] rfl
  exact W.iret (v := 0) hx hb hr (fun t ht hW => ⟨⟨0, (), rfl, rfl, by rw [ht]; exact hP9, va_K.moved hW.alike hK9, hD9⟩, hS.F ht⟩) hS.2.2 dc_L_spoil_18

set_option maxHeartbeats 1000000 in
set_option maxRecDepth 100000 in
theorem c_L_spoil_bad (l : Launch) (dC : Nat → ClassId) (dI : Nat → Nat → Nat) (sz : Nat) (aB : Nat) (aF : Nat) (aQ : Nat) (fk : Int32) (fp : Int32) (aT : Nat) (aR : Nat) (cA : ClassId) (n : Nat) (f : Nat → Int32) (k : Nat) (ch : Int32) (xi : Int32) (xs : Int32) (aO : Nat) (cJ : ClassId) (fo : Nat → Int64) (hk : k ≤ n) (hn : n ≤ 16384) (hbad : hasC k xi = 0 ∨ xs < 0 ∨ ¬ xs ≤ 255) (hst : l.stackTraces = false) : Met l my_L_spoil (wBW my_L_spoil cd_L_spoil 5 (some .int) [(0, 10, 13, 19)]) ({ frames := 7, cells := 1, slots := 6, locals := 104 }) (va_Pc [.ref aB, .int xi, .int xs, .ref aO] (PcW (dC, dI) [(aB, .inr (6, [.ref aT, .ref aF, .ref aQ, .int fk, .int fp])), (aT, .inr (5, [.ref aR, .int (nI k), .int ch])), (aR, .inl (cA, n, .inl f)), (aO, .inl (cJ, 1, .inr (.inl fo)))] [(cA, .byte), (cJ, .long)] sz)) (va_Qi (fun (r : Int32) => fun (_ : Unit) => r = 1) (fun _ => EnW (dC, dI) (va_A [(aB, .inr (6, [.ref aT, .ref aF, .ref aQ, .int fk, .int fp])), (aT, .inr (5, [.ref aR, .int (nI k), .int ch])), (aR, .inl (cA, n, .inl f)), (aO, .inl (cJ, 1, .inr (.inl fo)))] sz) [(aB, .inr (6, [.ref aT, .ref aF, .ref aQ, .int fk, .int fp])), (aT, .inr (5, [.ref aR, .int (nI k), .int ch])), (aR, .inl (cA, n, .inl f)), (aO, .inl (cJ, 1, .inr (.inl fo)))] [(cA, .byte), (cJ, .long)]) (va_A [(aB, .inr (6, [.ref aT, .ref aF, .ref aQ, .int fk, .int fp])), (aT, .inr (5, [.ref aR, .int (nI k), .int ch])), (aR, .inl (cA, n, .inl f)), (aO, .inl (cJ, 1, .inr (.inl fo)))] sz)) 1 6 (va_A [(aB, .inr (6, [.ref aT, .ref aF, .ref aQ, .int fk, .int fp])), (aT, .inr (5, [.ref aR, .int (nI k), .int ch])), (aR, .inl (cA, n, .inl f)), (aO, .inl (cJ, 1, .inr (.inl fo)))] sz) := by
  refine va_MetW (cc := cd_L_spoil) (maxL := 5) (ret := (some .int)) (hh := [(0, 10, 13, 19)]) (by decide) rfl ?_
  intro p e s m args below meth c s₁ B hml hv
  obtain ⟨rfl, hsz, hP, hK, hD0, hG⟩ := hv
  have hx := B.exec
  have hb := B.bytes
  have hr := B.returns
  have hts := fun (w : Cond) (h : w ∈ bigT) => atoms_spec (ws := (wBW my_L_spoil cd_L_spoil 5 (some .int) [(0, 10, 13, 19)])) B.pre w (List.mem_cons_of_mem _ h)
  have hown : s.vm.findClass rn_L = some m.cls := findClass_of_methodNamed B.named
  have hlocks := B.notSynchronized
  have htb := vx_table (x := my_L_spoil) B (atoms_spec (ws := (wBW my_L_spoil cd_L_spoil 5 (some .int) [(0, 10, 13, 19)])) B.pre _ (List.mem_cons_self ..))
  subst hsz
  have hD := hD0.self (sz := s.heap.size)
  generalize hAe : va_A [(aB, .inr (6, [.ref aT, .ref aF, .ref aQ, .int fk, .int fp])), (aT, .inr (5, [.ref aR, .int (nI k), .int ch])), (aR, .inl (cA, n, .inl f)), (aO, .inl (cJ, 1, .inr (.inl fo)))] s.heap.size = A at hD hG ⊢
  have hA : ∀ q : Nat, s.heap.size ≤ q → A q := fun q h => by rw [← hAe]; exact Or.inr h
  have hS : va_S A s.heap s.heap [] := va_S.rf
  have hP : va_P (dC, dI) vwCl [(aB, .inr (6, [.ref aT, .ref aF, .ref aQ, .int fk, .int fp])), (aT, .inr (5, [.ref aR, .int (nI k), .int ch])), (aR, .inl (cA, n, .inl f)), (aO, .inl (cJ, 1, .inr (.inl fo)))] s.heap := hP
  have hl := lv_entry ([.ref aB, .int xi, .int xs, .ref aO]) (n := 5) (Nat.le_of_ble_eq_true rfl)
  rw [lg_entry_eq]
  generalize (lg_sl ([.ref aB, .int xi, .int xs, .ref aO]) ++ List.replicate (5 - (lg_sl ([.ref aB, .int xi, .int xs, .ref aO])).length) Slot.unset).toArray = ls at hl ⊢
  have hl : lv_has ls 5 [(0, .ref aB), (1, .int xi), (2, .int xs), (3, .ref aO)] := hl
  refine lv_aload_n hx hb dc_L_spoil_0 rfl (lv_at hl 3 rfl) ?_
  refine lv_iconst (v := 0) hx hb dc_L_spoil_1 (by decide) ?_
  refine lv_aload_n hx hb dc_L_spoil_2 rfl (lv_at hl 0 rfl) ?_
  refine lv_iload_n hx hb dc_L_spoil_3 rfl (lv_at hl 1 rfl) ?_
  refine lv_iload_n hx hb dc_L_spoil_4 rfl (lv_at hl 2 rfl) ?_
  refine kcx_i (wc := [(aB, .inr (6, [.ref aT, .ref aF, .ref aQ, .int fk, .int fp])), (aT, .inr (5, [.ref aR, .int (nI k), .int ch])), (aR, .inl (cA, n, .inl f))]) (wr := [(aO, .inl (cJ, 1, .inr (.inl fo)))]) hP hD hS hA [0, 1, 2] [3] rfl rfl (by decide) (by decide) (vx_runV (As := [.int xi, .int xs]) (rest := [.int 0, .ref aO]) ⟨hx, hb, hml, hown, hts⟩ (c_B_spoil_bad l dC dI _ aB aF aQ fk fp aT aR cA n f k ch xi xs (hk) (hn) (hbad) hst) (kw_V 2 hts bw2_103 bw2_104 bw2_105 bw1_1 bw2_106 rfl rfl (by decide +kernel) ⟨Nat.le_of_ble_eq_true rfl, Nat.le_of_ble_eq_true rfl⟩) (kp_V (wc := [(aB, .inr (6, [.ref aT, .ref aF, .ref aQ, .int fk, .int fp])), (aT, .inr (5, [.ref aR, .int (nI k), .int ch])), (aR, .inl (cA, n, .inl f))]) (tc := [(cA, .byte)]) (As := [.int xi, .int xs]) hG hS hA hP hD hK [0, 1, 2] rfl (by decide) rfl [0] rfl (ci := 6) (q0 := 0) rfl rfl) rfl rfl hl.1 rfl (lv_room (Nat.le_of_ble_eq_true rfl)) dc_L_spoil_5 ⟨by show _ ≤ 1; omega, by show _ ≤ 6; omega⟩) (fun _ ce q_1 H locs hP hD hK1 hS h1 h2 h3 => ?_)
  refine vx_catch (own := "BatchBytesLaw") hown [] ⟨0, 10, 13, 19⟩ [] (htb.trans rfl) (fun z hz => nomatch hz) (by decide) (by decide) (hts _ bw2_75) (nd_use hG.1 (.castable "java/lang/IllegalArgumentException" "java/lang/IllegalArgumentException") (by decide +kernel)) h1 h2 h3 ?_
  have hP : va_P (dC, dI) vwCl [(aO, .inl (cJ, 1, .inr (.inl fo))), (aB, .inr (6, [.ref aT, .ref aF, .ref aQ, .int fk, .int fp])), (aT, .inr (5, [.ref aR, .int (nI k), .int ch])), (aR, .inl (cA, n, .inl f))] H := hP
  have hD : va_D A [(aO, .inl (cJ, 1, .inr (.inl fo))), (aB, .inr (6, [.ref aT, .ref aF, .ref aQ, .int fk, .int fp])), (aT, .inr (5, [.ref aR, .int (nI k), .int ch])), (aR, .inl (cA, n, .inl f))] := hD
  refine lv_astore (lv' := [(4, .ref q_1), (0, .ref aB), (1, .int xi), (2, .int xs), (3, .ref aO)]) hx hb dc_L_spoil_13 hl (by decide) rfl (fun ls hl => ?_)
  refine lv_iconst (v := 1) hx hb dc_L_spoil_15 (by decide) ?_
  have hP9 := hP.sub (ws' := [(aB, .inr (6, [.ref aT, .ref aF, .ref aQ, .int fk, .int fp])), (aT, .inr (5, [.ref aR, .int (nI k), .int ch])), (aR, .inl (cA, n, .inl f)), (aO, .inl (cJ, 1, .inr (.inl fo)))]) [1, 2, 3, 0] rfl
  have hD9 := hD.sub (ws' := [(aB, .inr (6, [.ref aT, .ref aF, .ref aQ, .int fk, .int fp])), (aT, .inr (5, [.ref aR, .int (nI k), .int ch])), (aR, .inl (cA, n, .inl f)), (aO, .inl (cJ, 1, .inr (.inl fo)))]) [1, 2, 3, 0] (by decide) rfl
  have hK9 := hK.sub (tys' := [(cA, .byte), (cJ, .long)]) [0, 1] rfl
  refine W.widen (k := 1) (n := 6) (by omega) (by omega) ?_
  exact W.iret (v := 1) hx hb hr (fun t ht hW => ⟨⟨1, (), rfl, rfl, by rw [ht]; exact hP9, va_K.moved hW.alike hK9, hD9⟩, hS.F ht⟩) hS.2.2 dc_L_spoil_16

set_option maxHeartbeats 1000000 in
set_option maxRecDepth 100000 in
theorem c_L_record_ok (l : Launch) (dC : Nat → ClassId) (dI : Nat → Nat → Nat) (sz : Nat) (eE : Nat) (aB : Nat) (aT : Nat) (aQ : Nat) (fk : Int32) (fp : Int32) (aF : Nat) (aL : Nat) (dn : Nat) (wt : Nat) (lt : Int32) (md : Int32) (ea : Nat) (N : Nat) (cO : ClassId) (ln : Nat) (gs : Nat → GR) (pl : va_W) (gn : Nat) (gy : Int64) (kb : Int32) (gx : Int64) (vb : Int32) (la : Int32) (aO : Nat) (cJ : ClassId) (fo : Nat → Int64) (hg1 : 1 ≤ gn) (hg2 : gn ≤ 100) (hr1 : ¬ kb < -1) (hr2 : kb ≤ 8) (hr3 : ¬ vb < -1) (hr4 : vb ≤ 300) (hr5 : ¬ la < 0) (hr6 : la ≤ 1000000) (hdn : dn + gn ≤ 1000) (hwt : wt + gwN kb vb la dn gn ≤ 16000) (hls : LSx eE pl ea N ln cO gs) (hln : ln ≤ 40000) : Met l my_L_record (wBW my_L_record cd_L_record 11 (some .int) [(0, 19, 22, 19), (0, 19, 26, 13)]) ({ frames := 9, cells := 1 + lgC N ln, slots := 6 + lgS N ln, locals := 212 }) (va_Pc [.ref aB, .int (nI gn), .long gy, .int kb, .long gx, .int vb, .int la, .ref aO] (PcE (dC, dI) eE ([(aB, .inr (6, [.ref aT, .ref aF, .ref aQ, .int fk, .int fp])), (aF, .inr (1, [.ref aL, .int (nI dn), .int (nI wt), .int lt])), (aL, .inr (0, [.int md, .ref ea, .int (nI N)])), (aO, .inl (cJ, 1, .inr (.inl fo)))] ++ pl) [(cO, .object "java/lang/Object"), (cJ, .long)] sz)) (va_Qi (fun (r : Int32) => fun (u : va_W × Nat) => r = 0 ∧ LSx eE u.1 u.2 (N + 1) (lgN N ln) cO (va_up gs N (gn, gy, kb, gx, vb, la))) (fun u => EnW (dC, dI) (va_A ([(aB, .inr (6, [.ref aT, .ref aF, .ref aQ, .int fk, .int fp])), (aF, .inr (1, [.ref aL, .int (nI dn), .int (nI wt), .int lt])), (aL, .inr (0, [.int md, .ref ea, .int (nI N)])), (aO, .inl (cJ, 1, .inr (.inl fo)))] ++ pl) sz) ([(aB, .inr (6, [.ref aT, .ref aF, .ref aQ, .int fk, .int fp])), (aF, .inr (1, [.ref aL, .int (nI (dn + gn)), .int (nI (wt + gwN kb vb la dn gn)), .int (if lt < la + nI gn - 1 then la + nI gn - 1 else lt)])), (aL, .inr (0, [.int (md + 1), .ref u.2, .int (nI (N + 1))])), (aO, .inl (cJ, 1, .inr (.inl (vp_updL fo 0 ((nI (dn + gn)).toInt64)))))] ++ u.1) [(cO, .object "java/lang/Object"), (cJ, .long)]) (va_A ([(aB, .inr (6, [.ref aT, .ref aF, .ref aQ, .int fk, .int fp])), (aF, .inr (1, [.ref aL, .int (nI dn), .int (nI wt), .int lt])), (aL, .inr (0, [.int md, .ref ea, .int (nI N)])), (aO, .inl (cJ, 1, .inr (.inl fo)))] ++ pl) sz)) (1 + lgC N ln) (6 + lgS N ln) (va_A ([(aB, .inr (6, [.ref aT, .ref aF, .ref aQ, .int fk, .int fp])), (aF, .inr (1, [.ref aL, .int (nI dn), .int (nI wt), .int lt])), (aL, .inr (0, [.int md, .ref ea, .int (nI N)])), (aO, .inl (cJ, 1, .inr (.inl fo)))] ++ pl) sz) := by
  refine va_MetW (cc := cd_L_record) (maxL := 11) (ret := (some .int)) (hh := [(0, 19, 22, 19), (0, 19, 26, 13)]) (by decide) rfl ?_
  intro p e s m args below meth c s₁ B hml hv
  obtain ⟨rfl, ⟨hsz, hP, hK, hD0, hG⟩, hE⟩ := hv
  have hx := B.exec
  have hb := B.bytes
  have hr := B.returns
  have hts := fun (w : Cond) (h : w ∈ bigT) => atoms_spec (ws := (wBW my_L_record cd_L_record 11 (some .int) [(0, 19, 22, 19), (0, 19, 26, 13)])) B.pre w (List.mem_cons_of_mem _ h)
  have hown : s.vm.findClass rn_L = some m.cls := findClass_of_methodNamed B.named
  have hlocks := B.notSynchronized
  have htb := vx_table (x := my_L_record) B (atoms_spec (ws := (wBW my_L_record cd_L_record 11 (some .int) [(0, 19, 22, 19), (0, 19, 26, 13)])) B.pre _ (List.mem_cons_self ..))
  subst hsz
  have hD := hD0.self (sz := s.heap.size)
  generalize hAe : va_A ([(aB, .inr (6, [.ref aT, .ref aF, .ref aQ, .int fk, .int fp])), (aF, .inr (1, [.ref aL, .int (nI dn), .int (nI wt), .int lt])), (aL, .inr (0, [.int md, .ref ea, .int (nI N)])), (aO, .inl (cJ, 1, .inr (.inl fo)))] ++ pl) s.heap.size = A at hD hG hE ⊢
  have gE1 := hE.1
  have gE2 := hE.2
  have hA : ∀ q : Nat, s.heap.size ≤ q → A q := fun q h => by rw [← hAe]; exact Or.inr h
  have hS : va_S A s.heap s.heap [] := va_S.rf
  have hP : va_P (dC, dI) vwCl ([(aB, .inr (6, [.ref aT, .ref aF, .ref aQ, .int fk, .int fp])), (aF, .inr (1, [.ref aL, .int (nI dn), .int (nI wt), .int lt])), (aL, .inr (0, [.int md, .ref ea, .int (nI N)])), (aO, .inl (cJ, 1, .inr (.inl fo)))] ++ pl) s.heap := hP
  have hl := lv_entry ([.ref aB, .int (nI gn), .long gy, .int kb, .long gx, .int vb, .int la, .ref aO]) (n := 11) (Nat.le_of_ble_eq_true rfl)
  rw [lg_entry_eq]
  generalize (lg_sl ([.ref aB, .int (nI gn), .long gy, .int kb, .long gx, .int vb, .int la, .ref aO]) ++ List.replicate (11 - (lg_sl ([.ref aB, .int (nI gn), .long gy, .int kb, .long gx, .int vb, .int la, .ref aO])).length) Slot.unset).toArray = ls at hl ⊢
  have hl : lv_has ls 11 [(0, .ref aB), (1, .int (nI gn)), (2, .long gy), (4, .int kb), (5, .long gx), (7, .int vb), (8, .int la), (9, .ref aO)] := hl
  refine lv_aload hx hb dc_L_record_0 (lv_at hl 7 rfl) ?_
  refine lv_iconst (v := 0) hx hb dc_L_record_2 (by decide) ?_
  refine lv_aload_n hx hb dc_L_record_3 rfl (lv_at hl 0 rfl) ?_
  refine lv_iload_n hx hb dc_L_record_4 rfl (lv_at hl 1 rfl) ?_
  refine lv_lload_n hx hb dc_L_record_5 rfl (lv_at hl 2 rfl) ?_
  refine lv_iload hx hb dc_L_record_6 (lv_at hl 3 rfl) ?_
  refine lv_lload hx hb dc_L_record_8 (lv_at hl 4 rfl) ?_
  refine lv_iload hx hb dc_L_record_10 (lv_at hl 5 rfl) ?_
  refine lv_iload hx hb dc_L_record_12 (lv_at hl 6 rfl) ?_
  refine kc_iP (X := [(aB, .inr (6, [.ref aT, .ref aF, .ref aQ, .int fk, .int fp])), (aF, .inr (1, [.ref aL, .int (nI dn), .int (nI wt), .int lt])), (aL, .inr (0, [.int md, .ref ea, .int (nI N)])), (aO, .inl (cJ, 1, .inr (.inl fo)))]) (cx := [(aB, .inr (6, [.ref aT, .ref aF, .ref aQ, .int fk, .int fp])), (aF, .inr (1, [.ref aL, .int (nI dn), .int (nI wt), .int lt])), (aL, .inr (0, [.int md, .ref ea, .int (nI N)]))]) (wr := [(aO, .inl (cJ, 1, .inr (.inl fo)))]) (pl := pl) hP hD hS hA [0, 1, 2] [3] rfl rfl (by decide) (by decide) (va_runV (As := [.int (nI gn), .long gy, .int kb, .long gx, .int vb, .int la]) (rest := [.int 0, .ref aO]) ⟨hx, hb, hml, hown, hts⟩ (c_B_record_ok l dC dI _ eE aB aT aQ fk fp aF aL dn wt lt md ea N cO ln gs pl gn gy kb gx vb la (hg1) (hg2) (hr1) (hr2) (hr3) (hr4) (hr5) (hr6) (hdn) (hwt) (hls) (hln)) (kw_V 6 hts bw2_118 bw2_119 bw2_120 bw1_1 bw2_121 rfl rfl (by decide +kernel) ⟨Nat.le_of_ble_eq_true rfl, Nat.le_of_ble_eq_true rfl⟩) (kp_VPE (cx := [(aB, .inr (6, [.ref aT, .ref aF, .ref aQ, .int fk, .int fp])), (aF, .inr (1, [.ref aL, .int (nI dn), .int (nI wt), .int lt])), (aL, .inr (0, [.int md, .ref ea, .int (nI N)]))]) (pl := pl) (tc := [(cO, .object "java/lang/Object")]) (As := [.int (nI gn), .long gy, .int kb, .long gx, .int vb, .int la]) hE hG hS hA hP hD hK [0, 1, 2] (by decide) rfl [0] rfl (ci := 6) (q0 := 0) rfl rfl) rfl rfl hl.1 rfl (lv_room (Nat.le_of_ble_eq_true rfl)) dc_L_record_14 ⟨by show _ ≤ 1 + lgC N ln; omega, by show _ ≤ 6 + lgS N ln; omega⟩) (fun r_3 u_4 H locs hw hP hD hK1 hS => ?_)
  obtain ⟨pl1_1, ea1_2⟩ := u_4
  obtain ⟨rfl, h_5⟩ := hw
  have h_5 : LSx eE pl1_1 ea1_2 (N + 1) (lgN N ln) cO (va_up gs N (gn, gy, kb, gx, vb, la)) := h_5
  have hP : va_P (dC, dI) vwCl ([(aO, .inl (cJ, 1, .inr (.inl fo))), (aB, .inr (6, [.ref aT, .ref aF, .ref aQ, .int fk, .int fp])), (aF, .inr (1, [.ref aL, .int (nI (dn + gn)), .int (nI (wt + gwN kb vb la dn gn)), .int (if lt < la + nI gn - 1 then la + nI gn - 1 else lt)])), (aL, .inr (0, [.int (md + 1), .ref ea1_2, .int (nI (N + 1))]))] ++ pl1_1) H := hP
  have hD : va_D A ([(aO, .inl (cJ, 1, .inr (.inl fo))), (aB, .inr (6, [.ref aT, .ref aF, .ref aQ, .int fk, .int fp])), (aF, .inr (1, [.ref aL, .int (nI (dn + gn)), .int (nI (wt + gwN kb vb la dn gn)), .int (if lt < la + nI gn - 1 then la + nI gn - 1 else lt)])), (aL, .inr (0, [.int (md + 1), .ref ea1_2, .int (nI (N + 1))]))] ++ pl1_1) := hD
  refine lv_i2l (v := (nI (dn + gn)).toInt64) hx hb dc_L_record_17 rfl ?_
  rw [show (0 : Int32) = nI 0 from rfl]
  refine va_last hx hb hK hP hD hS 0 1 rfl rfl (vp_in_nI (by omega) (by omega)) dc_L_record_18 (fun H locs hP hD hS => ?_)
  rw [show (nI 0).toNatClampNeg = 0 from nI_clamp (by omega)] at hP hD
  have hP : va_P (dC, dI) vwCl ([(aO, .inl (cJ, 1, .inr (.inl (vp_updL fo 0 ((nI (dn + gn)).toInt64))))), (aB, .inr (6, [.ref aT, .ref aF, .ref aQ, .int fk, .int fp])), (aF, .inr (1, [.ref aL, .int (nI (dn + gn)), .int (nI (wt + gwN kb vb la dn gn)), .int (if lt < la + nI gn - 1 then la + nI gn - 1 else lt)])), (aL, .inr (0, [.int (md + 1), .ref ea1_2, .int (nI (N + 1))]))] ++ pl1_1) H := hP
  have hD : va_D A ([(aO, .inl (cJ, 1, .inr (.inl (vp_updL fo 0 ((nI (dn + gn)).toInt64))))), (aB, .inr (6, [.ref aT, .ref aF, .ref aQ, .int fk, .int fp])), (aF, .inr (1, [.ref aL, .int (nI (dn + gn)), .int (nI (wt + gwN kb vb la dn gn)), .int (if lt < la + nI gn - 1 then la + nI gn - 1 else lt)])), (aL, .inr (0, [.int (md + 1), .ref ea1_2, .int (nI (N + 1))]))] ++ pl1_1) := hD
  refine lv_goto (tgt := 30) hx hb dc_L_record_19 (by decide) ?_
  refine lv_iconst (v := 0) hx hb dc_L_record_30 (by decide) ?_
  have hP9 : va_P (dC, dI) vwCl ([(aB, .inr (6, [.ref aT, .ref aF, .ref aQ, .int fk, .int fp])), (aF, .inr (1, [.ref aL, .int (nI (dn + gn)), .int (nI (wt + gwN kb vb la dn gn)), .int (if lt < la + nI gn - 1 then la + nI gn - 1 else lt)])), (aL, .inr (0, [.int (md + 1), .ref ea1_2, .int (nI (N + 1))])), (aO, .inl (cJ, 1, .inr (.inl (vp_updL fo 0 ((nI (dn + gn)).toInt64)))))] ++ pl1_1) H := hP.part (cx := [(aB, .inr (6, [.ref aT, .ref aF, .ref aQ, .int fk, .int fp])), (aF, .inr (1, [.ref aL, .int (nI (dn + gn)), .int (nI (wt + gwN kb vb la dn gn)), .int (if lt < la + nI gn - 1 then la + nI gn - 1 else lt)])), (aL, .inr (0, [.int (md + 1), .ref ea1_2, .int (nI (N + 1))])), (aO, .inl (cJ, 1, .inr (.inl (vp_updL fo 0 ((nI (dn + gn)).toInt64)))))]) (pl := pl1_1) [1, 2, 3, 0] rfl
  have hD9 : va_D A ([(aB, .inr (6, [.ref aT, .ref aF, .ref aQ, .int fk, .int fp])), (aF, .inr (1, [.ref aL, .int (nI (dn + gn)), .int (nI (wt + gwN kb vb la dn gn)), .int (if lt < la + nI gn - 1 then la + nI gn - 1 else lt)])), (aL, .inr (0, [.int (md + 1), .ref ea1_2, .int (nI (N + 1))])), (aO, .inl (cJ, 1, .inr (.inl (vp_updL fo 0 ((nI (dn + gn)).toInt64)))))] ++ pl1_1) := hD.part (cx := [(aB, .inr (6, [.ref aT, .ref aF, .ref aQ, .int fk, .int fp])), (aF, .inr (1, [.ref aL, .int (nI (dn + gn)), .int (nI (wt + gwN kb vb la dn gn)), .int (if lt < la + nI gn - 1 then la + nI gn - 1 else lt)])), (aL, .inr (0, [.int (md + 1), .ref ea1_2, .int (nI (N + 1))])), (aO, .inl (cJ, 1, .inr (.inl (vp_updL fo 0 ((nI (dn + gn)).toInt64)))))]) (pl := pl1_1) [1, 2, 3, 0] (by decide) rfl
  have hK9 := hK.sub (tys' := [(cO, .object "java/lang/Object"), (cJ, .long)]) [0, 1] rfl
  refine W.widen (k := 1 + lgC N ln) (n := 6 + lgS N ln) (by omega) (by omega) ?_
  exact W.iret (v := 0) hx hb hr (fun t ht hW => ⟨⟨0, (pl1_1, ea1_2), rfl, ⟨rfl, h_5⟩, by rw [ht]; exact hP9, va_K.moved hW.alike hK9, hD9⟩, hS.F ht⟩) hS.2.2 dc_L_record_31

set_option maxHeartbeats 1000000 in
set_option maxRecDepth 100000 in
theorem c_L_record_arg (l : Launch) (dC : Nat → ClassId) (dI : Nat → Nat → Nat) (sz : Nat) (aB : Nat) (aT : Nat) (aF : Nat) (aQ : Nat) (fk : Int32) (fp : Int32) (xn : Int32) (gy : Int64) (kb : Int32) (gx : Int64) (vb : Int32) (la : Int32) (aO : Nat) (cJ : ClassId) (fo : Nat → Int64) (hbad : xn < 1 ∨ ¬ xn ≤ 100 ∨ kb < -1 ∨ ¬ kb ≤ 8 ∨ vb < -1 ∨ ¬ vb ≤ 300 ∨ la < 0 ∨ ¬ la ≤ 1000000) (hst : l.stackTraces = false) : Met l my_L_record (wBW my_L_record cd_L_record 11 (some .int) [(0, 19, 22, 19), (0, 19, 26, 13)]) ({ frames := 7, cells := 1, slots := 6, locals := 112 }) (va_Pc [.ref aB, .int xn, .long gy, .int kb, .long gx, .int vb, .int la, .ref aO] (PcW (dC, dI) [(aB, .inr (6, [.ref aT, .ref aF, .ref aQ, .int fk, .int fp])), (aO, .inl (cJ, 1, .inr (.inl fo)))] [(cJ, .long)] sz)) (va_Qi (fun (r : Int32) => fun (_ : Unit) => r = 1) (fun _ => EnW (dC, dI) (va_A [(aB, .inr (6, [.ref aT, .ref aF, .ref aQ, .int fk, .int fp])), (aO, .inl (cJ, 1, .inr (.inl fo)))] sz) [(aB, .inr (6, [.ref aT, .ref aF, .ref aQ, .int fk, .int fp])), (aO, .inl (cJ, 1, .inr (.inl fo)))] [(cJ, .long)]) (va_A [(aB, .inr (6, [.ref aT, .ref aF, .ref aQ, .int fk, .int fp])), (aO, .inl (cJ, 1, .inr (.inl fo)))] sz)) 1 6 (va_A [(aB, .inr (6, [.ref aT, .ref aF, .ref aQ, .int fk, .int fp])), (aO, .inl (cJ, 1, .inr (.inl fo)))] sz) := by
  refine va_MetW (cc := cd_L_record) (maxL := 11) (ret := (some .int)) (hh := [(0, 19, 22, 19), (0, 19, 26, 13)]) (by decide) rfl ?_
  intro p e s m args below meth c s₁ B hml hv
  obtain ⟨rfl, hsz, hP, hK, hD0, hG⟩ := hv
  have hx := B.exec
  have hb := B.bytes
  have hr := B.returns
  have hts := fun (w : Cond) (h : w ∈ bigT) => atoms_spec (ws := (wBW my_L_record cd_L_record 11 (some .int) [(0, 19, 22, 19), (0, 19, 26, 13)])) B.pre w (List.mem_cons_of_mem _ h)
  have hown : s.vm.findClass rn_L = some m.cls := findClass_of_methodNamed B.named
  have hlocks := B.notSynchronized
  have htb := vx_table (x := my_L_record) B (atoms_spec (ws := (wBW my_L_record cd_L_record 11 (some .int) [(0, 19, 22, 19), (0, 19, 26, 13)])) B.pre _ (List.mem_cons_self ..))
  subst hsz
  have hD := hD0.self (sz := s.heap.size)
  generalize hAe : va_A [(aB, .inr (6, [.ref aT, .ref aF, .ref aQ, .int fk, .int fp])), (aO, .inl (cJ, 1, .inr (.inl fo)))] s.heap.size = A at hD hG ⊢
  have hA : ∀ q : Nat, s.heap.size ≤ q → A q := fun q h => by rw [← hAe]; exact Or.inr h
  have hS : va_S A s.heap s.heap [] := va_S.rf
  have hP : va_P (dC, dI) vwCl [(aB, .inr (6, [.ref aT, .ref aF, .ref aQ, .int fk, .int fp])), (aO, .inl (cJ, 1, .inr (.inl fo)))] s.heap := hP
  have hl := lv_entry ([.ref aB, .int xn, .long gy, .int kb, .long gx, .int vb, .int la, .ref aO]) (n := 11) (Nat.le_of_ble_eq_true rfl)
  rw [lg_entry_eq]
  generalize (lg_sl ([.ref aB, .int xn, .long gy, .int kb, .long gx, .int vb, .int la, .ref aO]) ++ List.replicate (11 - (lg_sl ([.ref aB, .int xn, .long gy, .int kb, .long gx, .int vb, .int la, .ref aO])).length) Slot.unset).toArray = ls at hl ⊢
  have hl : lv_has ls 11 [(0, .ref aB), (1, .int xn), (2, .long gy), (4, .int kb), (5, .long gx), (7, .int vb), (8, .int la), (9, .ref aO)] := hl
  refine lv_aload hx hb dc_L_record_0 (lv_at hl 7 rfl) ?_
  refine lv_iconst (v := 0) hx hb dc_L_record_2 (by decide) ?_
  refine lv_aload_n hx hb dc_L_record_3 rfl (lv_at hl 0 rfl) ?_
  refine lv_iload_n hx hb dc_L_record_4 rfl (lv_at hl 1 rfl) ?_
  refine lv_lload_n hx hb dc_L_record_5 rfl (lv_at hl 2 rfl) ?_
  refine lv_iload hx hb dc_L_record_6 (lv_at hl 3 rfl) ?_
  refine lv_lload hx hb dc_L_record_8 (lv_at hl 4 rfl) ?_
  refine lv_iload hx hb dc_L_record_10 (lv_at hl 5 rfl) ?_
  refine lv_iload hx hb dc_L_record_12 (lv_at hl 6 rfl) ?_
  refine kcx_i (wc := [(aB, .inr (6, [.ref aT, .ref aF, .ref aQ, .int fk, .int fp]))]) (wr := [(aO, .inl (cJ, 1, .inr (.inl fo)))]) hP hD hS hA [0] [1] rfl rfl (by decide) (by decide) (vx_runV (As := [.int xn, .long gy, .int kb, .long gx, .int vb, .int la]) (rest := [.int 0, .ref aO]) ⟨hx, hb, hml, hown, hts⟩ (c_B_record_arg l dC dI _ aB aT aF aQ fk fp xn gy kb gx vb la (hbad) hst) (kw_V 6 hts bw2_118 bw2_119 bw2_120 bw1_1 bw2_121 rfl rfl (by decide +kernel) ⟨Nat.le_of_ble_eq_true rfl, Nat.le_of_ble_eq_true rfl⟩) (kp_V (wc := [(aB, .inr (6, [.ref aT, .ref aF, .ref aQ, .int fk, .int fp]))]) (tc := []) (As := [.int xn, .long gy, .int kb, .long gx, .int vb, .int la]) hG hS hA hP hD hK [0] rfl (by decide) rfl [] rfl (ci := 6) (q0 := 0) rfl rfl) rfl rfl hl.1 rfl (lv_room (Nat.le_of_ble_eq_true rfl)) dc_L_record_14 ⟨by show _ ≤ 1; omega, by show _ ≤ 6; omega⟩) (fun _ ce q_1 H locs hP hD hK1 hS h1 h2 h3 => ?_)
  refine vx_catch (own := "BatchBytesLaw") hown [] ⟨0, 19, 22, 19⟩ [⟨0, 19, 26, 13⟩] (htb.trans rfl) (fun z hz => nomatch hz) (by decide) (by decide) (hts _ bw2_75) (nd_use hG.1 (.castable "java/lang/IllegalArgumentException" "java/lang/IllegalArgumentException") (by decide +kernel)) h1 h2 h3 ?_
  have hP : va_P (dC, dI) vwCl [(aO, .inl (cJ, 1, .inr (.inl fo))), (aB, .inr (6, [.ref aT, .ref aF, .ref aQ, .int fk, .int fp]))] H := hP
  have hD : va_D A [(aO, .inl (cJ, 1, .inr (.inl fo))), (aB, .inr (6, [.ref aT, .ref aF, .ref aQ, .int fk, .int fp]))] := hD
  refine lv_astore (lv' := [(10, .ref q_1), (0, .ref aB), (1, .int xn), (2, .long gy), (4, .int kb), (5, .long gx), (7, .int vb), (8, .int la), (9, .ref aO)]) hx hb dc_L_record_22 hl (by decide) rfl (fun ls hl => ?_)
  refine lv_iconst (v := 1) hx hb dc_L_record_24 (by decide) ?_
  have hP9 := hP.sub (ws' := [(aB, .inr (6, [.ref aT, .ref aF, .ref aQ, .int fk, .int fp])), (aO, .inl (cJ, 1, .inr (.inl fo)))]) [1, 0] rfl
  have hD9 := hD.sub (ws' := [(aB, .inr (6, [.ref aT, .ref aF, .ref aQ, .int fk, .int fp])), (aO, .inl (cJ, 1, .inr (.inl fo)))]) [1, 0] (by decide) rfl
  have hK9 := hK.sub (tys' := [(cJ, .long)]) [0] rfl
  refine W.widen (k := 1) (n := 6) (by omega) (by omega) ?_
  exact W.iret (v := 1) hx hb hr (fun t ht hW => ⟨⟨1, (), rfl, rfl, by rw [ht]; exact hP9, va_K.moved hW.alike hK9, hD9⟩, hS.F ht⟩) hS.2.2 dc_L_record_25

set_option maxHeartbeats 1000000 in
set_option maxRecDepth 100000 in
theorem c_L_record_full (l : Launch) (dC : Nat → ClassId) (dI : Nat → Nat → Nat) (sz : Nat) (aB : Nat) (aT : Nat) (aF : Nat) (aQ : Nat) (fk : Int32) (fp : Int32) (aL : Nat) (dn : Nat) (wt : Nat) (lt : Int32) (gn : Nat) (gy : Int64) (kb : Int32) (gx : Int64) (vb : Int32) (la : Int32) (aO : Nat) (cJ : ClassId) (fo : Nat → Int64) (hg1 : 1 ≤ gn) (hg2 : gn ≤ 100) (hr1 : ¬ kb < -1) (hr2 : kb ≤ 8) (hr3 : ¬ vb < -1) (hr4 : vb ≤ 300) (hr5 : ¬ la < 0) (hr6 : la ≤ 1000000) (hdn : dn ≤ 1000) (hwt : wt ≤ 16000) (hbad : 1000 < dn + gn ∨ 16000 < wt + gwN kb vb la dn gn) (hst : l.stackTraces = false) : Met l my_L_record (wBW my_L_record cd_L_record 11 (some .int) [(0, 19, 22, 19), (0, 19, 26, 13)]) ({ frames := 7, cells := 2, slots := 12, locals := 142 }) (va_Pc [.ref aB, .int (nI gn), .long gy, .int kb, .long gx, .int vb, .int la, .ref aO] (PcW (dC, dI) [(aB, .inr (6, [.ref aT, .ref aF, .ref aQ, .int fk, .int fp])), (aF, .inr (1, [.ref aL, .int (nI dn), .int (nI wt), .int lt])), (aO, .inl (cJ, 1, .inr (.inl fo)))] [(cJ, .long)] sz)) (va_Qi (fun (r : Int32) => fun (_ : Unit) => r = 2) (fun _ => EnW (dC, dI) (va_A [(aB, .inr (6, [.ref aT, .ref aF, .ref aQ, .int fk, .int fp])), (aF, .inr (1, [.ref aL, .int (nI dn), .int (nI wt), .int lt])), (aO, .inl (cJ, 1, .inr (.inl fo)))] sz) [(aB, .inr (6, [.ref aT, .ref aF, .ref aQ, .int fk, .int fp])), (aF, .inr (1, [.ref aL, .int (nI dn), .int (nI wt), .int lt])), (aO, .inl (cJ, 1, .inr (.inl fo)))] [(cJ, .long)]) (va_A [(aB, .inr (6, [.ref aT, .ref aF, .ref aQ, .int fk, .int fp])), (aF, .inr (1, [.ref aL, .int (nI dn), .int (nI wt), .int lt])), (aO, .inl (cJ, 1, .inr (.inl fo)))] sz)) 2 12 (va_A [(aB, .inr (6, [.ref aT, .ref aF, .ref aQ, .int fk, .int fp])), (aF, .inr (1, [.ref aL, .int (nI dn), .int (nI wt), .int lt])), (aO, .inl (cJ, 1, .inr (.inl fo)))] sz) := by
  refine va_MetW (cc := cd_L_record) (maxL := 11) (ret := (some .int)) (hh := [(0, 19, 22, 19), (0, 19, 26, 13)]) (by decide) rfl ?_
  intro p e s m args below meth c s₁ B hml hv
  obtain ⟨rfl, hsz, hP, hK, hD0, hG⟩ := hv
  have hx := B.exec
  have hb := B.bytes
  have hr := B.returns
  have hts := fun (w : Cond) (h : w ∈ bigT) => atoms_spec (ws := (wBW my_L_record cd_L_record 11 (some .int) [(0, 19, 22, 19), (0, 19, 26, 13)])) B.pre w (List.mem_cons_of_mem _ h)
  have hown : s.vm.findClass rn_L = some m.cls := findClass_of_methodNamed B.named
  have hlocks := B.notSynchronized
  have htb := vx_table (x := my_L_record) B (atoms_spec (ws := (wBW my_L_record cd_L_record 11 (some .int) [(0, 19, 22, 19), (0, 19, 26, 13)])) B.pre _ (List.mem_cons_self ..))
  subst hsz
  have hD := hD0.self (sz := s.heap.size)
  generalize hAe : va_A [(aB, .inr (6, [.ref aT, .ref aF, .ref aQ, .int fk, .int fp])), (aF, .inr (1, [.ref aL, .int (nI dn), .int (nI wt), .int lt])), (aO, .inl (cJ, 1, .inr (.inl fo)))] s.heap.size = A at hD hG ⊢
  have hA : ∀ q : Nat, s.heap.size ≤ q → A q := fun q h => by rw [← hAe]; exact Or.inr h
  have hS : va_S A s.heap s.heap [] := va_S.rf
  have hP : va_P (dC, dI) vwCl [(aB, .inr (6, [.ref aT, .ref aF, .ref aQ, .int fk, .int fp])), (aF, .inr (1, [.ref aL, .int (nI dn), .int (nI wt), .int lt])), (aO, .inl (cJ, 1, .inr (.inl fo)))] s.heap := hP
  have hl := lv_entry ([.ref aB, .int (nI gn), .long gy, .int kb, .long gx, .int vb, .int la, .ref aO]) (n := 11) (Nat.le_of_ble_eq_true rfl)
  rw [lg_entry_eq]
  generalize (lg_sl ([.ref aB, .int (nI gn), .long gy, .int kb, .long gx, .int vb, .int la, .ref aO]) ++ List.replicate (11 - (lg_sl ([.ref aB, .int (nI gn), .long gy, .int kb, .long gx, .int vb, .int la, .ref aO])).length) Slot.unset).toArray = ls at hl ⊢
  have hl : lv_has ls 11 [(0, .ref aB), (1, .int (nI gn)), (2, .long gy), (4, .int kb), (5, .long gx), (7, .int vb), (8, .int la), (9, .ref aO)] := hl
  refine lv_aload hx hb dc_L_record_0 (lv_at hl 7 rfl) ?_
  refine lv_iconst (v := 0) hx hb dc_L_record_2 (by decide) ?_
  refine lv_aload_n hx hb dc_L_record_3 rfl (lv_at hl 0 rfl) ?_
  refine lv_iload_n hx hb dc_L_record_4 rfl (lv_at hl 1 rfl) ?_
  refine lv_lload_n hx hb dc_L_record_5 rfl (lv_at hl 2 rfl) ?_
  refine lv_iload hx hb dc_L_record_6 (lv_at hl 3 rfl) ?_
  refine lv_lload hx hb dc_L_record_8 (lv_at hl 4 rfl) ?_
  refine lv_iload hx hb dc_L_record_10 (lv_at hl 5 rfl) ?_
  refine lv_iload hx hb dc_L_record_12 (lv_at hl 6 rfl) ?_
  refine kcx_i (wc := [(aB, .inr (6, [.ref aT, .ref aF, .ref aQ, .int fk, .int fp])), (aF, .inr (1, [.ref aL, .int (nI dn), .int (nI wt), .int lt]))]) (wr := [(aO, .inl (cJ, 1, .inr (.inl fo)))]) hP hD hS hA [0, 1] [2] rfl rfl (by decide) (by decide) (vx_runV (As := [.int (nI gn), .long gy, .int kb, .long gx, .int vb, .int la]) (rest := [.int 0, .ref aO]) ⟨hx, hb, hml, hown, hts⟩ (c_B_record_full l dC dI _ aB aT aF aQ fk fp aL dn wt lt gn gy kb gx vb la (hg1) (hg2) (hr1) (hr2) (hr3) (hr4) (hr5) (hr6) (hdn) (hwt) (hbad) hst) (kw_V 6 hts bw2_118 bw2_119 bw2_120 bw1_1 bw2_121 rfl rfl (by decide +kernel) ⟨Nat.le_of_ble_eq_true rfl, Nat.le_of_ble_eq_true rfl⟩) (kp_V (wc := [(aB, .inr (6, [.ref aT, .ref aF, .ref aQ, .int fk, .int fp])), (aF, .inr (1, [.ref aL, .int (nI dn), .int (nI wt), .int lt]))]) (tc := []) (As := [.int (nI gn), .long gy, .int kb, .long gx, .int vb, .int la]) hG hS hA hP hD hK [0, 1] rfl (by decide) rfl [] rfl (ci := 6) (q0 := 0) rfl rfl) rfl rfl hl.1 rfl (lv_room (Nat.le_of_ble_eq_true rfl)) dc_L_record_14 ⟨by show _ ≤ 2; omega, by show _ ≤ 12; omega⟩) (fun _ ce q_1 H locs hP hD hK1 hS h1 h2 h3 => ?_)
  refine vx_catch (own := "BatchBytesLaw") hown [⟨0, 19, 22, 19⟩] ⟨0, 19, 26, 13⟩ [] (htb.trans rfl) (fun z hz => by rw [List.mem_singleton.mp hz]; exact Or.inr ⟨by decide, "java/lang/IllegalArgumentException", hts _ bw2_75, hG.2.2.2.2.2.2.2⟩) (by decide) (by decide) (hts _ bw1_208) (nd_use hG.1 (.castable "java/lang/IllegalStateException" "java/lang/IllegalStateException") (by decide +kernel)) h1 h2 h3 ?_
  have hP : va_P (dC, dI) vwCl [(aO, .inl (cJ, 1, .inr (.inl fo))), (aB, .inr (6, [.ref aT, .ref aF, .ref aQ, .int fk, .int fp])), (aF, .inr (1, [.ref aL, .int (nI dn), .int (nI wt), .int lt]))] H := hP
  have hD : va_D A [(aO, .inl (cJ, 1, .inr (.inl fo))), (aB, .inr (6, [.ref aT, .ref aF, .ref aQ, .int fk, .int fp])), (aF, .inr (1, [.ref aL, .int (nI dn), .int (nI wt), .int lt]))] := hD
  refine lv_astore (lv' := [(10, .ref q_1), (0, .ref aB), (1, .int (nI gn)), (2, .long gy), (4, .int kb), (5, .long gx), (7, .int vb), (8, .int la), (9, .ref aO)]) hx hb dc_L_record_26 hl (by decide) rfl (fun ls hl => ?_)
  refine lv_iconst (v := 2) hx hb dc_L_record_28 (by decide) ?_
  have hP9 := hP.sub (ws' := [(aB, .inr (6, [.ref aT, .ref aF, .ref aQ, .int fk, .int fp])), (aF, .inr (1, [.ref aL, .int (nI dn), .int (nI wt), .int lt])), (aO, .inl (cJ, 1, .inr (.inl fo)))]) [1, 2, 0] rfl
  have hD9 := hD.sub (ws' := [(aB, .inr (6, [.ref aT, .ref aF, .ref aQ, .int fk, .int fp])), (aF, .inr (1, [.ref aL, .int (nI dn), .int (nI wt), .int lt])), (aO, .inl (cJ, 1, .inr (.inl fo)))]) [1, 2, 0] (by decide) rfl
  have hK9 := hK.sub (tys' := [(cJ, .long)]) [0] rfl
  refine W.widen (k := 2) (n := 12) (by omega) (by omega) ?_
  exact W.iret (v := 2) hx hb hr (fun t ht hW => ⟨⟨2, (), rfl, rfl, by rw [ht]; exact hP9, va_K.moved hW.alike hK9, hD9⟩, hS.F ht⟩) hS.2.2 dc_L_record_29

set_option maxHeartbeats 1000000 in
set_option maxRecDepth 100000 in
theorem c_L_seal_ok (l : Launch) (dC : Nat → ClassId) (dI : Nat → Nat → Nat) (sz : Nat) (eE : Nat) (aB : Nat) (aQ : Nat) (fk : Int32) (fp : Int32) (aF : Nat) (aL : Nat) (dn : Nat) (wt : Nat) (lt : Int32) (md : Int32) (ea : Nat) (N : Nat) (cO : ClassId) (ln : Nat) (gs : Nat → GR) (pl : va_W) (aT : Nat) (aR : Nat) (cA : ClassId) (n : Nat) (f : Nat → Int32) (k : Nat) (ch : Int32) (pr : Int64) (ep : Int32) (sq : Int32) (ft : Int64) (aO : Nat) (cJ : ClassId) (fo : Nat → Int64) (hf0 : ¬ ft < 0) (hf1 : ft ≤ 562949953421312) (hsz : k + (61 + wt) ≤ 16384) (hls : LSx eE pl ea N ln cO gs) (hln : ln < 2 ^ 30) (hgs : ∀ g, g < N → (gs g).1 ≤ 100 ∧ ∀ i, i < (gs g).1 → dOk (gs g).2.2.1 (gs g).2.2.2.2.1 ((gs g).2.2.2.2.2 + nI i)) (hgn : gnum gs N ≤ 1000) (hgw : (gsL gs N).length = wt) (hk : k ≤ n) (hn : n ≤ 16384) (hfit : fitB f) : Met l my_L_seal (wBW my_L_seal cd_L_seal 9 (some .int) [(0, 15, 18, 19), (0, 15, 22, 13)]) ({ frames := 7, cells := grC n (k + (61 + wt)), slots := grS n (k + (61 + wt)), locals := 165 }) (va_Pc [.ref aB, .long pr, .int ep, .int sq, .long ft, .ref aO] (PcW (dC, dI) ([(aB, .inr (6, [.ref aT, .ref aF, .ref aQ, .int fk, .int fp])), (aF, .inr (1, [.ref aL, .int (nI dn), .int (nI wt), .int lt])), (aL, .inr (0, [.int md, .ref ea, .int (nI N)])), (aT, .inr (5, [.ref aR, .int (nI k), .int ch])), (aR, .inl (cA, n, .inl f)), (aO, .inl (cJ, 1, .inr (.inl fo)))] ++ pl) [(cO, .object "java/lang/Object"), (cA, .byte), (cJ, .long)] sz)) (va_Qi (fun (r : Int32) => fun (u : Nat × ClassId × (Nat → Int32) × va_W) => r = 0 ∧ (∀ i, i < k → u.2.2.1 i = f i) ∧ fitB u.2.2.1 ∧ LSx eE u.2.2.2 ea 0 ln cO gs) (fun u => EnW (dC, dI) (va_A ([(aB, .inr (6, [.ref aT, .ref aF, .ref aQ, .int fk, .int fp])), (aF, .inr (1, [.ref aL, .int (nI dn), .int (nI wt), .int lt])), (aL, .inr (0, [.int md, .ref ea, .int (nI N)])), (aT, .inr (5, [.ref aR, .int (nI k), .int ch])), (aR, .inl (cA, n, .inl f)), (aO, .inl (cJ, 1, .inr (.inl fo)))] ++ pl) sz) ([(aB, .inr (6, [.ref aT, .ref aF, .ref aQ, .int fk, .int fp])), (aF, .inr (1, [.ref aL, .int (nI 0), .int (nI 0), .int 0])), (aL, .inr (0, [.int (md + 1), .ref ea, .int (nI 0)])), (aT, .inr (5, [.ref u.1, .int (nI ((k + 61) + (gsL gs N).length)), .int 1])), (u.1, .inl (u.2.1, grN n (k + (61 + wt)), .inl (pCk (wrB (wrB u.2.2.1 k (sd13 wt dn ft (if nI dn = 0 then 0 else ft + lt.toInt64) pr ep sq)) (k + 61) (gsL gs N)) (k + 17) (ckC (wrB (wrB u.2.2.1 k (sd13 wt dn ft (if nI dn = 0 then 0 else ft + lt.toInt64) pr ep sq)) (k + 61) (gsL gs N)) (k + 21) ((k + 61) + (gsL gs N).length - (k + 21))) 4))), (aO, .inl (cJ, 1, .inr (.inl (vp_updL fo 0 ((nI ((k + 61) + (gsL gs N).length)).toInt64)))))] ++ u.2.2.2) [(cO, .object "java/lang/Object"), (u.2.1, .byte), (cJ, .long)]) (va_A ([(aB, .inr (6, [.ref aT, .ref aF, .ref aQ, .int fk, .int fp])), (aF, .inr (1, [.ref aL, .int (nI dn), .int (nI wt), .int lt])), (aL, .inr (0, [.int md, .ref ea, .int (nI N)])), (aT, .inr (5, [.ref aR, .int (nI k), .int ch])), (aR, .inl (cA, n, .inl f)), (aO, .inl (cJ, 1, .inr (.inl fo)))] ++ pl) sz)) (grC n (k + (61 + wt))) (grS n (k + (61 + wt))) (va_A ([(aB, .inr (6, [.ref aT, .ref aF, .ref aQ, .int fk, .int fp])), (aF, .inr (1, [.ref aL, .int (nI dn), .int (nI wt), .int lt])), (aL, .inr (0, [.int md, .ref ea, .int (nI N)])), (aT, .inr (5, [.ref aR, .int (nI k), .int ch])), (aR, .inl (cA, n, .inl f)), (aO, .inl (cJ, 1, .inr (.inl fo)))] ++ pl) sz) := by
  refine va_MetW (cc := cd_L_seal) (maxL := 9) (ret := (some .int)) (hh := [(0, 15, 18, 19), (0, 15, 22, 13)]) (by decide) rfl ?_
  intro p e s m args below meth c s₁ B hml hv
  obtain ⟨rfl, hsz, hP, hK, hD0, hG⟩ := hv
  have hx := B.exec
  have hb := B.bytes
  have hr := B.returns
  have hts := fun (w : Cond) (h : w ∈ bigT) => atoms_spec (ws := (wBW my_L_seal cd_L_seal 9 (some .int) [(0, 15, 18, 19), (0, 15, 22, 13)])) B.pre w (List.mem_cons_of_mem _ h)
  have hown : s.vm.findClass rn_L = some m.cls := findClass_of_methodNamed B.named
  have hlocks := B.notSynchronized
  have htb := vx_table (x := my_L_seal) B (atoms_spec (ws := (wBW my_L_seal cd_L_seal 9 (some .int) [(0, 15, 18, 19), (0, 15, 22, 13)])) B.pre _ (List.mem_cons_self ..))
  subst hsz
  have hD := hD0.self (sz := s.heap.size)
  generalize hAe : va_A ([(aB, .inr (6, [.ref aT, .ref aF, .ref aQ, .int fk, .int fp])), (aF, .inr (1, [.ref aL, .int (nI dn), .int (nI wt), .int lt])), (aL, .inr (0, [.int md, .ref ea, .int (nI N)])), (aT, .inr (5, [.ref aR, .int (nI k), .int ch])), (aR, .inl (cA, n, .inl f)), (aO, .inl (cJ, 1, .inr (.inl fo)))] ++ pl) s.heap.size = A at hD hG ⊢
  have hA : ∀ q : Nat, s.heap.size ≤ q → A q := fun q h => by rw [← hAe]; exact Or.inr h
  have hS : va_S A s.heap s.heap [] := va_S.rf
  have hP : va_P (dC, dI) vwCl ([(aB, .inr (6, [.ref aT, .ref aF, .ref aQ, .int fk, .int fp])), (aF, .inr (1, [.ref aL, .int (nI dn), .int (nI wt), .int lt])), (aL, .inr (0, [.int md, .ref ea, .int (nI N)])), (aT, .inr (5, [.ref aR, .int (nI k), .int ch])), (aR, .inl (cA, n, .inl f)), (aO, .inl (cJ, 1, .inr (.inl fo)))] ++ pl) s.heap := hP
  have hl := lv_entry ([.ref aB, .long pr, .int ep, .int sq, .long ft, .ref aO]) (n := 9) (Nat.le_of_ble_eq_true rfl)
  rw [lg_entry_eq]
  generalize (lg_sl ([.ref aB, .long pr, .int ep, .int sq, .long ft, .ref aO]) ++ List.replicate (9 - (lg_sl ([.ref aB, .long pr, .int ep, .int sq, .long ft, .ref aO])).length) Slot.unset).toArray = ls at hl ⊢
  have hl : lv_has ls 9 [(0, .ref aB), (1, .long pr), (3, .int ep), (4, .int sq), (5, .long ft), (7, .ref aO)] := hl
  refine lv_aload hx hb dc_L_seal_0 (lv_at hl 5 rfl) ?_
  refine lv_iconst (v := 0) hx hb dc_L_seal_2 (by decide) ?_
  refine lv_aload_n hx hb dc_L_seal_3 rfl (lv_at hl 0 rfl) ?_
  refine lv_lload_n hx hb dc_L_seal_4 rfl (lv_at hl 1 rfl) ?_
  refine lv_iload_n hx hb dc_L_seal_5 rfl (lv_at hl 2 rfl) ?_
  refine lv_iload hx hb dc_L_seal_6 (lv_at hl 3 rfl) ?_
  refine lv_lload hx hb dc_L_seal_8 (lv_at hl 4 rfl) ?_
  refine kc_iP (X := [(aB, .inr (6, [.ref aT, .ref aF, .ref aQ, .int fk, .int fp])), (aF, .inr (1, [.ref aL, .int (nI dn), .int (nI wt), .int lt])), (aL, .inr (0, [.int md, .ref ea, .int (nI N)])), (aT, .inr (5, [.ref aR, .int (nI k), .int ch])), (aR, .inl (cA, n, .inl f)), (aO, .inl (cJ, 1, .inr (.inl fo)))]) (cx := [(aB, .inr (6, [.ref aT, .ref aF, .ref aQ, .int fk, .int fp])), (aF, .inr (1, [.ref aL, .int (nI dn), .int (nI wt), .int lt])), (aL, .inr (0, [.int md, .ref ea, .int (nI N)])), (aT, .inr (5, [.ref aR, .int (nI k), .int ch])), (aR, .inl (cA, n, .inl f))]) (wr := [(aO, .inl (cJ, 1, .inr (.inl fo)))]) (pl := pl) hP hD hS hA [0, 1, 2, 3, 4] [5] rfl rfl (by decide) (by decide) (va_runV (As := [.long pr, .int ep, .int sq, .long ft]) (rest := [.int 0, .ref aO]) ⟨hx, hb, hml, hown, hts⟩ (c_B_seal_ok l dC dI _ eE aB aQ fk fp aF aL dn wt lt md ea N cO ln gs pl aT aR cA n f k ch pr ep sq ft (hf0) (hf1) (hsz) (hls) (hln) (hgs) (hgn) (hgw) (hk) (hn) (hfit)) (kw_V 4 hts bw2_231 bw2_232 bw2_233 bw1_1 bw2_234 rfl rfl (by decide +kernel) ⟨Nat.le_of_ble_eq_true rfl, Nat.le_of_ble_eq_true rfl⟩) (kp_VP (cx := [(aB, .inr (6, [.ref aT, .ref aF, .ref aQ, .int fk, .int fp])), (aF, .inr (1, [.ref aL, .int (nI dn), .int (nI wt), .int lt])), (aL, .inr (0, [.int md, .ref ea, .int (nI N)])), (aT, .inr (5, [.ref aR, .int (nI k), .int ch])), (aR, .inl (cA, n, .inl f))]) (pl := pl) (tc := [(cO, .object "java/lang/Object"), (cA, .byte)]) (As := [.long pr, .int ep, .int sq, .long ft]) hG hS hA hP hD hK [0, 1, 2, 3, 4] (by decide) rfl [0, 1] rfl (ci := 6) (q0 := 0) rfl rfl) rfl rfl hl.1 rfl (lv_room (Nat.le_of_ble_eq_true rfl)) dc_L_seal_10 ⟨by show _ ≤ grC n (k + (61 + wt)); omega, by show _ ≤ grS n (k + (61 + wt)); omega⟩) (fun r_5 u_6 H locs hw hP hD hK1 hS => ?_)
  obtain ⟨aR1_1, cA1_2, f1_3, pl1_4⟩ := u_6
  obtain ⟨rfl, h_7, h_8, h_9⟩ := hw
  have h_7 : (∀ i, i < k → f1_3 i = f i) := h_7
  have h_8 : fitB f1_3 := h_8
  have h_9 : LSx eE pl1_4 ea 0 ln cO gs := h_9
  have hK := hK.app hK1
  have hK : va_K (dC, dI) vwCl [(cO, .object "java/lang/Object"), (cA, .byte), (cJ, .long), (cO, .object "java/lang/Object"), (cA1_2, .byte)] s := hK
  have hP : va_P (dC, dI) vwCl ([(aO, .inl (cJ, 1, .inr (.inl fo))), (aB, .inr (6, [.ref aT, .ref aF, .ref aQ, .int fk, .int fp])), (aF, .inr (1, [.ref aL, .int (nI 0), .int (nI 0), .int 0])), (aL, .inr (0, [.int (md + 1), .ref ea, .int (nI 0)])), (aT, .inr (5, [.ref aR1_1, .int (nI ((k + 61) + (gsL gs N).length)), .int 1])), (aR1_1, .inl (cA1_2, grN n (k + (61 + wt)), .inl (pCk (wrB (wrB f1_3 k (sd13 wt dn ft (if nI dn = 0 then 0 else ft + lt.toInt64) pr ep sq)) (k + 61) (gsL gs N)) (k + 17) (ckC (wrB (wrB f1_3 k (sd13 wt dn ft (if nI dn = 0 then 0 else ft + lt.toInt64) pr ep sq)) (k + 61) (gsL gs N)) (k + 21) ((k + 61) + (gsL gs N).length - (k + 21))) 4)))] ++ pl1_4) H := hP
  have hD : va_D A ([(aO, .inl (cJ, 1, .inr (.inl fo))), (aB, .inr (6, [.ref aT, .ref aF, .ref aQ, .int fk, .int fp])), (aF, .inr (1, [.ref aL, .int (nI 0), .int (nI 0), .int 0])), (aL, .inr (0, [.int (md + 1), .ref ea, .int (nI 0)])), (aT, .inr (5, [.ref aR1_1, .int (nI ((k + 61) + (gsL gs N).length)), .int 1])), (aR1_1, .inl (cA1_2, grN n (k + (61 + wt)), .inl (pCk (wrB (wrB f1_3 k (sd13 wt dn ft (if nI dn = 0 then 0 else ft + lt.toInt64) pr ep sq)) (k + 61) (gsL gs N)) (k + 17) (ckC (wrB (wrB f1_3 k (sd13 wt dn ft (if nI dn = 0 then 0 else ft + lt.toInt64) pr ep sq)) (k + 61) (gsL gs N)) (k + 21) ((k + 61) + (gsL gs N).length - (k + 21))) 4)))] ++ pl1_4) := hD
  refine lv_i2l (v := (nI ((k + 61) + (gsL gs N).length)).toInt64) hx hb dc_L_seal_13 rfl ?_
  rw [show (0 : Int32) = nI 0 from rfl]
  refine va_last hx hb hK hP hD hS 0 2 rfl rfl (vp_in_nI (by omega) (by omega)) dc_L_seal_14 (fun H locs hP hD hS => ?_)
  rw [show (nI 0).toNatClampNeg = 0 from nI_clamp (by omega)] at hP hD
  have hP : va_P (dC, dI) vwCl ([(aO, .inl (cJ, 1, .inr (.inl (vp_updL fo 0 ((nI ((k + 61) + (gsL gs N).length)).toInt64))))), (aB, .inr (6, [.ref aT, .ref aF, .ref aQ, .int fk, .int fp])), (aF, .inr (1, [.ref aL, .int (nI 0), .int (nI 0), .int 0])), (aL, .inr (0, [.int (md + 1), .ref ea, .int (nI 0)])), (aT, .inr (5, [.ref aR1_1, .int (nI ((k + 61) + (gsL gs N).length)), .int 1])), (aR1_1, .inl (cA1_2, grN n (k + (61 + wt)), .inl (pCk (wrB (wrB f1_3 k (sd13 wt dn ft (if nI dn = 0 then 0 else ft + lt.toInt64) pr ep sq)) (k + 61) (gsL gs N)) (k + 17) (ckC (wrB (wrB f1_3 k (sd13 wt dn ft (if nI dn = 0 then 0 else ft + lt.toInt64) pr ep sq)) (k + 61) (gsL gs N)) (k + 21) ((k + 61) + (gsL gs N).length - (k + 21))) 4)))] ++ pl1_4) H := hP
  have hD : va_D A ([(aO, .inl (cJ, 1, .inr (.inl (vp_updL fo 0 ((nI ((k + 61) + (gsL gs N).length)).toInt64))))), (aB, .inr (6, [.ref aT, .ref aF, .ref aQ, .int fk, .int fp])), (aF, .inr (1, [.ref aL, .int (nI 0), .int (nI 0), .int 0])), (aL, .inr (0, [.int (md + 1), .ref ea, .int (nI 0)])), (aT, .inr (5, [.ref aR1_1, .int (nI ((k + 61) + (gsL gs N).length)), .int 1])), (aR1_1, .inl (cA1_2, grN n (k + (61 + wt)), .inl (pCk (wrB (wrB f1_3 k (sd13 wt dn ft (if nI dn = 0 then 0 else ft + lt.toInt64) pr ep sq)) (k + 61) (gsL gs N)) (k + 17) (ckC (wrB (wrB f1_3 k (sd13 wt dn ft (if nI dn = 0 then 0 else ft + lt.toInt64) pr ep sq)) (k + 61) (gsL gs N)) (k + 21) ((k + 61) + (gsL gs N).length - (k + 21))) 4)))] ++ pl1_4) := hD
  refine lv_goto (tgt := 26) hx hb dc_L_seal_15 (by decide) ?_
  refine lv_iconst (v := 0) hx hb dc_L_seal_26 (by decide) ?_
  have hP9 : va_P (dC, dI) vwCl ([(aB, .inr (6, [.ref aT, .ref aF, .ref aQ, .int fk, .int fp])), (aF, .inr (1, [.ref aL, .int (nI 0), .int (nI 0), .int 0])), (aL, .inr (0, [.int (md + 1), .ref ea, .int (nI 0)])), (aT, .inr (5, [.ref aR1_1, .int (nI ((k + 61) + (gsL gs N).length)), .int 1])), (aR1_1, .inl (cA1_2, grN n (k + (61 + wt)), .inl (pCk (wrB (wrB f1_3 k (sd13 wt dn ft (if nI dn = 0 then 0 else ft + lt.toInt64) pr ep sq)) (k + 61) (gsL gs N)) (k + 17) (ckC (wrB (wrB f1_3 k (sd13 wt dn ft (if nI dn = 0 then 0 else ft + lt.toInt64) pr ep sq)) (k + 61) (gsL gs N)) (k + 21) ((k + 61) + (gsL gs N).length - (k + 21))) 4))), (aO, .inl (cJ, 1, .inr (.inl (vp_updL fo 0 ((nI ((k + 61) + (gsL gs N).length)).toInt64)))))] ++ pl1_4) H := hP.part (cx := [(aB, .inr (6, [.ref aT, .ref aF, .ref aQ, .int fk, .int fp])), (aF, .inr (1, [.ref aL, .int (nI 0), .int (nI 0), .int 0])), (aL, .inr (0, [.int (md + 1), .ref ea, .int (nI 0)])), (aT, .inr (5, [.ref aR1_1, .int (nI ((k + 61) + (gsL gs N).length)), .int 1])), (aR1_1, .inl (cA1_2, grN n (k + (61 + wt)), .inl (pCk (wrB (wrB f1_3 k (sd13 wt dn ft (if nI dn = 0 then 0 else ft + lt.toInt64) pr ep sq)) (k + 61) (gsL gs N)) (k + 17) (ckC (wrB (wrB f1_3 k (sd13 wt dn ft (if nI dn = 0 then 0 else ft + lt.toInt64) pr ep sq)) (k + 61) (gsL gs N)) (k + 21) ((k + 61) + (gsL gs N).length - (k + 21))) 4))), (aO, .inl (cJ, 1, .inr (.inl (vp_updL fo 0 ((nI ((k + 61) + (gsL gs N).length)).toInt64)))))]) (pl := pl1_4) [1, 2, 3, 4, 5, 0] rfl
  have hD9 : va_D A ([(aB, .inr (6, [.ref aT, .ref aF, .ref aQ, .int fk, .int fp])), (aF, .inr (1, [.ref aL, .int (nI 0), .int (nI 0), .int 0])), (aL, .inr (0, [.int (md + 1), .ref ea, .int (nI 0)])), (aT, .inr (5, [.ref aR1_1, .int (nI ((k + 61) + (gsL gs N).length)), .int 1])), (aR1_1, .inl (cA1_2, grN n (k + (61 + wt)), .inl (pCk (wrB (wrB f1_3 k (sd13 wt dn ft (if nI dn = 0 then 0 else ft + lt.toInt64) pr ep sq)) (k + 61) (gsL gs N)) (k + 17) (ckC (wrB (wrB f1_3 k (sd13 wt dn ft (if nI dn = 0 then 0 else ft + lt.toInt64) pr ep sq)) (k + 61) (gsL gs N)) (k + 21) ((k + 61) + (gsL gs N).length - (k + 21))) 4))), (aO, .inl (cJ, 1, .inr (.inl (vp_updL fo 0 ((nI ((k + 61) + (gsL gs N).length)).toInt64)))))] ++ pl1_4) := hD.part (cx := [(aB, .inr (6, [.ref aT, .ref aF, .ref aQ, .int fk, .int fp])), (aF, .inr (1, [.ref aL, .int (nI 0), .int (nI 0), .int 0])), (aL, .inr (0, [.int (md + 1), .ref ea, .int (nI 0)])), (aT, .inr (5, [.ref aR1_1, .int (nI ((k + 61) + (gsL gs N).length)), .int 1])), (aR1_1, .inl (cA1_2, grN n (k + (61 + wt)), .inl (pCk (wrB (wrB f1_3 k (sd13 wt dn ft (if nI dn = 0 then 0 else ft + lt.toInt64) pr ep sq)) (k + 61) (gsL gs N)) (k + 17) (ckC (wrB (wrB f1_3 k (sd13 wt dn ft (if nI dn = 0 then 0 else ft + lt.toInt64) pr ep sq)) (k + 61) (gsL gs N)) (k + 21) ((k + 61) + (gsL gs N).length - (k + 21))) 4))), (aO, .inl (cJ, 1, .inr (.inl (vp_updL fo 0 ((nI ((k + 61) + (gsL gs N).length)).toInt64)))))]) (pl := pl1_4) [1, 2, 3, 4, 5, 0] (by decide) rfl
  have hK9 := hK.sub (tys' := [(cO, .object "java/lang/Object"), (cA1_2, .byte), (cJ, .long)]) [0, 4, 2] rfl
  refine W.widen (k := grC n (k + (61 + wt))) (n := grS n (k + (61 + wt))) (by omega) (by omega) ?_
  exact W.iret (v := 0) hx hb hr (fun t ht hW => ⟨⟨0, (aR1_1, cA1_2, f1_3, pl1_4), rfl, ⟨rfl, h_7, h_8, h_9⟩, by rw [ht]; exact hP9, va_K.moved hW.alike hK9, hD9⟩, hS.F ht⟩) hS.2.2 dc_L_seal_27

set_option maxHeartbeats 1000000 in
set_option maxRecDepth 100000 in
theorem c_L_seal_arg (l : Launch) (dC : Nat → ClassId) (dI : Nat → Nat → Nat) (sz : Nat) (aB : Nat) (aT : Nat) (aF : Nat) (aQ : Nat) (fk : Int32) (fp : Int32) (pr : Int64) (ep : Int32) (sq : Int32) (ft : Int64) (aO : Nat) (cJ : ClassId) (fo : Nat → Int64) (hbad : ft < 0 ∨ ¬ ft ≤ 562949953421312) (hst : l.stackTraces = false) : Met l my_L_seal (wBW my_L_seal cd_L_seal 9 (some .int) [(0, 15, 18, 19), (0, 15, 22, 13)]) ({ frames := 7, cells := 1, slots := 6, locals := 110 }) (va_Pc [.ref aB, .long pr, .int ep, .int sq, .long ft, .ref aO] (PcW (dC, dI) [(aB, .inr (6, [.ref aT, .ref aF, .ref aQ, .int fk, .int fp])), (aO, .inl (cJ, 1, .inr (.inl fo)))] [(cJ, .long)] sz)) (va_Qi (fun (r : Int32) => fun (_ : Unit) => r = 1) (fun _ => EnW (dC, dI) (va_A [(aB, .inr (6, [.ref aT, .ref aF, .ref aQ, .int fk, .int fp])), (aO, .inl (cJ, 1, .inr (.inl fo)))] sz) [(aB, .inr (6, [.ref aT, .ref aF, .ref aQ, .int fk, .int fp])), (aO, .inl (cJ, 1, .inr (.inl fo)))] [(cJ, .long)]) (va_A [(aB, .inr (6, [.ref aT, .ref aF, .ref aQ, .int fk, .int fp])), (aO, .inl (cJ, 1, .inr (.inl fo)))] sz)) 1 6 (va_A [(aB, .inr (6, [.ref aT, .ref aF, .ref aQ, .int fk, .int fp])), (aO, .inl (cJ, 1, .inr (.inl fo)))] sz) := by
  refine va_MetW (cc := cd_L_seal) (maxL := 9) (ret := (some .int)) (hh := [(0, 15, 18, 19), (0, 15, 22, 13)]) (by decide) rfl ?_
  intro p e s m args below meth c s₁ B hml hv
  obtain ⟨rfl, hsz, hP, hK, hD0, hG⟩ := hv
  have hx := B.exec
  have hb := B.bytes
  have hr := B.returns
  have hts := fun (w : Cond) (h : w ∈ bigT) => atoms_spec (ws := (wBW my_L_seal cd_L_seal 9 (some .int) [(0, 15, 18, 19), (0, 15, 22, 13)])) B.pre w (List.mem_cons_of_mem _ h)
  have hown : s.vm.findClass rn_L = some m.cls := findClass_of_methodNamed B.named
  have hlocks := B.notSynchronized
  have htb := vx_table (x := my_L_seal) B (atoms_spec (ws := (wBW my_L_seal cd_L_seal 9 (some .int) [(0, 15, 18, 19), (0, 15, 22, 13)])) B.pre _ (List.mem_cons_self ..))
  subst hsz
  have hD := hD0.self (sz := s.heap.size)
  generalize hAe : va_A [(aB, .inr (6, [.ref aT, .ref aF, .ref aQ, .int fk, .int fp])), (aO, .inl (cJ, 1, .inr (.inl fo)))] s.heap.size = A at hD hG ⊢
  have hA : ∀ q : Nat, s.heap.size ≤ q → A q := fun q h => by rw [← hAe]; exact Or.inr h
  have hS : va_S A s.heap s.heap [] := va_S.rf
  have hP : va_P (dC, dI) vwCl [(aB, .inr (6, [.ref aT, .ref aF, .ref aQ, .int fk, .int fp])), (aO, .inl (cJ, 1, .inr (.inl fo)))] s.heap := hP
  have hl := lv_entry ([.ref aB, .long pr, .int ep, .int sq, .long ft, .ref aO]) (n := 9) (Nat.le_of_ble_eq_true rfl)
  rw [lg_entry_eq]
  generalize (lg_sl ([.ref aB, .long pr, .int ep, .int sq, .long ft, .ref aO]) ++ List.replicate (9 - (lg_sl ([.ref aB, .long pr, .int ep, .int sq, .long ft, .ref aO])).length) Slot.unset).toArray = ls at hl ⊢
  have hl : lv_has ls 9 [(0, .ref aB), (1, .long pr), (3, .int ep), (4, .int sq), (5, .long ft), (7, .ref aO)] := hl
  refine lv_aload hx hb dc_L_seal_0 (lv_at hl 5 rfl) ?_
  refine lv_iconst (v := 0) hx hb dc_L_seal_2 (by decide) ?_
  refine lv_aload_n hx hb dc_L_seal_3 rfl (lv_at hl 0 rfl) ?_
  refine lv_lload_n hx hb dc_L_seal_4 rfl (lv_at hl 1 rfl) ?_
  refine lv_iload_n hx hb dc_L_seal_5 rfl (lv_at hl 2 rfl) ?_
  refine lv_iload hx hb dc_L_seal_6 (lv_at hl 3 rfl) ?_
  refine lv_lload hx hb dc_L_seal_8 (lv_at hl 4 rfl) ?_
  refine kcx_i (wc := [(aB, .inr (6, [.ref aT, .ref aF, .ref aQ, .int fk, .int fp]))]) (wr := [(aO, .inl (cJ, 1, .inr (.inl fo)))]) hP hD hS hA [0] [1] rfl rfl (by decide) (by decide) (vx_runV (As := [.long pr, .int ep, .int sq, .long ft]) (rest := [.int 0, .ref aO]) ⟨hx, hb, hml, hown, hts⟩ (c_B_seal_arg l dC dI _ aB aT aF aQ fk fp pr ep sq ft (hbad) hst) (kw_V 4 hts bw2_231 bw2_232 bw2_233 bw1_1 bw2_234 rfl rfl (by decide +kernel) ⟨Nat.le_of_ble_eq_true rfl, Nat.le_of_ble_eq_true rfl⟩) (kp_V (wc := [(aB, .inr (6, [.ref aT, .ref aF, .ref aQ, .int fk, .int fp]))]) (tc := []) (As := [.long pr, .int ep, .int sq, .long ft]) hG hS hA hP hD hK [0] rfl (by decide) rfl [] rfl (ci := 6) (q0 := 0) rfl rfl) rfl rfl hl.1 rfl (lv_room (Nat.le_of_ble_eq_true rfl)) dc_L_seal_10 ⟨by show _ ≤ 1; omega, by show _ ≤ 6; omega⟩) (fun _ ce q_1 H locs hP hD hK1 hS h1 h2 h3 => ?_)
  refine vx_catch (own := "BatchBytesLaw") hown [] ⟨0, 15, 18, 19⟩ [⟨0, 15, 22, 13⟩] (htb.trans rfl) (fun z hz => nomatch hz) (by decide) (by decide) (hts _ bw2_75) (nd_use hG.1 (.castable "java/lang/IllegalArgumentException" "java/lang/IllegalArgumentException") (by decide +kernel)) h1 h2 h3 ?_
  have hP : va_P (dC, dI) vwCl [(aO, .inl (cJ, 1, .inr (.inl fo))), (aB, .inr (6, [.ref aT, .ref aF, .ref aQ, .int fk, .int fp]))] H := hP
  have hD : va_D A [(aO, .inl (cJ, 1, .inr (.inl fo))), (aB, .inr (6, [.ref aT, .ref aF, .ref aQ, .int fk, .int fp]))] := hD
  refine lv_astore (lv' := [(8, .ref q_1), (0, .ref aB), (1, .long pr), (3, .int ep), (4, .int sq), (5, .long ft), (7, .ref aO)]) hx hb dc_L_seal_18 hl (by decide) rfl (fun ls hl => ?_)
  refine lv_iconst (v := 1) hx hb dc_L_seal_20 (by decide) ?_
  have hP9 := hP.sub (ws' := [(aB, .inr (6, [.ref aT, .ref aF, .ref aQ, .int fk, .int fp])), (aO, .inl (cJ, 1, .inr (.inl fo)))]) [1, 0] rfl
  have hD9 := hD.sub (ws' := [(aB, .inr (6, [.ref aT, .ref aF, .ref aQ, .int fk, .int fp])), (aO, .inl (cJ, 1, .inr (.inl fo)))]) [1, 0] (by decide) rfl
  have hK9 := hK.sub (tys' := [(cJ, .long)]) [0] rfl
  refine W.widen (k := 1) (n := 6) (by omega) (by omega) ?_
  exact W.iret (v := 1) hx hb hr (fun t ht hW => ⟨⟨1, (), rfl, rfl, by rw [ht]; exact hP9, va_K.moved hW.alike hK9, hD9⟩, hS.F ht⟩) hS.2.2 dc_L_seal_21

set_option maxHeartbeats 1000000 in
set_option maxRecDepth 100000 in
theorem c_L_seal_full (l : Launch) (dC : Nat → ClassId) (dI : Nat → Nat → Nat) (sz : Nat) (aB : Nat) (aF : Nat) (aQ : Nat) (fk : Int32) (fp : Int32) (aT : Nat) (aR : Nat) (cA : ClassId) (n : Nat) (f : Nat → Int32) (k : Nat) (ch : Int32) (aL : Nat) (dn : Nat) (wt : Nat) (lt : Int32) (pr : Int64) (ep : Int32) (sq : Int32) (ft : Int64) (aO : Nat) (cJ : ClassId) (fo : Nat → Int64) (hk : k ≤ n) (hn : n ≤ 16384) (hf0 : ¬ ft < 0) (hf1 : ft ≤ 562949953421312) (hwt : wt ≤ 16000) (hbad : 16384 < k + (61 + wt)) (hst : l.stackTraces = false) : Met l my_L_seal (wBW my_L_seal cd_L_seal 9 (some .int) [(0, 15, 18, 19), (0, 15, 22, 13)]) ({ frames := 7, cells := 1, slots := 6, locals := 110 }) (va_Pc [.ref aB, .long pr, .int ep, .int sq, .long ft, .ref aO] (PcW (dC, dI) [(aB, .inr (6, [.ref aT, .ref aF, .ref aQ, .int fk, .int fp])), (aF, .inr (1, [.ref aL, .int (nI dn), .int (nI wt), .int lt])), (aT, .inr (5, [.ref aR, .int (nI k), .int ch])), (aR, .inl (cA, n, .inl f)), (aO, .inl (cJ, 1, .inr (.inl fo)))] [(cA, .byte), (cJ, .long)] sz)) (va_Qi (fun (r : Int32) => fun (_ : Unit) => r = 2) (fun _ => EnW (dC, dI) (va_A [(aB, .inr (6, [.ref aT, .ref aF, .ref aQ, .int fk, .int fp])), (aF, .inr (1, [.ref aL, .int (nI dn), .int (nI wt), .int lt])), (aT, .inr (5, [.ref aR, .int (nI k), .int ch])), (aR, .inl (cA, n, .inl f)), (aO, .inl (cJ, 1, .inr (.inl fo)))] sz) [(aB, .inr (6, [.ref aT, .ref aF, .ref aQ, .int fk, .int fp])), (aF, .inr (1, [.ref aL, .int (nI dn), .int (nI wt), .int lt])), (aT, .inr (5, [.ref aR, .int (nI k), .int ch])), (aR, .inl (cA, n, .inl f)), (aO, .inl (cJ, 1, .inr (.inl fo)))] [(cA, .byte), (cJ, .long)]) (va_A [(aB, .inr (6, [.ref aT, .ref aF, .ref aQ, .int fk, .int fp])), (aF, .inr (1, [.ref aL, .int (nI dn), .int (nI wt), .int lt])), (aT, .inr (5, [.ref aR, .int (nI k), .int ch])), (aR, .inl (cA, n, .inl f)), (aO, .inl (cJ, 1, .inr (.inl fo)))] sz)) 1 6 (va_A [(aB, .inr (6, [.ref aT, .ref aF, .ref aQ, .int fk, .int fp])), (aF, .inr (1, [.ref aL, .int (nI dn), .int (nI wt), .int lt])), (aT, .inr (5, [.ref aR, .int (nI k), .int ch])), (aR, .inl (cA, n, .inl f)), (aO, .inl (cJ, 1, .inr (.inl fo)))] sz) := by
  refine va_MetW (cc := cd_L_seal) (maxL := 9) (ret := (some .int)) (hh := [(0, 15, 18, 19), (0, 15, 22, 13)]) (by decide) rfl ?_
  intro p e s m args below meth c s₁ B hml hv
  obtain ⟨rfl, hsz, hP, hK, hD0, hG⟩ := hv
  have hx := B.exec
  have hb := B.bytes
  have hr := B.returns
  have hts := fun (w : Cond) (h : w ∈ bigT) => atoms_spec (ws := (wBW my_L_seal cd_L_seal 9 (some .int) [(0, 15, 18, 19), (0, 15, 22, 13)])) B.pre w (List.mem_cons_of_mem _ h)
  have hown : s.vm.findClass rn_L = some m.cls := findClass_of_methodNamed B.named
  have hlocks := B.notSynchronized
  have htb := vx_table (x := my_L_seal) B (atoms_spec (ws := (wBW my_L_seal cd_L_seal 9 (some .int) [(0, 15, 18, 19), (0, 15, 22, 13)])) B.pre _ (List.mem_cons_self ..))
  subst hsz
  have hD := hD0.self (sz := s.heap.size)
  generalize hAe : va_A [(aB, .inr (6, [.ref aT, .ref aF, .ref aQ, .int fk, .int fp])), (aF, .inr (1, [.ref aL, .int (nI dn), .int (nI wt), .int lt])), (aT, .inr (5, [.ref aR, .int (nI k), .int ch])), (aR, .inl (cA, n, .inl f)), (aO, .inl (cJ, 1, .inr (.inl fo)))] s.heap.size = A at hD hG ⊢
  have hA : ∀ q : Nat, s.heap.size ≤ q → A q := fun q h => by rw [← hAe]; exact Or.inr h
  have hS : va_S A s.heap s.heap [] := va_S.rf
  have hP : va_P (dC, dI) vwCl [(aB, .inr (6, [.ref aT, .ref aF, .ref aQ, .int fk, .int fp])), (aF, .inr (1, [.ref aL, .int (nI dn), .int (nI wt), .int lt])), (aT, .inr (5, [.ref aR, .int (nI k), .int ch])), (aR, .inl (cA, n, .inl f)), (aO, .inl (cJ, 1, .inr (.inl fo)))] s.heap := hP
  have hl := lv_entry ([.ref aB, .long pr, .int ep, .int sq, .long ft, .ref aO]) (n := 9) (Nat.le_of_ble_eq_true rfl)
  rw [lg_entry_eq]
  generalize (lg_sl ([.ref aB, .long pr, .int ep, .int sq, .long ft, .ref aO]) ++ List.replicate (9 - (lg_sl ([.ref aB, .long pr, .int ep, .int sq, .long ft, .ref aO])).length) Slot.unset).toArray = ls at hl ⊢
  have hl : lv_has ls 9 [(0, .ref aB), (1, .long pr), (3, .int ep), (4, .int sq), (5, .long ft), (7, .ref aO)] := hl
  refine lv_aload hx hb dc_L_seal_0 (lv_at hl 5 rfl) ?_
  refine lv_iconst (v := 0) hx hb dc_L_seal_2 (by decide) ?_
  refine lv_aload_n hx hb dc_L_seal_3 rfl (lv_at hl 0 rfl) ?_
  refine lv_lload_n hx hb dc_L_seal_4 rfl (lv_at hl 1 rfl) ?_
  refine lv_iload_n hx hb dc_L_seal_5 rfl (lv_at hl 2 rfl) ?_
  refine lv_iload hx hb dc_L_seal_6 (lv_at hl 3 rfl) ?_
  refine lv_lload hx hb dc_L_seal_8 (lv_at hl 4 rfl) ?_
  refine kcx_i (wc := [(aB, .inr (6, [.ref aT, .ref aF, .ref aQ, .int fk, .int fp])), (aF, .inr (1, [.ref aL, .int (nI dn), .int (nI wt), .int lt])), (aT, .inr (5, [.ref aR, .int (nI k), .int ch])), (aR, .inl (cA, n, .inl f))]) (wr := [(aO, .inl (cJ, 1, .inr (.inl fo)))]) hP hD hS hA [0, 1, 2, 3] [4] rfl rfl (by decide) (by decide) (vx_runV (As := [.long pr, .int ep, .int sq, .long ft]) (rest := [.int 0, .ref aO]) ⟨hx, hb, hml, hown, hts⟩ (c_B_seal_full l dC dI _ aB aF aQ fk fp aT aR cA n f k ch aL dn wt lt pr ep sq ft (hk) (hn) (hf0) (hf1) (hwt) (hbad) hst) (kw_V 4 hts bw2_231 bw2_232 bw2_233 bw1_1 bw2_234 rfl rfl (by decide +kernel) ⟨Nat.le_of_ble_eq_true rfl, Nat.le_of_ble_eq_true rfl⟩) (kp_V (wc := [(aB, .inr (6, [.ref aT, .ref aF, .ref aQ, .int fk, .int fp])), (aF, .inr (1, [.ref aL, .int (nI dn), .int (nI wt), .int lt])), (aT, .inr (5, [.ref aR, .int (nI k), .int ch])), (aR, .inl (cA, n, .inl f))]) (tc := [(cA, .byte)]) (As := [.long pr, .int ep, .int sq, .long ft]) hG hS hA hP hD hK [0, 1, 2, 3] rfl (by decide) rfl [0] rfl (ci := 6) (q0 := 0) rfl rfl) rfl rfl hl.1 rfl (lv_room (Nat.le_of_ble_eq_true rfl)) dc_L_seal_10 ⟨by show _ ≤ 1; omega, by show _ ≤ 6; omega⟩) (fun _ ce q_1 H locs hP hD hK1 hS h1 h2 h3 => ?_)
  refine vx_catch (own := "BatchBytesLaw") hown [⟨0, 15, 18, 19⟩] ⟨0, 15, 22, 13⟩ [] (htb.trans rfl) (fun z hz => by rw [List.mem_singleton.mp hz]; exact Or.inr ⟨by decide, "java/lang/IllegalArgumentException", hts _ bw2_75, hG.2.2.2.2.2.2.2⟩) (by decide) (by decide) (hts _ bw1_208) (nd_use hG.1 (.castable "java/lang/IllegalStateException" "java/lang/IllegalStateException") (by decide +kernel)) h1 h2 h3 ?_
  have hP : va_P (dC, dI) vwCl [(aO, .inl (cJ, 1, .inr (.inl fo))), (aB, .inr (6, [.ref aT, .ref aF, .ref aQ, .int fk, .int fp])), (aF, .inr (1, [.ref aL, .int (nI dn), .int (nI wt), .int lt])), (aT, .inr (5, [.ref aR, .int (nI k), .int ch])), (aR, .inl (cA, n, .inl f))] H := hP
  have hD : va_D A [(aO, .inl (cJ, 1, .inr (.inl fo))), (aB, .inr (6, [.ref aT, .ref aF, .ref aQ, .int fk, .int fp])), (aF, .inr (1, [.ref aL, .int (nI dn), .int (nI wt), .int lt])), (aT, .inr (5, [.ref aR, .int (nI k), .int ch])), (aR, .inl (cA, n, .inl f))] := hD
  refine lv_astore (lv' := [(8, .ref q_1), (0, .ref aB), (1, .long pr), (3, .int ep), (4, .int sq), (5, .long ft), (7, .ref aO)]) hx hb dc_L_seal_22 hl (by decide) rfl (fun ls hl => ?_)
  refine lv_iconst (v := 2) hx hb dc_L_seal_24 (by decide) ?_
  have hP9 := hP.sub (ws' := [(aB, .inr (6, [.ref aT, .ref aF, .ref aQ, .int fk, .int fp])), (aF, .inr (1, [.ref aL, .int (nI dn), .int (nI wt), .int lt])), (aT, .inr (5, [.ref aR, .int (nI k), .int ch])), (aR, .inl (cA, n, .inl f)), (aO, .inl (cJ, 1, .inr (.inl fo)))]) [1, 2, 3, 4, 0] rfl
  have hD9 := hD.sub (ws' := [(aB, .inr (6, [.ref aT, .ref aF, .ref aQ, .int fk, .int fp])), (aF, .inr (1, [.ref aL, .int (nI dn), .int (nI wt), .int lt])), (aT, .inr (5, [.ref aR, .int (nI k), .int ch])), (aR, .inl (cA, n, .inl f)), (aO, .inl (cJ, 1, .inr (.inl fo)))]) [1, 2, 3, 4, 0] (by decide) rfl
  have hK9 := hK.sub (tys' := [(cA, .byte), (cJ, .long)]) [0, 1] rfl
  refine W.widen (k := 1) (n := 6) (by omega) (by omega) ?_
  exact W.iret (v := 2) hx hb hr (fun t ht hW => ⟨⟨2, (), rfl, rfl, by rw [ht]; exact hP9, va_K.moved hW.alike hK9, hD9⟩, hS.F ht⟩) hS.2.2 dc_L_seal_25

set_option maxHeartbeats 1000000 in
set_option maxRecDepth 100000 in
theorem c_L_byteAt_ok (l : Launch) (dC : Nat → ClassId) (dI : Nat → Nat → Nat) (sz : Nat) (aB : Nat) (aF : Nat) (aQ : Nat) (fk : Int32) (fp : Int32) (aT : Nat) (aR : Nat) (cA : ClassId) (n : Nat) (f : Nat → Int32) (k : Nat) (ch : Int32) (j : Nat) (aO : Nat) (cJ : ClassId) (fo : Nat → Int64) (hk : k ≤ n) (hn : n ≤ 16384) (hj : j < k) : Met l my_L_byteAt (wBW my_L_byteAt cd_L_byteAt 4 (some .int) [(0, 9, 12, 19)]) ({ frames := 2, cells := 0, slots := 0, locals := 42 }) (va_Pc [.ref aB, .int (nI j), .ref aO] (PcW (dC, dI) [(aB, .inr (6, [.ref aT, .ref aF, .ref aQ, .int fk, .int fp])), (aT, .inr (5, [.ref aR, .int (nI k), .int ch])), (aR, .inl (cA, n, .inl f)), (aO, .inl (cJ, 1, .inr (.inl fo)))] [(cA, .byte), (cJ, .long)] sz)) (va_Qi (fun (r : Int32) => fun (_ : Unit) => r = 0) (fun _ => EnW (dC, dI) (va_A [(aB, .inr (6, [.ref aT, .ref aF, .ref aQ, .int fk, .int fp])), (aT, .inr (5, [.ref aR, .int (nI k), .int ch])), (aR, .inl (cA, n, .inl f)), (aO, .inl (cJ, 1, .inr (.inl fo)))] sz) [(aB, .inr (6, [.ref aT, .ref aF, .ref aQ, .int fk, .int fp])), (aT, .inr (5, [.ref aR, .int (nI k), .int ch])), (aR, .inl (cA, n, .inl f)), (aO, .inl (cJ, 1, .inr (.inl (vp_updL fo 0 ((tb f k (nI j)).toInt64)))))] [(cA, .byte), (cJ, .long)]) (va_A [(aB, .inr (6, [.ref aT, .ref aF, .ref aQ, .int fk, .int fp])), (aT, .inr (5, [.ref aR, .int (nI k), .int ch])), (aR, .inl (cA, n, .inl f)), (aO, .inl (cJ, 1, .inr (.inl fo)))] sz)) 0 0 (va_A [(aB, .inr (6, [.ref aT, .ref aF, .ref aQ, .int fk, .int fp])), (aT, .inr (5, [.ref aR, .int (nI k), .int ch])), (aR, .inl (cA, n, .inl f)), (aO, .inl (cJ, 1, .inr (.inl fo)))] sz) := by
  refine va_MetW (cc := cd_L_byteAt) (maxL := 4) (ret := (some .int)) (hh := [(0, 9, 12, 19)]) (by decide) rfl ?_
  intro p e s m args below meth c s₁ B hml hv
  obtain ⟨rfl, hsz, hP, hK, hD0, hG⟩ := hv
  have hx := B.exec
  have hb := B.bytes
  have hr := B.returns
  have hts := fun (w : Cond) (h : w ∈ bigT) => atoms_spec (ws := (wBW my_L_byteAt cd_L_byteAt 4 (some .int) [(0, 9, 12, 19)])) B.pre w (List.mem_cons_of_mem _ h)
  have hown : s.vm.findClass rn_L = some m.cls := findClass_of_methodNamed B.named
  have hlocks := B.notSynchronized
  have htb := vx_table (x := my_L_byteAt) B (atoms_spec (ws := (wBW my_L_byteAt cd_L_byteAt 4 (some .int) [(0, 9, 12, 19)])) B.pre _ (List.mem_cons_self ..))
  subst hsz
  have hD := hD0.self (sz := s.heap.size)
  generalize hAe : va_A [(aB, .inr (6, [.ref aT, .ref aF, .ref aQ, .int fk, .int fp])), (aT, .inr (5, [.ref aR, .int (nI k), .int ch])), (aR, .inl (cA, n, .inl f)), (aO, .inl (cJ, 1, .inr (.inl fo)))] s.heap.size = A at hD hG ⊢
  have hA : ∀ q : Nat, s.heap.size ≤ q → A q := fun q h => by rw [← hAe]; exact Or.inr h
  have hS : va_S A s.heap s.heap [] := va_S.rf
  have hP : va_P (dC, dI) vwCl [(aB, .inr (6, [.ref aT, .ref aF, .ref aQ, .int fk, .int fp])), (aT, .inr (5, [.ref aR, .int (nI k), .int ch])), (aR, .inl (cA, n, .inl f)), (aO, .inl (cJ, 1, .inr (.inl fo)))] s.heap := hP
  have hl := lv_entry ([.ref aB, .int (nI j), .ref aO]) (n := 4) (Nat.le_of_ble_eq_true rfl)
  rw [lg_entry_eq]
  generalize (lg_sl ([.ref aB, .int (nI j), .ref aO]) ++ List.replicate (4 - (lg_sl ([.ref aB, .int (nI j), .ref aO])).length) Slot.unset).toArray = ls at hl ⊢
  have hl : lv_has ls 4 [(0, .ref aB), (1, .int (nI j)), (2, .ref aO)] := hl
  refine lv_aload_n hx hb dc_L_byteAt_0 rfl (lv_at hl 2 rfl) ?_
  refine lv_iconst (v := 0) hx hb dc_L_byteAt_1 (by decide) ?_
  refine lv_aload_n hx hb dc_L_byteAt_2 rfl (lv_at hl 0 rfl) ?_
  refine lv_iload_n hx hb dc_L_byteAt_3 rfl (lv_at hl 1 rfl) ?_
  refine kc_i (wc := [(aB, .inr (6, [.ref aT, .ref aF, .ref aQ, .int fk, .int fp])), (aT, .inr (5, [.ref aR, .int (nI k), .int ch])), (aR, .inl (cA, n, .inl f))]) (wr := [(aO, .inl (cJ, 1, .inr (.inl fo)))]) hP hD hS hA [0, 1, 2] [3] rfl rfl (by decide) (by decide) (va_runV (As := [.int (nI j)]) (rest := [.int 0, .ref aO]) ⟨hx, hb, hml, hown, hts⟩ (c_B_byteAt_ok l dC dI _ aB aF aQ fk fp aT aR cA n f k ch j (hk) (hn) (hj)) (kw_V 1 hts bw3_40 bw3_41 bw3_42 bw1_1 bw3_43 rfl rfl (by decide +kernel) ⟨Nat.le_of_ble_eq_true rfl, Nat.le_of_ble_eq_true rfl⟩) (kp_V (wc := [(aB, .inr (6, [.ref aT, .ref aF, .ref aQ, .int fk, .int fp])), (aT, .inr (5, [.ref aR, .int (nI k), .int ch])), (aR, .inl (cA, n, .inl f))]) (tc := [(cA, .byte)]) (As := [.int (nI j)]) hG hS hA hP hD hK [0, 1, 2] rfl (by decide) rfl [0] rfl (ci := 6) (q0 := 0) rfl rfl) rfl rfl hl.1 rfl (lv_room (Nat.le_of_ble_eq_true rfl)) dc_L_byteAt_4 ⟨Nat.zero_le _, Nat.zero_le _⟩) (fun r_1 _ H locs hw hP hD hK1 hS => ?_)
  have hw : tb f k (nI j) = r_1 := hw.symm
  subst hw
  have hP : va_P (dC, dI) vwCl [(aO, .inl (cJ, 1, .inr (.inl fo))), (aB, .inr (6, [.ref aT, .ref aF, .ref aQ, .int fk, .int fp])), (aT, .inr (5, [.ref aR, .int (nI k), .int ch])), (aR, .inl (cA, n, .inl f))] H := hP
  have hD : va_D A [(aO, .inl (cJ, 1, .inr (.inl fo))), (aB, .inr (6, [.ref aT, .ref aF, .ref aQ, .int fk, .int fp])), (aT, .inr (5, [.ref aR, .int (nI k), .int ch])), (aR, .inl (cA, n, .inl f))] := hD
  refine lv_i2l (v := (tb f k (nI j)).toInt64) hx hb dc_L_byteAt_7 rfl ?_
  rw [show (0 : Int32) = nI 0 from rfl]
  refine va_last hx hb hK hP hD hS 0 1 rfl rfl (vp_in_nI (by omega) (by omega)) dc_L_byteAt_8 (fun H locs hP hD hS => ?_)
  rw [show (nI 0).toNatClampNeg = 0 from nI_clamp (by omega)] at hP hD
  have hP : va_P (dC, dI) vwCl [(aO, .inl (cJ, 1, .inr (.inl (vp_updL fo 0 ((tb f k (nI j)).toInt64))))), (aB, .inr (6, [.ref aT, .ref aF, .ref aQ, .int fk, .int fp])), (aT, .inr (5, [.ref aR, .int (nI k), .int ch])), (aR, .inl (cA, n, .inl f))] H := hP
  have hD : va_D A [(aO, .inl (cJ, 1, .inr (.inl (vp_updL fo 0 ((tb f k (nI j)).toInt64))))), (aB, .inr (6, [.ref aT, .ref aF, .ref aQ, .int fk, .int fp])), (aT, .inr (5, [.ref aR, .int (nI k), .int ch])), (aR, .inl (cA, n, .inl f))] := hD
  refine lv_goto (tgt := 15) hx hb dc_L_byteAt_9 (by decide) ?_
  refine lv_iconst (v := 0) hx hb dc_L_byteAt_15 (by decide) ?_
  have hP9 := hP.sub (ws' := [(aB, .inr (6, [.ref aT, .ref aF, .ref aQ, .int fk, .int fp])), (aT, .inr (5, [.ref aR, .int (nI k), .int ch])), (aR, .inl (cA, n, .inl f)), (aO, .inl (cJ, 1, .inr (.inl (vp_updL fo 0 ((tb f k (nI j)).toInt64)))))]) [1, 2, 3, 0] rfl
  have hD9 := hD.sub (ws' := [(aB, .inr (6, [.ref aT, .ref aF, .ref aQ, .int fk, .int fp])), (aT, .inr (5, [.ref aR, .int (nI k), .int ch])), (aR, .inl (cA, n, .inl f)), (aO, .inl (cJ, 1, .inr (.inl (vp_updL fo 0 ((tb f k (nI j)).toInt64)))))]) [1, 2, 3, 0] (by decide) rfl
  have hK9 := hK.sub (tys' := [(cA, .byte), (cJ, .long)]) [0, 1] rfl
  exact W.iret (v := 0) hx hb hr (fun t ht hW => ⟨⟨0, (), rfl, rfl, by rw [ht]; exact hP9, va_K.moved hW.alike hK9, hD9⟩, hS.F ht⟩) hS.2.2 dc_L_byteAt_16

set_option maxHeartbeats 1000000 in
set_option maxRecDepth 100000 in
theorem c_L_byteAt_bad (l : Launch) (dC : Nat → ClassId) (dI : Nat → Nat → Nat) (sz : Nat) (aB : Nat) (aF : Nat) (aQ : Nat) (fk : Int32) (fp : Int32) (aT : Nat) (aR : Nat) (cA : ClassId) (n : Nat) (f : Nat → Int32) (k : Nat) (ch : Int32) (xi : Int32) (aO : Nat) (cJ : ClassId) (fo : Nat → Int64) (hk : k ≤ n) (hn : n ≤ 16384) (hbad : hasC k xi = 0) (hst : l.stackTraces = false) : Met l my_L_byteAt (wBW my_L_byteAt cd_L_byteAt 4 (some .int) [(0, 9, 12, 19)]) ({ frames := 7, cells := 1, slots := 6, locals := 103 }) (va_Pc [.ref aB, .int xi, .ref aO] (PcW (dC, dI) [(aB, .inr (6, [.ref aT, .ref aF, .ref aQ, .int fk, .int fp])), (aT, .inr (5, [.ref aR, .int (nI k), .int ch])), (aR, .inl (cA, n, .inl f)), (aO, .inl (cJ, 1, .inr (.inl fo)))] [(cA, .byte), (cJ, .long)] sz)) (va_Qi (fun (r : Int32) => fun (_ : Unit) => r = 1) (fun _ => EnW (dC, dI) (va_A [(aB, .inr (6, [.ref aT, .ref aF, .ref aQ, .int fk, .int fp])), (aT, .inr (5, [.ref aR, .int (nI k), .int ch])), (aR, .inl (cA, n, .inl f)), (aO, .inl (cJ, 1, .inr (.inl fo)))] sz) [(aB, .inr (6, [.ref aT, .ref aF, .ref aQ, .int fk, .int fp])), (aT, .inr (5, [.ref aR, .int (nI k), .int ch])), (aR, .inl (cA, n, .inl f)), (aO, .inl (cJ, 1, .inr (.inl fo)))] [(cA, .byte), (cJ, .long)]) (va_A [(aB, .inr (6, [.ref aT, .ref aF, .ref aQ, .int fk, .int fp])), (aT, .inr (5, [.ref aR, .int (nI k), .int ch])), (aR, .inl (cA, n, .inl f)), (aO, .inl (cJ, 1, .inr (.inl fo)))] sz)) 1 6 (va_A [(aB, .inr (6, [.ref aT, .ref aF, .ref aQ, .int fk, .int fp])), (aT, .inr (5, [.ref aR, .int (nI k), .int ch])), (aR, .inl (cA, n, .inl f)), (aO, .inl (cJ, 1, .inr (.inl fo)))] sz) := by
  refine va_MetW (cc := cd_L_byteAt) (maxL := 4) (ret := (some .int)) (hh := [(0, 9, 12, 19)]) (by decide) rfl ?_
  intro p e s m args below meth c s₁ B hml hv
  obtain ⟨rfl, hsz, hP, hK, hD0, hG⟩ := hv
  have hx := B.exec
  have hb := B.bytes
  have hr := B.returns
  have hts := fun (w : Cond) (h : w ∈ bigT) => atoms_spec (ws := (wBW my_L_byteAt cd_L_byteAt 4 (some .int) [(0, 9, 12, 19)])) B.pre w (List.mem_cons_of_mem _ h)
  have hown : s.vm.findClass rn_L = some m.cls := findClass_of_methodNamed B.named
  have hlocks := B.notSynchronized
  have htb := vx_table (x := my_L_byteAt) B (atoms_spec (ws := (wBW my_L_byteAt cd_L_byteAt 4 (some .int) [(0, 9, 12, 19)])) B.pre _ (List.mem_cons_self ..))
  subst hsz
  have hD := hD0.self (sz := s.heap.size)
  generalize hAe : va_A [(aB, .inr (6, [.ref aT, .ref aF, .ref aQ, .int fk, .int fp])), (aT, .inr (5, [.ref aR, .int (nI k), .int ch])), (aR, .inl (cA, n, .inl f)), (aO, .inl (cJ, 1, .inr (.inl fo)))] s.heap.size = A at hD hG ⊢
  have hA : ∀ q : Nat, s.heap.size ≤ q → A q := fun q h => by rw [← hAe]; exact Or.inr h
  have hS : va_S A s.heap s.heap [] := va_S.rf
  have hP : va_P (dC, dI) vwCl [(aB, .inr (6, [.ref aT, .ref aF, .ref aQ, .int fk, .int fp])), (aT, .inr (5, [.ref aR, .int (nI k), .int ch])), (aR, .inl (cA, n, .inl f)), (aO, .inl (cJ, 1, .inr (.inl fo)))] s.heap := hP
  have hl := lv_entry ([.ref aB, .int xi, .ref aO]) (n := 4) (Nat.le_of_ble_eq_true rfl)
  rw [lg_entry_eq]
  generalize (lg_sl ([.ref aB, .int xi, .ref aO]) ++ List.replicate (4 - (lg_sl ([.ref aB, .int xi, .ref aO])).length) Slot.unset).toArray = ls at hl ⊢
  have hl : lv_has ls 4 [(0, .ref aB), (1, .int xi), (2, .ref aO)] := hl
  refine lv_aload_n hx hb dc_L_byteAt_0 rfl (lv_at hl 2 rfl) ?_
  refine lv_iconst (v := 0) hx hb dc_L_byteAt_1 (by decide) ?_
  refine lv_aload_n hx hb dc_L_byteAt_2 rfl (lv_at hl 0 rfl) ?_
  refine lv_iload_n hx hb dc_L_byteAt_3 rfl (lv_at hl 1 rfl) ?_
  refine kcx_i (wc := [(aB, .inr (6, [.ref aT, .ref aF, .ref aQ, .int fk, .int fp])), (aT, .inr (5, [.ref aR, .int (nI k), .int ch])), (aR, .inl (cA, n, .inl f))]) (wr := [(aO, .inl (cJ, 1, .inr (.inl fo)))]) hP hD hS hA [0, 1, 2] [3] rfl rfl (by decide) (by decide) (vx_runV (As := [.int xi]) (rest := [.int 0, .ref aO]) ⟨hx, hb, hml, hown, hts⟩ (c_B_byteAt_bad l dC dI _ aB aF aQ fk fp aT aR cA n f k ch xi (hk) (hn) (hbad) hst) (kw_V 1 hts bw3_40 bw3_41 bw3_42 bw1_1 bw3_43 rfl rfl (by decide +kernel) ⟨Nat.le_of_ble_eq_true rfl, Nat.le_of_ble_eq_true rfl⟩) (kp_V (wc := [(aB, .inr (6, [.ref aT, .ref aF, .ref aQ, .int fk, .int fp])), (aT, .inr (5, [.ref aR, .int (nI k), .int ch])), (aR, .inl (cA, n, .inl f))]) (tc := [(cA, .byte)]) (As := [.int xi]) hG hS hA hP hD hK [0, 1, 2] rfl (by decide) rfl [0] rfl (ci := 6) (q0 := 0) rfl rfl) rfl rfl hl.1 rfl (lv_room (Nat.le_of_ble_eq_true rfl)) dc_L_byteAt_4 ⟨by show _ ≤ 1; omega, by show _ ≤ 6; omega⟩) (fun _ ce q_1 H locs hP hD hK1 hS h1 h2 h3 => ?_)
  refine vx_catch (own := "BatchBytesLaw") hown [] ⟨0, 9, 12, 19⟩ [] (htb.trans rfl) (fun z hz => nomatch hz) (by decide) (by decide) (hts _ bw2_75) (nd_use hG.1 (.castable "java/lang/IllegalArgumentException" "java/lang/IllegalArgumentException") (by decide +kernel)) h1 h2 h3 ?_
  have hP : va_P (dC, dI) vwCl [(aO, .inl (cJ, 1, .inr (.inl fo))), (aB, .inr (6, [.ref aT, .ref aF, .ref aQ, .int fk, .int fp])), (aT, .inr (5, [.ref aR, .int (nI k), .int ch])), (aR, .inl (cA, n, .inl f))] H := hP
  have hD : va_D A [(aO, .inl (cJ, 1, .inr (.inl fo))), (aB, .inr (6, [.ref aT, .ref aF, .ref aQ, .int fk, .int fp])), (aT, .inr (5, [.ref aR, .int (nI k), .int ch])), (aR, .inl (cA, n, .inl f))] := hD
  refine lv_astore_n (lv' := [(3, .ref q_1), (0, .ref aB), (1, .int xi), (2, .ref aO)]) hx hb dc_L_byteAt_12 rfl hl (by decide) rfl (fun ls hl => ?_)
  refine lv_iconst (v := 1) hx hb dc_L_byteAt_13 (by decide) ?_
  have hP9 := hP.sub (ws' := [(aB, .inr (6, [.ref aT, .ref aF, .ref aQ, .int fk, .int fp])), (aT, .inr (5, [.ref aR, .int (nI k), .int ch])), (aR, .inl (cA, n, .inl f)), (aO, .inl (cJ, 1, .inr (.inl fo)))]) [1, 2, 3, 0] rfl
  have hD9 := hD.sub (ws' := [(aB, .inr (6, [.ref aT, .ref aF, .ref aQ, .int fk, .int fp])), (aT, .inr (5, [.ref aR, .int (nI k), .int ch])), (aR, .inl (cA, n, .inl f)), (aO, .inl (cJ, 1, .inr (.inl fo)))]) [1, 2, 3, 0] (by decide) rfl
  have hK9 := hK.sub (tys' := [(cA, .byte), (cJ, .long)]) [0, 1] rfl
  refine W.widen (k := 1) (n := 6) (by omega) (by omega) ?_
  exact W.iret (v := 1) hx hb hr (fun t ht hW => ⟨⟨1, (), rfl, rfl, by rw [ht]; exact hP9, va_K.moved hW.alike hK9, hD9⟩, hS.F ht⟩) hS.2.2 dc_L_byteAt_14

set_option maxHeartbeats 1000000 in
set_option maxRecDepth 100000 in
theorem c_L_fault_ok (l : Launch) (dC : Nat → ClassId) (dI : Nat → Nat → Nat) (sz : Nat) (aB : Nat) (aF : Nat) (fk : Int32) (fp : Int32) (aQ : Nat) (aT : Nat) (aK : Nat) (aV : Nat) (pl : Int32) (en : Int32) (so : Int32) (sa : Int32) (ti : Int64) (aR : Nat) (cA : ClassId) (n : Nat) (f : Nat → Int32) (k : Nat) (ch : Int32) (kl : Int32) (kp : Int32) (vl : Int32) (vp : Int32) (xw : Int32) (aO : Nat) (cJ : ClassId) (fo : Nat → Int64) (hk : k ≤ n) (hn : n ≤ 16384) (hw0 : ¬ xw < 0) (hw1 : xw ≤ 1) : Met l my_L_fault (wBW my_L_fault cd_L_fault 4 (some .int) [(0, 9, 12, 19)]) ({ frames := 8, cells := 0, slots := 0, locals := 184 }) (va_Pc [.ref aB, .int xw, .ref aO] (PcW (dC, dI) [(aB, .inr (6, [.ref aT, .ref aF, .ref aQ, .int fk, .int fp])), (aQ, .inr (4, [.ref aT, .ref aK, .ref aV, .int pl, .int en, .int so, .int sa, .long ti])), (aT, .inr (5, [.ref aR, .int (nI k), .int ch])), (aR, .inl (cA, n, .inl f)), (aK, .inr (3, [.int kl, .int kp])), (aV, .inr (3, [.int vl, .int vp])), (aO, .inl (cJ, 1, .inr (.inl fo)))] [(cA, .byte), (cJ, .long)] sz)) (va_Qi (fun (r : Int32) => fun (u : Int32 × Int32 × Int32 × Int32 × Int64 × Int32 × Int32 × Int32 × Int32) => r = 0) (fun u => EnW (dC, dI) (va_A [(aB, .inr (6, [.ref aT, .ref aF, .ref aQ, .int fk, .int fp])), (aQ, .inr (4, [.ref aT, .ref aK, .ref aV, .int pl, .int en, .int so, .int sa, .long ti])), (aT, .inr (5, [.ref aR, .int (nI k), .int ch])), (aR, .inl (cA, n, .inl f)), (aK, .inr (3, [.int kl, .int kp])), (aV, .inr (3, [.int vl, .int vp])), (aO, .inl (cJ, 1, .inr (.inl fo)))] sz) [(aB, .inr (6, [.ref aT, .ref aF, .ref aQ, .int (if ch = 0 then fk else (jgC f k).1), .int (if ch = 0 then fp else (jgC f k).2)])), (aQ, .inr (4, [.ref aT, .ref aK, .ref aV, .int u.1, .int u.2.1, .int u.2.2.1, .int u.2.2.2.1, .long u.2.2.2.2.1])), (aT, .inr (5, [.ref aR, .int (nI k), .int 0])), (aR, .inl (cA, n, .inl f)), (aK, .inr (3, [.int u.2.2.2.2.2.1, .int u.2.2.2.2.2.2.1])), (aV, .inr (3, [.int u.2.2.2.2.2.2.2.1, .int u.2.2.2.2.2.2.2.2])), (aO, .inl (cJ, 1, .inr (.inl (vp_updL fo 0 ((if xw = 0 then (if ch = 0 then fk else (jgC f k).1) else (if ch = 0 then fp else (jgC f k).2)).toInt64)))))] [(cA, .byte), (cJ, .long)]) (va_A [(aB, .inr (6, [.ref aT, .ref aF, .ref aQ, .int fk, .int fp])), (aQ, .inr (4, [.ref aT, .ref aK, .ref aV, .int pl, .int en, .int so, .int sa, .long ti])), (aT, .inr (5, [.ref aR, .int (nI k), .int ch])), (aR, .inl (cA, n, .inl f)), (aK, .inr (3, [.int kl, .int kp])), (aV, .inr (3, [.int vl, .int vp])), (aO, .inl (cJ, 1, .inr (.inl fo)))] sz)) 0 0 (va_A [(aB, .inr (6, [.ref aT, .ref aF, .ref aQ, .int fk, .int fp])), (aQ, .inr (4, [.ref aT, .ref aK, .ref aV, .int pl, .int en, .int so, .int sa, .long ti])), (aT, .inr (5, [.ref aR, .int (nI k), .int ch])), (aR, .inl (cA, n, .inl f)), (aK, .inr (3, [.int kl, .int kp])), (aV, .inr (3, [.int vl, .int vp])), (aO, .inl (cJ, 1, .inr (.inl fo)))] sz) := by
  refine va_MetW (cc := cd_L_fault) (maxL := 4) (ret := (some .int)) (hh := [(0, 9, 12, 19)]) (by decide) rfl ?_
  intro p e s m args below meth c s₁ B hml hv
  obtain ⟨rfl, hsz, hP, hK, hD0, hG⟩ := hv
  have hx := B.exec
  have hb := B.bytes
  have hr := B.returns
  have hts := fun (w : Cond) (h : w ∈ bigT) => atoms_spec (ws := (wBW my_L_fault cd_L_fault 4 (some .int) [(0, 9, 12, 19)])) B.pre w (List.mem_cons_of_mem _ h)
  have hown : s.vm.findClass rn_L = some m.cls := findClass_of_methodNamed B.named
  have hlocks := B.notSynchronized
  have htb := vx_table (x := my_L_fault) B (atoms_spec (ws := (wBW my_L_fault cd_L_fault 4 (some .int) [(0, 9, 12, 19)])) B.pre _ (List.mem_cons_self ..))
  subst hsz
  have hD := hD0.self (sz := s.heap.size)
  generalize hAe : va_A [(aB, .inr (6, [.ref aT, .ref aF, .ref aQ, .int fk, .int fp])), (aQ, .inr (4, [.ref aT, .ref aK, .ref aV, .int pl, .int en, .int so, .int sa, .long ti])), (aT, .inr (5, [.ref aR, .int (nI k), .int ch])), (aR, .inl (cA, n, .inl f)), (aK, .inr (3, [.int kl, .int kp])), (aV, .inr (3, [.int vl, .int vp])), (aO, .inl (cJ, 1, .inr (.inl fo)))] s.heap.size = A at hD hG ⊢
  have hA : ∀ q : Nat, s.heap.size ≤ q → A q := fun q h => by rw [← hAe]; exact Or.inr h
  have hS : va_S A s.heap s.heap [] := va_S.rf
  have hP : va_P (dC, dI) vwCl [(aB, .inr (6, [.ref aT, .ref aF, .ref aQ, .int fk, .int fp])), (aQ, .inr (4, [.ref aT, .ref aK, .ref aV, .int pl, .int en, .int so, .int sa, .long ti])), (aT, .inr (5, [.ref aR, .int (nI k), .int ch])), (aR, .inl (cA, n, .inl f)), (aK, .inr (3, [.int kl, .int kp])), (aV, .inr (3, [.int vl, .int vp])), (aO, .inl (cJ, 1, .inr (.inl fo)))] s.heap := hP
  have hl := lv_entry ([.ref aB, .int xw, .ref aO]) (n := 4) (Nat.le_of_ble_eq_true rfl)
  rw [lg_entry_eq]
  generalize (lg_sl ([.ref aB, .int xw, .ref aO]) ++ List.replicate (4 - (lg_sl ([.ref aB, .int xw, .ref aO])).length) Slot.unset).toArray = ls at hl ⊢
  have hl : lv_has ls 4 [(0, .ref aB), (1, .int xw), (2, .ref aO)] := hl
  refine lv_aload_n hx hb dc_L_fault_0 rfl (lv_at hl 2 rfl) ?_
  refine lv_iconst (v := 0) hx hb dc_L_fault_1 (by decide) ?_
  refine lv_aload_n hx hb dc_L_fault_2 rfl (lv_at hl 0 rfl) ?_
  refine lv_iload_n hx hb dc_L_fault_3 rfl (lv_at hl 1 rfl) ?_
  refine kc_i (wc := [(aB, .inr (6, [.ref aT, .ref aF, .ref aQ, .int fk, .int fp])), (aQ, .inr (4, [.ref aT, .ref aK, .ref aV, .int pl, .int en, .int so, .int sa, .long ti])), (aT, .inr (5, [.ref aR, .int (nI k), .int ch])), (aR, .inl (cA, n, .inl f)), (aK, .inr (3, [.int kl, .int kp])), (aV, .inr (3, [.int vl, .int vp]))]) (wr := [(aO, .inl (cJ, 1, .inr (.inl fo)))]) hP hD hS hA [0, 1, 2, 3, 4, 5] [6] rfl rfl (by decide) (by decide) (va_runV (As := [.int xw]) (rest := [.int 0, .ref aO]) ⟨hx, hb, hml, hown, hts⟩ (c_B_fault_ok l dC dI _ aB aF fk fp aQ aT aK aV pl en so sa ti aR cA n f k ch kl kp vl vp xw (hk) (hn) (hw0) (hw1)) (kw_V 1 hts bw3_47 bw3_48 bw3_49 bw1_1 bw3_50 rfl rfl (by decide +kernel) ⟨Nat.le_of_ble_eq_true rfl, Nat.le_of_ble_eq_true rfl⟩) (kp_V (wc := [(aB, .inr (6, [.ref aT, .ref aF, .ref aQ, .int fk, .int fp])), (aQ, .inr (4, [.ref aT, .ref aK, .ref aV, .int pl, .int en, .int so, .int sa, .long ti])), (aT, .inr (5, [.ref aR, .int (nI k), .int ch])), (aR, .inl (cA, n, .inl f)), (aK, .inr (3, [.int kl, .int kp])), (aV, .inr (3, [.int vl, .int vp]))]) (tc := [(cA, .byte)]) (As := [.int xw]) hG hS hA hP hD hK [0, 1, 2, 3, 4, 5] rfl (by decide) rfl [0] rfl (ci := 6) (q0 := 0) rfl rfl) rfl rfl hl.1 rfl (lv_room (Nat.le_of_ble_eq_true rfl)) dc_L_fault_4 ⟨Nat.zero_le _, Nat.zero_le _⟩) (fun r_10 u_11 H locs hw hP hD hK1 hS => ?_)
  obtain ⟨pl1_1, en1_2, so1_3, sa1_4, ti1_5, kl1_6, kp1_7, vl1_8, vp1_9⟩ := u_11
  have hw : (if xw = 0 then (if ch = 0 then fk else (jgC f k).1) else (if ch = 0 then fp else (jgC f k).2)) = r_10 := hw.symm
  subst hw
  have hP : va_P (dC, dI) vwCl [(aO, .inl (cJ, 1, .inr (.inl fo))), (aB, .inr (6, [.ref aT, .ref aF, .ref aQ, .int (if ch = 0 then fk else (jgC f k).1), .int (if ch = 0 then fp else (jgC f k).2)])), (aQ, .inr (4, [.ref aT, .ref aK, .ref aV, .int pl1_1, .int en1_2, .int so1_3, .int sa1_4, .long ti1_5])), (aT, .inr (5, [.ref aR, .int (nI k), .int 0])), (aR, .inl (cA, n, .inl f)), (aK, .inr (3, [.int kl1_6, .int kp1_7])), (aV, .inr (3, [.int vl1_8, .int vp1_9]))] H := hP
  have hD : va_D A [(aO, .inl (cJ, 1, .inr (.inl fo))), (aB, .inr (6, [.ref aT, .ref aF, .ref aQ, .int (if ch = 0 then fk else (jgC f k).1), .int (if ch = 0 then fp else (jgC f k).2)])), (aQ, .inr (4, [.ref aT, .ref aK, .ref aV, .int pl1_1, .int en1_2, .int so1_3, .int sa1_4, .long ti1_5])), (aT, .inr (5, [.ref aR, .int (nI k), .int 0])), (aR, .inl (cA, n, .inl f)), (aK, .inr (3, [.int kl1_6, .int kp1_7])), (aV, .inr (3, [.int vl1_8, .int vp1_9]))] := hD
  refine lv_i2l (v := (if xw = 0 then (if ch = 0 then fk else (jgC f k).1) else (if ch = 0 then fp else (jgC f k).2)).toInt64) hx hb dc_L_fault_7 rfl ?_
  rw [show (0 : Int32) = nI 0 from rfl]
  refine va_last hx hb hK hP hD hS 0 1 rfl rfl (vp_in_nI (by omega) (by omega)) dc_L_fault_8 (fun H locs hP hD hS => ?_)
  rw [show (nI 0).toNatClampNeg = 0 from nI_clamp (by omega)] at hP hD
  have hP : va_P (dC, dI) vwCl [(aO, .inl (cJ, 1, .inr (.inl (vp_updL fo 0 ((if xw = 0 then (if ch = 0 then fk else (jgC f k).1) else (if ch = 0 then fp else (jgC f k).2)).toInt64))))), (aB, .inr (6, [.ref aT, .ref aF, .ref aQ, .int (if ch = 0 then fk else (jgC f k).1), .int (if ch = 0 then fp else (jgC f k).2)])), (aQ, .inr (4, [.ref aT, .ref aK, .ref aV, .int pl1_1, .int en1_2, .int so1_3, .int sa1_4, .long ti1_5])), (aT, .inr (5, [.ref aR, .int (nI k), .int 0])), (aR, .inl (cA, n, .inl f)), (aK, .inr (3, [.int kl1_6, .int kp1_7])), (aV, .inr (3, [.int vl1_8, .int vp1_9]))] H := hP
  have hD : va_D A [(aO, .inl (cJ, 1, .inr (.inl (vp_updL fo 0 ((if xw = 0 then (if ch = 0 then fk else (jgC f k).1) else (if ch = 0 then fp else (jgC f k).2)).toInt64))))), (aB, .inr (6, [.ref aT, .ref aF, .ref aQ, .int (if ch = 0 then fk else (jgC f k).1), .int (if ch = 0 then fp else (jgC f k).2)])), (aQ, .inr (4, [.ref aT, .ref aK, .ref aV, .int pl1_1, .int en1_2, .int so1_3, .int sa1_4, .long ti1_5])), (aT, .inr (5, [.ref aR, .int (nI k), .int 0])), (aR, .inl (cA, n, .inl f)), (aK, .inr (3, [.int kl1_6, .int kp1_7])), (aV, .inr (3, [.int vl1_8, .int vp1_9]))] := hD
  refine lv_goto (tgt := 15) hx hb dc_L_fault_9 (by decide) ?_
  refine lv_iconst (v := 0) hx hb dc_L_fault_15 (by decide) ?_
  have hP9 := hP.sub (ws' := [(aB, .inr (6, [.ref aT, .ref aF, .ref aQ, .int (if ch = 0 then fk else (jgC f k).1), .int (if ch = 0 then fp else (jgC f k).2)])), (aQ, .inr (4, [.ref aT, .ref aK, .ref aV, .int pl1_1, .int en1_2, .int so1_3, .int sa1_4, .long ti1_5])), (aT, .inr (5, [.ref aR, .int (nI k), .int 0])), (aR, .inl (cA, n, .inl f)), (aK, .inr (3, [.int kl1_6, .int kp1_7])), (aV, .inr (3, [.int vl1_8, .int vp1_9])), (aO, .inl (cJ, 1, .inr (.inl (vp_updL fo 0 ((if xw = 0 then (if ch = 0 then fk else (jgC f k).1) else (if ch = 0 then fp else (jgC f k).2)).toInt64)))))]) [1, 2, 3, 4, 5, 6, 0] rfl
  have hD9 := hD.sub (ws' := [(aB, .inr (6, [.ref aT, .ref aF, .ref aQ, .int (if ch = 0 then fk else (jgC f k).1), .int (if ch = 0 then fp else (jgC f k).2)])), (aQ, .inr (4, [.ref aT, .ref aK, .ref aV, .int pl1_1, .int en1_2, .int so1_3, .int sa1_4, .long ti1_5])), (aT, .inr (5, [.ref aR, .int (nI k), .int 0])), (aR, .inl (cA, n, .inl f)), (aK, .inr (3, [.int kl1_6, .int kp1_7])), (aV, .inr (3, [.int vl1_8, .int vp1_9])), (aO, .inl (cJ, 1, .inr (.inl (vp_updL fo 0 ((if xw = 0 then (if ch = 0 then fk else (jgC f k).1) else (if ch = 0 then fp else (jgC f k).2)).toInt64)))))]) [1, 2, 3, 4, 5, 6, 0] (by decide) rfl
  have hK9 := hK.sub (tys' := [(cA, .byte), (cJ, .long)]) [0, 1] rfl
  exact W.iret (v := 0) hx hb hr (fun t ht hW => ⟨⟨0, (pl1_1, en1_2, so1_3, sa1_4, ti1_5, kl1_6, kp1_7, vl1_8, vp1_9), rfl, rfl, by rw [ht]; exact hP9, va_K.moved hW.alike hK9, hD9⟩, hS.F ht⟩) hS.2.2 dc_L_fault_16

set_option maxHeartbeats 1000000 in
set_option maxRecDepth 100000 in
theorem c_L_fault_bad (l : Launch) (dC : Nat → ClassId) (dI : Nat → Nat → Nat) (sz : Nat) (aB : Nat) (aT : Nat) (aF : Nat) (aQ : Nat) (fk : Int32) (fp : Int32) (xw : Int32) (aO : Nat) (cJ : ClassId) (fo : Nat → Int64) (hbad : xw < 0 ∨ ¬ xw ≤ 1) (hst : l.stackTraces = false) : Met l my_L_fault (wBW my_L_fault cd_L_fault 4 (some .int) [(0, 9, 12, 19)]) ({ frames := 7, cells := 1, slots := 6, locals := 103 }) (va_Pc [.ref aB, .int xw, .ref aO] (PcW (dC, dI) [(aB, .inr (6, [.ref aT, .ref aF, .ref aQ, .int fk, .int fp])), (aO, .inl (cJ, 1, .inr (.inl fo)))] [(cJ, .long)] sz)) (va_Qi (fun (r : Int32) => fun (_ : Unit) => r = 1) (fun _ => EnW (dC, dI) (va_A [(aB, .inr (6, [.ref aT, .ref aF, .ref aQ, .int fk, .int fp])), (aO, .inl (cJ, 1, .inr (.inl fo)))] sz) [(aB, .inr (6, [.ref aT, .ref aF, .ref aQ, .int fk, .int fp])), (aO, .inl (cJ, 1, .inr (.inl fo)))] [(cJ, .long)]) (va_A [(aB, .inr (6, [.ref aT, .ref aF, .ref aQ, .int fk, .int fp])), (aO, .inl (cJ, 1, .inr (.inl fo)))] sz)) 1 6 (va_A [(aB, .inr (6, [.ref aT, .ref aF, .ref aQ, .int fk, .int fp])), (aO, .inl (cJ, 1, .inr (.inl fo)))] sz) := by
  refine va_MetW (cc := cd_L_fault) (maxL := 4) (ret := (some .int)) (hh := [(0, 9, 12, 19)]) (by decide) rfl ?_
  intro p e s m args below meth c s₁ B hml hv
  obtain ⟨rfl, hsz, hP, hK, hD0, hG⟩ := hv
  have hx := B.exec
  have hb := B.bytes
  have hr := B.returns
  have hts := fun (w : Cond) (h : w ∈ bigT) => atoms_spec (ws := (wBW my_L_fault cd_L_fault 4 (some .int) [(0, 9, 12, 19)])) B.pre w (List.mem_cons_of_mem _ h)
  have hown : s.vm.findClass rn_L = some m.cls := findClass_of_methodNamed B.named
  have hlocks := B.notSynchronized
  have htb := vx_table (x := my_L_fault) B (atoms_spec (ws := (wBW my_L_fault cd_L_fault 4 (some .int) [(0, 9, 12, 19)])) B.pre _ (List.mem_cons_self ..))
  subst hsz
  have hD := hD0.self (sz := s.heap.size)
  generalize hAe : va_A [(aB, .inr (6, [.ref aT, .ref aF, .ref aQ, .int fk, .int fp])), (aO, .inl (cJ, 1, .inr (.inl fo)))] s.heap.size = A at hD hG ⊢
  have hA : ∀ q : Nat, s.heap.size ≤ q → A q := fun q h => by rw [← hAe]; exact Or.inr h
  have hS : va_S A s.heap s.heap [] := va_S.rf
  have hP : va_P (dC, dI) vwCl [(aB, .inr (6, [.ref aT, .ref aF, .ref aQ, .int fk, .int fp])), (aO, .inl (cJ, 1, .inr (.inl fo)))] s.heap := hP
  have hl := lv_entry ([.ref aB, .int xw, .ref aO]) (n := 4) (Nat.le_of_ble_eq_true rfl)
  rw [lg_entry_eq]
  generalize (lg_sl ([.ref aB, .int xw, .ref aO]) ++ List.replicate (4 - (lg_sl ([.ref aB, .int xw, .ref aO])).length) Slot.unset).toArray = ls at hl ⊢
  have hl : lv_has ls 4 [(0, .ref aB), (1, .int xw), (2, .ref aO)] := hl
  refine lv_aload_n hx hb dc_L_fault_0 rfl (lv_at hl 2 rfl) ?_
  refine lv_iconst (v := 0) hx hb dc_L_fault_1 (by decide) ?_
  refine lv_aload_n hx hb dc_L_fault_2 rfl (lv_at hl 0 rfl) ?_
  refine lv_iload_n hx hb dc_L_fault_3 rfl (lv_at hl 1 rfl) ?_
  refine kcx_i (wc := [(aB, .inr (6, [.ref aT, .ref aF, .ref aQ, .int fk, .int fp]))]) (wr := [(aO, .inl (cJ, 1, .inr (.inl fo)))]) hP hD hS hA [0] [1] rfl rfl (by decide) (by decide) (vx_runV (As := [.int xw]) (rest := [.int 0, .ref aO]) ⟨hx, hb, hml, hown, hts⟩ (c_B_fault_bad l dC dI _ aB aT aF aQ fk fp xw (hbad) hst) (kw_V 1 hts bw3_47 bw3_48 bw3_49 bw1_1 bw3_50 rfl rfl (by decide +kernel) ⟨Nat.le_of_ble_eq_true rfl, Nat.le_of_ble_eq_true rfl⟩) (kp_V (wc := [(aB, .inr (6, [.ref aT, .ref aF, .ref aQ, .int fk, .int fp]))]) (tc := []) (As := [.int xw]) hG hS hA hP hD hK [0] rfl (by decide) rfl [] rfl (ci := 6) (q0 := 0) rfl rfl) rfl rfl hl.1 rfl (lv_room (Nat.le_of_ble_eq_true rfl)) dc_L_fault_4 ⟨by show _ ≤ 1; omega, by show _ ≤ 6; omega⟩) (fun _ ce q_1 H locs hP hD hK1 hS h1 h2 h3 => ?_)
  refine vx_catch (own := "BatchBytesLaw") hown [] ⟨0, 9, 12, 19⟩ [] (htb.trans rfl) (fun z hz => nomatch hz) (by decide) (by decide) (hts _ bw2_75) (nd_use hG.1 (.castable "java/lang/IllegalArgumentException" "java/lang/IllegalArgumentException") (by decide +kernel)) h1 h2 h3 ?_
  have hP : va_P (dC, dI) vwCl [(aO, .inl (cJ, 1, .inr (.inl fo))), (aB, .inr (6, [.ref aT, .ref aF, .ref aQ, .int fk, .int fp]))] H := hP
  have hD : va_D A [(aO, .inl (cJ, 1, .inr (.inl fo))), (aB, .inr (6, [.ref aT, .ref aF, .ref aQ, .int fk, .int fp]))] := hD
  refine lv_astore_n (lv' := [(3, .ref q_1), (0, .ref aB), (1, .int xw), (2, .ref aO)]) hx hb dc_L_fault_12 rfl hl (by decide) rfl (fun ls hl => ?_)
  refine lv_iconst (v := 1) hx hb dc_L_fault_13 (by decide) ?_
  have hP9 := hP.sub (ws' := [(aB, .inr (6, [.ref aT, .ref aF, .ref aQ, .int fk, .int fp])), (aO, .inl (cJ, 1, .inr (.inl fo)))]) [1, 0] rfl
  have hD9 := hD.sub (ws' := [(aB, .inr (6, [.ref aT, .ref aF, .ref aQ, .int fk, .int fp])), (aO, .inl (cJ, 1, .inr (.inl fo)))]) [1, 0] (by decide) rfl
  have hK9 := hK.sub (tys' := [(cJ, .long)]) [0] rfl
  refine W.widen (k := 1) (n := 6) (by omega) (by omega) ?_
  exact W.iret (v := 1) hx hb hr (fun t ht hW => ⟨⟨1, (), rfl, rfl, by rw [ht]; exact hP9, va_K.moved hW.alike hK9, hD9⟩, hS.F ht⟩) hS.2.2 dc_L_fault_14

set_option maxHeartbeats 1000000 in
set_option maxRecDepth 100000 in
theorem c_L_head_ok (l : Launch) (dC : Nat → ClassId) (dI : Nat → Nat → Nat) (sz : Nat) (aB : Nat) (aF : Nat) (fk : Int32) (fp : Int32) (aQ : Nat) (aT : Nat) (aK : Nat) (aV : Nat) (pl : Int32) (en : Int32) (so : Int32) (sa : Int32) (ti : Int64) (aR : Nat) (cA : ClassId) (n : Nat) (f : Nat → Int32) (k : Nat) (ch : Int32) (kl : Int32) (kp : Int32) (vl : Int32) (vp : Int32) (xw : Int32) (aO : Nat) (cJ : ClassId) (fo : Nat → Int64) (hk : k ≤ n) (hn : n ≤ 16384) (hf : (if ch = 0 then fk else (jgC f k).1) = 0) (hw0 : ¬ xw < 0) (hw5 : xw ≤ 5) : Met l my_L_head (wBW my_L_head cd_L_head 4 (some .int) [(0, 8, 11, 19)]) ({ frames := 8, cells := 0, slots := 0, locals := 184 }) (va_Pc [.ref aB, .int xw, .ref aO] (PcW (dC, dI) [(aB, .inr (6, [.ref aT, .ref aF, .ref aQ, .int fk, .int fp])), (aQ, .inr (4, [.ref aT, .ref aK, .ref aV, .int pl, .int en, .int so, .int sa, .long ti])), (aT, .inr (5, [.ref aR, .int (nI k), .int ch])), (aR, .inl (cA, n, .inl f)), (aK, .inr (3, [.int kl, .int kp])), (aV, .inr (3, [.int vl, .int vp])), (aO, .inl (cJ, 1, .inr (.inl fo)))] [(cA, .byte), (cJ, .long)] sz)) (va_Qi (fun (r : Int32) => fun (u : Int32 × Int32 × Int32 × Int32 × Int64 × Int32 × Int32 × Int32 × Int32) => r = 0) (fun u => EnW (dC, dI) (va_A [(aB, .inr (6, [.ref aT, .ref aF, .ref aQ, .int fk, .int fp])), (aQ, .inr (4, [.ref aT, .ref aK, .ref aV, .int pl, .int en, .int so, .int sa, .long ti])), (aT, .inr (5, [.ref aR, .int (nI k), .int ch])), (aR, .inl (cA, n, .inl f)), (aK, .inr (3, [.int kl, .int kp])), (aV, .inr (3, [.int vl, .int vp])), (aO, .inl (cJ, 1, .inr (.inl fo)))] sz) [(aB, .inr (6, [.ref aT, .ref aF, .ref aQ, .int (if ch = 0 then fk else (jgC f k).1), .int (if ch = 0 then fp else (jgC f k).2)])), (aQ, .inr (4, [.ref aT, .ref aK, .ref aV, .int u.1, .int u.2.1, .int u.2.2.1, .int u.2.2.2.1, .long u.2.2.2.2.1])), (aT, .inr (5, [.ref aR, .int (nI k), .int 0])), (aR, .inl (cA, n, .inl f)), (aK, .inr (3, [.int u.2.2.2.2.2.1, .int u.2.2.2.2.2.2.1])), (aV, .inr (3, [.int u.2.2.2.2.2.2.2.1, .int u.2.2.2.2.2.2.2.2])), (aO, .inl (cJ, 1, .inr (.inl (vp_updL fo 0 (hdC (tb f k) xw)))))] [(cA, .byte), (cJ, .long)]) (va_A [(aB, .inr (6, [.ref aT, .ref aF, .ref aQ, .int fk, .int fp])), (aQ, .inr (4, [.ref aT, .ref aK, .ref aV, .int pl, .int en, .int so, .int sa, .long ti])), (aT, .inr (5, [.ref aR, .int (nI k), .int ch])), (aR, .inl (cA, n, .inl f)), (aK, .inr (3, [.int kl, .int kp])), (aV, .inr (3, [.int vl, .int vp])), (aO, .inl (cJ, 1, .inr (.inl fo)))] sz)) 0 0 (va_A [(aB, .inr (6, [.ref aT, .ref aF, .ref aQ, .int fk, .int fp])), (aQ, .inr (4, [.ref aT, .ref aK, .ref aV, .int pl, .int en, .int so, .int sa, .long ti])), (aT, .inr (5, [.ref aR, .int (nI k), .int ch])), (aR, .inl (cA, n, .inl f)), (aK, .inr (3, [.int kl, .int kp])), (aV, .inr (3, [.int vl, .int vp])), (aO, .inl (cJ, 1, .inr (.inl fo)))] sz) := by
  refine va_MetW (cc := cd_L_head) (maxL := 4) (ret := (some .int)) (hh := [(0, 8, 11, 19)]) (by decide) rfl ?_
  intro p e s m args below meth c s₁ B hml hv
  obtain ⟨rfl, hsz, hP, hK, hD0, hG⟩ := hv
  have hx := B.exec
  have hb := B.bytes
  have hr := B.returns
  have hts := fun (w : Cond) (h : w ∈ bigT) => atoms_spec (ws := (wBW my_L_head cd_L_head 4 (some .int) [(0, 8, 11, 19)])) B.pre w (List.mem_cons_of_mem _ h)
  have hown : s.vm.findClass rn_L = some m.cls := findClass_of_methodNamed B.named
  have hlocks := B.notSynchronized
  have htb := vx_table (x := my_L_head) B (atoms_spec (ws := (wBW my_L_head cd_L_head 4 (some .int) [(0, 8, 11, 19)])) B.pre _ (List.mem_cons_self ..))
  subst hsz
  have hD := hD0.self (sz := s.heap.size)
  generalize hAe : va_A [(aB, .inr (6, [.ref aT, .ref aF, .ref aQ, .int fk, .int fp])), (aQ, .inr (4, [.ref aT, .ref aK, .ref aV, .int pl, .int en, .int so, .int sa, .long ti])), (aT, .inr (5, [.ref aR, .int (nI k), .int ch])), (aR, .inl (cA, n, .inl f)), (aK, .inr (3, [.int kl, .int kp])), (aV, .inr (3, [.int vl, .int vp])), (aO, .inl (cJ, 1, .inr (.inl fo)))] s.heap.size = A at hD hG ⊢
  have hA : ∀ q : Nat, s.heap.size ≤ q → A q := fun q h => by rw [← hAe]; exact Or.inr h
  have hS : va_S A s.heap s.heap [] := va_S.rf
  have hP : va_P (dC, dI) vwCl [(aB, .inr (6, [.ref aT, .ref aF, .ref aQ, .int fk, .int fp])), (aQ, .inr (4, [.ref aT, .ref aK, .ref aV, .int pl, .int en, .int so, .int sa, .long ti])), (aT, .inr (5, [.ref aR, .int (nI k), .int ch])), (aR, .inl (cA, n, .inl f)), (aK, .inr (3, [.int kl, .int kp])), (aV, .inr (3, [.int vl, .int vp])), (aO, .inl (cJ, 1, .inr (.inl fo)))] s.heap := hP
  have hl := lv_entry ([.ref aB, .int xw, .ref aO]) (n := 4) (Nat.le_of_ble_eq_true rfl)
  rw [lg_entry_eq]
  generalize (lg_sl ([.ref aB, .int xw, .ref aO]) ++ List.replicate (4 - (lg_sl ([.ref aB, .int xw, .ref aO])).length) Slot.unset).toArray = ls at hl ⊢
  have hl : lv_has ls 4 [(0, .ref aB), (1, .int xw), (2, .ref aO)] := hl
  refine lv_aload_n hx hb dc_L_head_0 rfl (lv_at hl 2 rfl) ?_
  refine lv_iconst (v := 0) hx hb dc_L_head_1 (by decide) ?_
  refine lv_aload_n hx hb dc_L_head_2 rfl (lv_at hl 0 rfl) ?_
  refine lv_iload_n hx hb dc_L_head_3 rfl (lv_at hl 1 rfl) ?_
  refine kc_l (wc := [(aB, .inr (6, [.ref aT, .ref aF, .ref aQ, .int fk, .int fp])), (aQ, .inr (4, [.ref aT, .ref aK, .ref aV, .int pl, .int en, .int so, .int sa, .long ti])), (aT, .inr (5, [.ref aR, .int (nI k), .int ch])), (aR, .inl (cA, n, .inl f)), (aK, .inr (3, [.int kl, .int kp])), (aV, .inr (3, [.int vl, .int vp]))]) (wr := [(aO, .inl (cJ, 1, .inr (.inl fo)))]) hP hD hS hA [0, 1, 2, 3, 4, 5] [6] rfl rfl (by decide) (by decide) (va_runV (As := [.int xw]) (rest := [.int 0, .ref aO]) ⟨hx, hb, hml, hown, hts⟩ (c_B_head_ok l dC dI _ aB aF fk fp aQ aT aK aV pl en so sa ti aR cA n f k ch kl kp vl vp xw (hk) (hn) (hf) (hw0) (hw5)) (kw_V 1 hts bw3_128 bw3_129 bw3_130 bw1_1 bw3_131 rfl rfl (by decide +kernel) ⟨Nat.le_of_ble_eq_true rfl, Nat.le_of_ble_eq_true rfl⟩) (kp_V (wc := [(aB, .inr (6, [.ref aT, .ref aF, .ref aQ, .int fk, .int fp])), (aQ, .inr (4, [.ref aT, .ref aK, .ref aV, .int pl, .int en, .int so, .int sa, .long ti])), (aT, .inr (5, [.ref aR, .int (nI k), .int ch])), (aR, .inl (cA, n, .inl f)), (aK, .inr (3, [.int kl, .int kp])), (aV, .inr (3, [.int vl, .int vp]))]) (tc := [(cA, .byte)]) (As := [.int xw]) hG hS hA hP hD hK [0, 1, 2, 3, 4, 5] rfl (by decide) rfl [0] rfl (ci := 6) (q0 := 0) rfl rfl) rfl rfl hl.1 rfl (lv_room (Nat.le_of_ble_eq_true rfl)) dc_L_head_4 ⟨Nat.zero_le _, Nat.zero_le _⟩) (fun r_10 u_11 H locs hw hP hD hK1 hS => ?_)
  obtain ⟨pl1_1, en1_2, so1_3, sa1_4, ti1_5, kl1_6, kp1_7, vl1_8, vp1_9⟩ := u_11
  have hw : hdC (tb f k) xw = r_10 := hw.symm
  subst hw
  have hP : va_P (dC, dI) vwCl [(aO, .inl (cJ, 1, .inr (.inl fo))), (aB, .inr (6, [.ref aT, .ref aF, .ref aQ, .int (if ch = 0 then fk else (jgC f k).1), .int (if ch = 0 then fp else (jgC f k).2)])), (aQ, .inr (4, [.ref aT, .ref aK, .ref aV, .int pl1_1, .int en1_2, .int so1_3, .int sa1_4, .long ti1_5])), (aT, .inr (5, [.ref aR, .int (nI k), .int 0])), (aR, .inl (cA, n, .inl f)), (aK, .inr (3, [.int kl1_6, .int kp1_7])), (aV, .inr (3, [.int vl1_8, .int vp1_9]))] H := hP
  have hD : va_D A [(aO, .inl (cJ, 1, .inr (.inl fo))), (aB, .inr (6, [.ref aT, .ref aF, .ref aQ, .int (if ch = 0 then fk else (jgC f k).1), .int (if ch = 0 then fp else (jgC f k).2)])), (aQ, .inr (4, [.ref aT, .ref aK, .ref aV, .int pl1_1, .int en1_2, .int so1_3, .int sa1_4, .long ti1_5])), (aT, .inr (5, [.ref aR, .int (nI k), .int 0])), (aR, .inl (cA, n, .inl f)), (aK, .inr (3, [.int kl1_6, .int kp1_7])), (aV, .inr (3, [.int vl1_8, .int vp1_9]))] := hD
  rw [show (0 : Int32) = nI 0 from rfl]
  refine va_last hx hb hK hP hD hS 0 1 rfl rfl (vp_in_nI (by omega) (by omega)) dc_L_head_7 (fun H locs hP hD hS => ?_)
  rw [show (nI 0).toNatClampNeg = 0 from nI_clamp (by omega)] at hP hD
  have hP : va_P (dC, dI) vwCl [(aO, .inl (cJ, 1, .inr (.inl (vp_updL fo 0 (hdC (tb f k) xw))))), (aB, .inr (6, [.ref aT, .ref aF, .ref aQ, .int (if ch = 0 then fk else (jgC f k).1), .int (if ch = 0 then fp else (jgC f k).2)])), (aQ, .inr (4, [.ref aT, .ref aK, .ref aV, .int pl1_1, .int en1_2, .int so1_3, .int sa1_4, .long ti1_5])), (aT, .inr (5, [.ref aR, .int (nI k), .int 0])), (aR, .inl (cA, n, .inl f)), (aK, .inr (3, [.int kl1_6, .int kp1_7])), (aV, .inr (3, [.int vl1_8, .int vp1_9]))] H := hP
  have hD : va_D A [(aO, .inl (cJ, 1, .inr (.inl (vp_updL fo 0 (hdC (tb f k) xw))))), (aB, .inr (6, [.ref aT, .ref aF, .ref aQ, .int (if ch = 0 then fk else (jgC f k).1), .int (if ch = 0 then fp else (jgC f k).2)])), (aQ, .inr (4, [.ref aT, .ref aK, .ref aV, .int pl1_1, .int en1_2, .int so1_3, .int sa1_4, .long ti1_5])), (aT, .inr (5, [.ref aR, .int (nI k), .int 0])), (aR, .inl (cA, n, .inl f)), (aK, .inr (3, [.int kl1_6, .int kp1_7])), (aV, .inr (3, [.int vl1_8, .int vp1_9]))] := hD
  refine lv_goto (tgt := 14) hx hb dc_L_head_8 (by decide) ?_
  refine lv_iconst (v := 0) hx hb dc_L_head_14 (by decide) ?_
  have hP9 := hP.sub (ws' := [(aB, .inr (6, [.ref aT, .ref aF, .ref aQ, .int (if ch = 0 then fk else (jgC f k).1), .int (if ch = 0 then fp else (jgC f k).2)])), (aQ, .inr (4, [.ref aT, .ref aK, .ref aV, .int pl1_1, .int en1_2, .int so1_3, .int sa1_4, .long ti1_5])), (aT, .inr (5, [.ref aR, .int (nI k), .int 0])), (aR, .inl (cA, n, .inl f)), (aK, .inr (3, [.int kl1_6, .int kp1_7])), (aV, .inr (3, [.int vl1_8, .int vp1_9])), (aO, .inl (cJ, 1, .inr (.inl (vp_updL fo 0 (hdC (tb f k) xw)))))]) [1, 2, 3, 4, 5, 6, 0] rfl
  have hD9 := hD.sub (ws' := [(aB, .inr (6, [.ref aT, .ref aF, .ref aQ, .int (if ch = 0 then fk else (jgC f k).1), .int (if ch = 0 then fp else (jgC f k).2)])), (aQ, .inr (4, [.ref aT, .ref aK, .ref aV, .int pl1_1, .int en1_2, .int so1_3, .int sa1_4, .long ti1_5])), (aT, .inr (5, [.ref aR, .int (nI k), .int 0])), (aR, .inl (cA, n, .inl f)), (aK, .inr (3, [.int kl1_6, .int kp1_7])), (aV, .inr (3, [.int vl1_8, .int vp1_9])), (aO, .inl (cJ, 1, .inr (.inl (vp_updL fo 0 (hdC (tb f k) xw)))))]) [1, 2, 3, 4, 5, 6, 0] (by decide) rfl
  have hK9 := hK.sub (tys' := [(cA, .byte), (cJ, .long)]) [0, 1] rfl
  exact W.iret (v := 0) hx hb hr (fun t ht hW => ⟨⟨0, (pl1_1, en1_2, so1_3, sa1_4, ti1_5, kl1_6, kp1_7, vl1_8, vp1_9), rfl, rfl, by rw [ht]; exact hP9, va_K.moved hW.alike hK9, hD9⟩, hS.F ht⟩) hS.2.2 dc_L_head_15

set_option maxHeartbeats 1000000 in
set_option maxRecDepth 100000 in
theorem c_L_head_bad (l : Launch) (dC : Nat → ClassId) (dI : Nat → Nat → Nat) (sz : Nat) (aB : Nat) (aF : Nat) (fk : Int32) (fp : Int32) (aQ : Nat) (aT : Nat) (aK : Nat) (aV : Nat) (pl : Int32) (en : Int32) (so : Int32) (sa : Int32) (ti : Int64) (aR : Nat) (cA : ClassId) (n : Nat) (f : Nat → Int32) (k : Nat) (ch : Int32) (kl : Int32) (kp : Int32) (vl : Int32) (vp : Int32) (xw : Int32) (aO : Nat) (cJ : ClassId) (fo : Nat → Int64) (hk : k ≤ n) (hn : n ≤ 16384) (hbad : ¬ ((if ch = 0 then fk else (jgC f k).1) = 0) ∨ xw < 0 ∨ ¬ xw ≤ 5) (hst : l.stackTraces = false) : Met l my_L_head (wBW my_L_head cd_L_head 4 (some .int) [(0, 8, 11, 19)]) ({ frames := 8, cells := 1, slots := 6, locals := 184 }) (va_Pc [.ref aB, .int xw, .ref aO] (PcW (dC, dI) [(aB, .inr (6, [.ref aT, .ref aF, .ref aQ, .int fk, .int fp])), (aQ, .inr (4, [.ref aT, .ref aK, .ref aV, .int pl, .int en, .int so, .int sa, .long ti])), (aT, .inr (5, [.ref aR, .int (nI k), .int ch])), (aR, .inl (cA, n, .inl f)), (aK, .inr (3, [.int kl, .int kp])), (aV, .inr (3, [.int vl, .int vp])), (aO, .inl (cJ, 1, .inr (.inl fo)))] [(cA, .byte), (cJ, .long)] sz)) (va_Qi (fun (r : Int32) => fun (u : Int32 × Int32 × Int32 × Int32 × Int64 × Int32 × Int32 × Int32 × Int32) => r = 1) (fun u => EnW (dC, dI) (va_A [(aB, .inr (6, [.ref aT, .ref aF, .ref aQ, .int fk, .int fp])), (aQ, .inr (4, [.ref aT, .ref aK, .ref aV, .int pl, .int en, .int so, .int sa, .long ti])), (aT, .inr (5, [.ref aR, .int (nI k), .int ch])), (aR, .inl (cA, n, .inl f)), (aK, .inr (3, [.int kl, .int kp])), (aV, .inr (3, [.int vl, .int vp])), (aO, .inl (cJ, 1, .inr (.inl fo)))] sz) [(aB, .inr (6, [.ref aT, .ref aF, .ref aQ, .int (if ch = 0 then fk else (jgC f k).1), .int (if ch = 0 then fp else (jgC f k).2)])), (aQ, .inr (4, [.ref aT, .ref aK, .ref aV, .int u.1, .int u.2.1, .int u.2.2.1, .int u.2.2.2.1, .long u.2.2.2.2.1])), (aT, .inr (5, [.ref aR, .int (nI k), .int 0])), (aR, .inl (cA, n, .inl f)), (aK, .inr (3, [.int u.2.2.2.2.2.1, .int u.2.2.2.2.2.2.1])), (aV, .inr (3, [.int u.2.2.2.2.2.2.2.1, .int u.2.2.2.2.2.2.2.2])), (aO, .inl (cJ, 1, .inr (.inl fo)))] [(cA, .byte), (cJ, .long)]) (va_A [(aB, .inr (6, [.ref aT, .ref aF, .ref aQ, .int fk, .int fp])), (aQ, .inr (4, [.ref aT, .ref aK, .ref aV, .int pl, .int en, .int so, .int sa, .long ti])), (aT, .inr (5, [.ref aR, .int (nI k), .int ch])), (aR, .inl (cA, n, .inl f)), (aK, .inr (3, [.int kl, .int kp])), (aV, .inr (3, [.int vl, .int vp])), (aO, .inl (cJ, 1, .inr (.inl fo)))] sz)) 1 6 (va_A [(aB, .inr (6, [.ref aT, .ref aF, .ref aQ, .int fk, .int fp])), (aQ, .inr (4, [.ref aT, .ref aK, .ref aV, .int pl, .int en, .int so, .int sa, .long ti])), (aT, .inr (5, [.ref aR, .int (nI k), .int ch])), (aR, .inl (cA, n, .inl f)), (aK, .inr (3, [.int kl, .int kp])), (aV, .inr (3, [.int vl, .int vp])), (aO, .inl (cJ, 1, .inr (.inl fo)))] sz) := by
  refine va_MetW (cc := cd_L_head) (maxL := 4) (ret := (some .int)) (hh := [(0, 8, 11, 19)]) (by decide) rfl ?_
  intro p e s m args below meth c s₁ B hml hv
  obtain ⟨rfl, hsz, hP, hK, hD0, hG⟩ := hv
  have hx := B.exec
  have hb := B.bytes
  have hr := B.returns
  have hts := fun (w : Cond) (h : w ∈ bigT) => atoms_spec (ws := (wBW my_L_head cd_L_head 4 (some .int) [(0, 8, 11, 19)])) B.pre w (List.mem_cons_of_mem _ h)
  have hown : s.vm.findClass rn_L = some m.cls := findClass_of_methodNamed B.named
  have hlocks := B.notSynchronized
  have htb := vx_table (x := my_L_head) B (atoms_spec (ws := (wBW my_L_head cd_L_head 4 (some .int) [(0, 8, 11, 19)])) B.pre _ (List.mem_cons_self ..))
  subst hsz
  have hD := hD0.self (sz := s.heap.size)
  generalize hAe : va_A [(aB, .inr (6, [.ref aT, .ref aF, .ref aQ, .int fk, .int fp])), (aQ, .inr (4, [.ref aT, .ref aK, .ref aV, .int pl, .int en, .int so, .int sa, .long ti])), (aT, .inr (5, [.ref aR, .int (nI k), .int ch])), (aR, .inl (cA, n, .inl f)), (aK, .inr (3, [.int kl, .int kp])), (aV, .inr (3, [.int vl, .int vp])), (aO, .inl (cJ, 1, .inr (.inl fo)))] s.heap.size = A at hD hG ⊢
  have hA : ∀ q : Nat, s.heap.size ≤ q → A q := fun q h => by rw [← hAe]; exact Or.inr h
  have hS : va_S A s.heap s.heap [] := va_S.rf
  have hP : va_P (dC, dI) vwCl [(aB, .inr (6, [.ref aT, .ref aF, .ref aQ, .int fk, .int fp])), (aQ, .inr (4, [.ref aT, .ref aK, .ref aV, .int pl, .int en, .int so, .int sa, .long ti])), (aT, .inr (5, [.ref aR, .int (nI k), .int ch])), (aR, .inl (cA, n, .inl f)), (aK, .inr (3, [.int kl, .int kp])), (aV, .inr (3, [.int vl, .int vp])), (aO, .inl (cJ, 1, .inr (.inl fo)))] s.heap := hP
  have hl := lv_entry ([.ref aB, .int xw, .ref aO]) (n := 4) (Nat.le_of_ble_eq_true rfl)
  rw [lg_entry_eq]
  generalize (lg_sl ([.ref aB, .int xw, .ref aO]) ++ List.replicate (4 - (lg_sl ([.ref aB, .int xw, .ref aO])).length) Slot.unset).toArray = ls at hl ⊢
  have hl : lv_has ls 4 [(0, .ref aB), (1, .int xw), (2, .ref aO)] := hl
  refine lv_aload_n hx hb dc_L_head_0 rfl (lv_at hl 2 rfl) ?_
  refine lv_iconst (v := 0) hx hb dc_L_head_1 (by decide) ?_
  refine lv_aload_n hx hb dc_L_head_2 rfl (lv_at hl 0 rfl) ?_
  refine lv_iload_n hx hb dc_L_head_3 rfl (lv_at hl 1 rfl) ?_
  refine kcx_l (wc := [(aB, .inr (6, [.ref aT, .ref aF, .ref aQ, .int fk, .int fp])), (aQ, .inr (4, [.ref aT, .ref aK, .ref aV, .int pl, .int en, .int so, .int sa, .long ti])), (aT, .inr (5, [.ref aR, .int (nI k), .int ch])), (aR, .inl (cA, n, .inl f)), (aK, .inr (3, [.int kl, .int kp])), (aV, .inr (3, [.int vl, .int vp]))]) (wr := [(aO, .inl (cJ, 1, .inr (.inl fo)))]) hP hD hS hA [0, 1, 2, 3, 4, 5] [6] rfl rfl (by decide) (by decide) (vx_runV (As := [.int xw]) (rest := [.int 0, .ref aO]) ⟨hx, hb, hml, hown, hts⟩ (c_B_head_bad l dC dI _ aB aF fk fp aQ aT aK aV pl en so sa ti aR cA n f k ch kl kp vl vp xw (hk) (hn) (hbad) hst) (kw_V 1 hts bw3_128 bw3_129 bw3_130 bw1_1 bw3_131 rfl rfl (by decide +kernel) ⟨Nat.le_of_ble_eq_true rfl, Nat.le_of_ble_eq_true rfl⟩) (kp_V (wc := [(aB, .inr (6, [.ref aT, .ref aF, .ref aQ, .int fk, .int fp])), (aQ, .inr (4, [.ref aT, .ref aK, .ref aV, .int pl, .int en, .int so, .int sa, .long ti])), (aT, .inr (5, [.ref aR, .int (nI k), .int ch])), (aR, .inl (cA, n, .inl f)), (aK, .inr (3, [.int kl, .int kp])), (aV, .inr (3, [.int vl, .int vp]))]) (tc := [(cA, .byte)]) (As := [.int xw]) hG hS hA hP hD hK [0, 1, 2, 3, 4, 5] rfl (by decide) rfl [0] rfl (ci := 6) (q0 := 0) rfl rfl) rfl rfl hl.1 rfl (lv_room (Nat.le_of_ble_eq_true rfl)) dc_L_head_4 ⟨by show _ ≤ 1; omega, by show _ ≤ 6; omega⟩) (fun u_q_10 ce q_10 H locs hP hD hK1 hS h1 h2 h3 => ?_)
  obtain ⟨pl1_1, en1_2, so1_3, sa1_4, ti1_5, kl1_6, kp1_7, vl1_8, vp1_9⟩ := u_q_10
  refine vx_catch (own := "BatchBytesLaw") hown [] ⟨0, 8, 11, 19⟩ [] (htb.trans rfl) (fun z hz => nomatch hz) (by decide) (by decide) (hts _ bw2_75) (nd_use hG.1 (.castable "java/lang/IllegalArgumentException" "java/lang/IllegalArgumentException") (by decide +kernel)) h1 h2 h3 ?_
  have hP : va_P (dC, dI) vwCl [(aO, .inl (cJ, 1, .inr (.inl fo))), (aB, .inr (6, [.ref aT, .ref aF, .ref aQ, .int (if ch = 0 then fk else (jgC f k).1), .int (if ch = 0 then fp else (jgC f k).2)])), (aQ, .inr (4, [.ref aT, .ref aK, .ref aV, .int pl1_1, .int en1_2, .int so1_3, .int sa1_4, .long ti1_5])), (aT, .inr (5, [.ref aR, .int (nI k), .int 0])), (aR, .inl (cA, n, .inl f)), (aK, .inr (3, [.int kl1_6, .int kp1_7])), (aV, .inr (3, [.int vl1_8, .int vp1_9]))] H := hP
  have hD : va_D A [(aO, .inl (cJ, 1, .inr (.inl fo))), (aB, .inr (6, [.ref aT, .ref aF, .ref aQ, .int (if ch = 0 then fk else (jgC f k).1), .int (if ch = 0 then fp else (jgC f k).2)])), (aQ, .inr (4, [.ref aT, .ref aK, .ref aV, .int pl1_1, .int en1_2, .int so1_3, .int sa1_4, .long ti1_5])), (aT, .inr (5, [.ref aR, .int (nI k), .int 0])), (aR, .inl (cA, n, .inl f)), (aK, .inr (3, [.int kl1_6, .int kp1_7])), (aV, .inr (3, [.int vl1_8, .int vp1_9]))] := hD
  refine lv_astore_n (lv' := [(3, .ref q_10), (0, .ref aB), (1, .int xw), (2, .ref aO)]) hx hb dc_L_head_11 rfl hl (by decide) rfl (fun ls hl => ?_)
  refine lv_iconst (v := 1) hx hb dc_L_head_12 (by decide) ?_
  have hP9 := hP.sub (ws' := [(aB, .inr (6, [.ref aT, .ref aF, .ref aQ, .int (if ch = 0 then fk else (jgC f k).1), .int (if ch = 0 then fp else (jgC f k).2)])), (aQ, .inr (4, [.ref aT, .ref aK, .ref aV, .int pl1_1, .int en1_2, .int so1_3, .int sa1_4, .long ti1_5])), (aT, .inr (5, [.ref aR, .int (nI k), .int 0])), (aR, .inl (cA, n, .inl f)), (aK, .inr (3, [.int kl1_6, .int kp1_7])), (aV, .inr (3, [.int vl1_8, .int vp1_9])), (aO, .inl (cJ, 1, .inr (.inl fo)))]) [1, 2, 3, 4, 5, 6, 0] rfl
  have hD9 := hD.sub (ws' := [(aB, .inr (6, [.ref aT, .ref aF, .ref aQ, .int (if ch = 0 then fk else (jgC f k).1), .int (if ch = 0 then fp else (jgC f k).2)])), (aQ, .inr (4, [.ref aT, .ref aK, .ref aV, .int pl1_1, .int en1_2, .int so1_3, .int sa1_4, .long ti1_5])), (aT, .inr (5, [.ref aR, .int (nI k), .int 0])), (aR, .inl (cA, n, .inl f)), (aK, .inr (3, [.int kl1_6, .int kp1_7])), (aV, .inr (3, [.int vl1_8, .int vp1_9])), (aO, .inl (cJ, 1, .inr (.inl fo)))]) [1, 2, 3, 4, 5, 6, 0] (by decide) rfl
  have hK9 := hK.sub (tys' := [(cA, .byte), (cJ, .long)]) [0, 1] rfl
  refine W.widen (k := 1) (n := 6) (by omega) (by omega) ?_
  exact W.iret (v := 1) hx hb hr (fun t ht hW => ⟨⟨1, (pl1_1, en1_2, so1_3, sa1_4, ti1_5, kl1_6, kp1_7, vl1_8, vp1_9), rfl, rfl, by rw [ht]; exact hP9, va_K.moved hW.alike hK9, hD9⟩, hS.F ht⟩) hS.2.2 dc_L_head_13

set_option maxHeartbeats 1000000 in
set_option maxRecDepth 100000 in
theorem c_L_told_ok (l : Launch) (dC : Nat → ClassId) (dI : Nat → Nat → Nat) (sz : Nat) (aB : Nat) (aF : Nat) (fk : Int32) (fp : Int32) (aQ : Nat) (aT : Nat) (aK : Nat) (aV : Nat) (pl : Int32) (en : Int32) (so : Int32) (sa : Int32) (ti : Int64) (aR : Nat) (cA : ClassId) (n : Nat) (f : Nat → Int32) (k : Nat) (ch : Int32) (kl : Int32) (kp : Int32) (vl : Int32) (vp : Int32) (q : Nat) (xw : Int32) (aO : Nat) (cJ : ClassId) (fo : Nat → Int64) (hk : k ≤ n) (hn : n ≤ 16384) (hf : (if ch = 0 then fk else (jgC f k).1) = 0) (hw0 : ¬ xw < 0) (hw5 : xw ≤ 5) (hq : q < 1000) (hc : (nI q).toInt64 < sgn (tb f k) 57 4) (hs : ∀ i, i ≤ q → ¬ rrS (tb f k) (nI k) (sgn (tb f k) 27 8) (nI i) (rdP (tb f k) (nI k) (sgn (tb f k) 27 8) i) = 0) : Met l my_L_told (wBW my_L_told cd_L_told 5 (some .int) [(0, 9, 12, 19)]) ({ frames := 8, cells := 0, slots := 0, locals := 185 }) (va_Pc [.ref aB, .int (nI q), .int xw, .ref aO] (PcW (dC, dI) [(aB, .inr (6, [.ref aT, .ref aF, .ref aQ, .int fk, .int fp])), (aQ, .inr (4, [.ref aT, .ref aK, .ref aV, .int pl, .int en, .int so, .int sa, .long ti])), (aT, .inr (5, [.ref aR, .int (nI k), .int ch])), (aR, .inl (cA, n, .inl f)), (aK, .inr (3, [.int kl, .int kp])), (aV, .inr (3, [.int vl, .int vp])), (aO, .inl (cJ, 1, .inr (.inl fo)))] [(cA, .byte), (cJ, .long)] sz)) (va_Qi (fun (r : Int32) => fun (u : Int32 × Int32 × Int32 × Int32 × Int64 × Int32 × Int32 × Int32 × Int32) => r = 0) (fun u => EnW (dC, dI) (va_A [(aB, .inr (6, [.ref aT, .ref aF, .ref aQ, .int fk, .int fp])), (aQ, .inr (4, [.ref aT, .ref aK, .ref aV, .int pl, .int en, .int so, .int sa, .long ti])), (aT, .inr (5, [.ref aR, .int (nI k), .int ch])), (aR, .inl (cA, n, .inl f)), (aK, .inr (3, [.int kl, .int kp])), (aV, .inr (3, [.int vl, .int vp])), (aO, .inl (cJ, 1, .inr (.inl fo)))] sz) [(aB, .inr (6, [.ref aT, .ref aF, .ref aQ, .int (if ch = 0 then fk else (jgC f k).1), .int (if ch = 0 then fp else (jgC f k).2)])), (aQ, .inr (4, [.ref aT, .ref aK, .ref aV, .int u.1, .int u.2.1, .int u.2.2.1, .int u.2.2.2.1, .long u.2.2.2.2.1])), (aT, .inr (5, [.ref aR, .int (nI k), .int 0])), (aR, .inl (cA, n, .inl f)), (aK, .inr (3, [.int u.2.2.2.2.2.1, .int u.2.2.2.2.2.2.1])), (aV, .inr (3, [.int u.2.2.2.2.2.2.2.1, .int u.2.2.2.2.2.2.2.2])), (aO, .inl (cJ, 1, .inr (.inl (vp_updL fo 0 (tdC (tb f k) (nI k) q xw)))))] [(cA, .byte), (cJ, .long)]) (va_A [(aB, .inr (6, [.ref aT, .ref aF, .ref aQ, .int fk, .int fp])), (aQ, .inr (4, [.ref aT, .ref aK, .ref aV, .int pl, .int en, .int so, .int sa, .long ti])), (aT, .inr (5, [.ref aR, .int (nI k), .int ch])), (aR, .inl (cA, n, .inl f)), (aK, .inr (3, [.int kl, .int kp])), (aV, .inr (3, [.int vl, .int vp])), (aO, .inl (cJ, 1, .inr (.inl fo)))] sz)) 0 0 (va_A [(aB, .inr (6, [.ref aT, .ref aF, .ref aQ, .int fk, .int fp])), (aQ, .inr (4, [.ref aT, .ref aK, .ref aV, .int pl, .int en, .int so, .int sa, .long ti])), (aT, .inr (5, [.ref aR, .int (nI k), .int ch])), (aR, .inl (cA, n, .inl f)), (aK, .inr (3, [.int kl, .int kp])), (aV, .inr (3, [.int vl, .int vp])), (aO, .inl (cJ, 1, .inr (.inl fo)))] sz) := by
  refine va_MetW (cc := cd_L_told) (maxL := 5) (ret := (some .int)) (hh := [(0, 9, 12, 19)]) (by decide) rfl ?_
  intro p e s m args below meth c s₁ B hml hv
  obtain ⟨rfl, hsz, hP, hK, hD0, hG⟩ := hv
  have hx := B.exec
  have hb := B.bytes
  have hr := B.returns
  have hts := fun (w : Cond) (h : w ∈ bigT) => atoms_spec (ws := (wBW my_L_told cd_L_told 5 (some .int) [(0, 9, 12, 19)])) B.pre w (List.mem_cons_of_mem _ h)
  have hown : s.vm.findClass rn_L = some m.cls := findClass_of_methodNamed B.named
  have hlocks := B.notSynchronized
  have htb := vx_table (x := my_L_told) B (atoms_spec (ws := (wBW my_L_told cd_L_told 5 (some .int) [(0, 9, 12, 19)])) B.pre _ (List.mem_cons_self ..))
  subst hsz
  have hD := hD0.self (sz := s.heap.size)
  generalize hAe : va_A [(aB, .inr (6, [.ref aT, .ref aF, .ref aQ, .int fk, .int fp])), (aQ, .inr (4, [.ref aT, .ref aK, .ref aV, .int pl, .int en, .int so, .int sa, .long ti])), (aT, .inr (5, [.ref aR, .int (nI k), .int ch])), (aR, .inl (cA, n, .inl f)), (aK, .inr (3, [.int kl, .int kp])), (aV, .inr (3, [.int vl, .int vp])), (aO, .inl (cJ, 1, .inr (.inl fo)))] s.heap.size = A at hD hG ⊢
  have hA : ∀ q : Nat, s.heap.size ≤ q → A q := fun q h => by rw [← hAe]; exact Or.inr h
  have hS : va_S A s.heap s.heap [] := va_S.rf
  have hP : va_P (dC, dI) vwCl [(aB, .inr (6, [.ref aT, .ref aF, .ref aQ, .int fk, .int fp])), (aQ, .inr (4, [.ref aT, .ref aK, .ref aV, .int pl, .int en, .int so, .int sa, .long ti])), (aT, .inr (5, [.ref aR, .int (nI k), .int ch])), (aR, .inl (cA, n, .inl f)), (aK, .inr (3, [.int kl, .int kp])), (aV, .inr (3, [.int vl, .int vp])), (aO, .inl (cJ, 1, .inr (.inl fo)))] s.heap := hP
  have hl := lv_entry ([.ref aB, .int (nI q), .int xw, .ref aO]) (n := 5) (Nat.le_of_ble_eq_true rfl)
  rw [lg_entry_eq]
  generalize (lg_sl ([.ref aB, .int (nI q), .int xw, .ref aO]) ++ List.replicate (5 - (lg_sl ([.ref aB, .int (nI q), .int xw, .ref aO])).length) Slot.unset).toArray = ls at hl ⊢
  have hl : lv_has ls 5 [(0, .ref aB), (1, .int (nI q)), (2, .int xw), (3, .ref aO)] := hl
  refine lv_aload_n hx hb dc_L_told_0 rfl (lv_at hl 3 rfl) ?_
  refine lv_iconst (v := 0) hx hb dc_L_told_1 (by decide) ?_
  refine lv_aload_n hx hb dc_L_told_2 rfl (lv_at hl 0 rfl) ?_
  refine lv_iload_n hx hb dc_L_told_3 rfl (lv_at hl 1 rfl) ?_
  refine lv_iload_n hx hb dc_L_told_4 rfl (lv_at hl 2 rfl) ?_
  refine kc_l (wc := [(aB, .inr (6, [.ref aT, .ref aF, .ref aQ, .int fk, .int fp])), (aQ, .inr (4, [.ref aT, .ref aK, .ref aV, .int pl, .int en, .int so, .int sa, .long ti])), (aT, .inr (5, [.ref aR, .int (nI k), .int ch])), (aR, .inl (cA, n, .inl f)), (aK, .inr (3, [.int kl, .int kp])), (aV, .inr (3, [.int vl, .int vp]))]) (wr := [(aO, .inl (cJ, 1, .inr (.inl fo)))]) hP hD hS hA [0, 1, 2, 3, 4, 5] [6] rfl rfl (by decide) (by decide) (va_runV (As := [.int (nI q), .int xw]) (rest := [.int 0, .ref aO]) ⟨hx, hb, hml, hown, hts⟩ (c_B_told_ok l dC dI _ aB aF fk fp aQ aT aK aV pl en so sa ti aR cA n f k ch kl kp vl vp q xw (hk) (hn) (hf) (hw0) (hw5) (hq) (hc) (hs)) (kw_V 2 hts bw3_137 bw3_138 bw3_139 bw1_1 bw3_140 rfl rfl (by decide +kernel) ⟨Nat.le_of_ble_eq_true rfl, Nat.le_of_ble_eq_true rfl⟩) (kp_V (wc := [(aB, .inr (6, [.ref aT, .ref aF, .ref aQ, .int fk, .int fp])), (aQ, .inr (4, [.ref aT, .ref aK, .ref aV, .int pl, .int en, .int so, .int sa, .long ti])), (aT, .inr (5, [.ref aR, .int (nI k), .int ch])), (aR, .inl (cA, n, .inl f)), (aK, .inr (3, [.int kl, .int kp])), (aV, .inr (3, [.int vl, .int vp]))]) (tc := [(cA, .byte)]) (As := [.int (nI q), .int xw]) hG hS hA hP hD hK [0, 1, 2, 3, 4, 5] rfl (by decide) rfl [0] rfl (ci := 6) (q0 := 0) rfl rfl) rfl rfl hl.1 rfl (lv_room (Nat.le_of_ble_eq_true rfl)) dc_L_told_5 ⟨Nat.zero_le _, Nat.zero_le _⟩) (fun r_10 u_11 H locs hw hP hD hK1 hS => ?_)
  obtain ⟨pl1_1, en1_2, so1_3, sa1_4, ti1_5, kl1_6, kp1_7, vl1_8, vp1_9⟩ := u_11
  have hw : tdC (tb f k) (nI k) q xw = r_10 := hw.symm
  subst hw
  have hP : va_P (dC, dI) vwCl [(aO, .inl (cJ, 1, .inr (.inl fo))), (aB, .inr (6, [.ref aT, .ref aF, .ref aQ, .int (if ch = 0 then fk else (jgC f k).1), .int (if ch = 0 then fp else (jgC f k).2)])), (aQ, .inr (4, [.ref aT, .ref aK, .ref aV, .int pl1_1, .int en1_2, .int so1_3, .int sa1_4, .long ti1_5])), (aT, .inr (5, [.ref aR, .int (nI k), .int 0])), (aR, .inl (cA, n, .inl f)), (aK, .inr (3, [.int kl1_6, .int kp1_7])), (aV, .inr (3, [.int vl1_8, .int vp1_9]))] H := hP
  have hD : va_D A [(aO, .inl (cJ, 1, .inr (.inl fo))), (aB, .inr (6, [.ref aT, .ref aF, .ref aQ, .int (if ch = 0 then fk else (jgC f k).1), .int (if ch = 0 then fp else (jgC f k).2)])), (aQ, .inr (4, [.ref aT, .ref aK, .ref aV, .int pl1_1, .int en1_2, .int so1_3, .int sa1_4, .long ti1_5])), (aT, .inr (5, [.ref aR, .int (nI k), .int 0])), (aR, .inl (cA, n, .inl f)), (aK, .inr (3, [.int kl1_6, .int kp1_7])), (aV, .inr (3, [.int vl1_8, .int vp1_9]))] := hD
  rw [show (0 : Int32) = nI 0 from rfl]
  refine va_last hx hb hK hP hD hS 0 1 rfl rfl (vp_in_nI (by omega) (by omega)) dc_L_told_8 (fun H locs hP hD hS => ?_)
  rw [show (nI 0).toNatClampNeg = 0 from nI_clamp (by omega)] at hP hD
  have hP : va_P (dC, dI) vwCl [(aO, .inl (cJ, 1, .inr (.inl (vp_updL fo 0 (tdC (tb f k) (nI k) q xw))))), (aB, .inr (6, [.ref aT, .ref aF, .ref aQ, .int (if ch = 0 then fk else (jgC f k).1), .int (if ch = 0 then fp else (jgC f k).2)])), (aQ, .inr (4, [.ref aT, .ref aK, .ref aV, .int pl1_1, .int en1_2, .int so1_3, .int sa1_4, .long ti1_5])), (aT, .inr (5, [.ref aR, .int (nI k), .int 0])), (aR, .inl (cA, n, .inl f)), (aK, .inr (3, [.int kl1_6, .int kp1_7])), (aV, .inr (3, [.int vl1_8, .int vp1_9]))] H := hP
  have hD : va_D A [(aO, .inl (cJ, 1, .inr (.inl (vp_updL fo 0 (tdC (tb f k) (nI k) q xw))))), (aB, .inr (6, [.ref aT, .ref aF, .ref aQ, .int (if ch = 0 then fk else (jgC f k).1), .int (if ch = 0 then fp else (jgC f k).2)])), (aQ, .inr (4, [.ref aT, .ref aK, .ref aV, .int pl1_1, .int en1_2, .int so1_3, .int sa1_4, .long ti1_5])), (aT, .inr (5, [.ref aR, .int (nI k), .int 0])), (aR, .inl (cA, n, .inl f)), (aK, .inr (3, [.int kl1_6, .int kp1_7])), (aV, .inr (3, [.int vl1_8, .int vp1_9]))] := hD
  refine lv_goto (tgt := 16) hx hb dc_L_told_9 (by decide) ?_
  refine lv_iconst (v := 0) hx hb dc_L_told_16 (by decide) ?_
  have hP9 := hP.sub (ws' := [(aB, .inr (6, [.ref aT, .ref aF, .ref aQ, .int (if ch = 0 then fk else (jgC f k).1), .int (if ch = 0 then fp else (jgC f k).2)])), (aQ, .inr (4, [.ref aT, .ref aK, .ref aV, .int pl1_1, .int en1_2, .int so1_3, .int sa1_4, .long ti1_5])), (aT, .inr (5, [.ref aR, .int (nI k), .int 0])), (aR, .inl (cA, n, .inl f)), (aK, .inr (3, [.int kl1_6, .int kp1_7])), (aV, .inr (3, [.int vl1_8, .int vp1_9])), (aO, .inl (cJ, 1, .inr (.inl (vp_updL fo 0 (tdC (tb f k) (nI k) q xw)))))]) [1, 2, 3, 4, 5, 6, 0] rfl
  have hD9 := hD.sub (ws' := [(aB, .inr (6, [.ref aT, .ref aF, .ref aQ, .int (if ch = 0 then fk else (jgC f k).1), .int (if ch = 0 then fp else (jgC f k).2)])), (aQ, .inr (4, [.ref aT, .ref aK, .ref aV, .int pl1_1, .int en1_2, .int so1_3, .int sa1_4, .long ti1_5])), (aT, .inr (5, [.ref aR, .int (nI k), .int 0])), (aR, .inl (cA, n, .inl f)), (aK, .inr (3, [.int kl1_6, .int kp1_7])), (aV, .inr (3, [.int vl1_8, .int vp1_9])), (aO, .inl (cJ, 1, .inr (.inl (vp_updL fo 0 (tdC (tb f k) (nI k) q xw)))))]) [1, 2, 3, 4, 5, 6, 0] (by decide) rfl
  have hK9 := hK.sub (tys' := [(cA, .byte), (cJ, .long)]) [0, 1] rfl
  exact W.iret (v := 0) hx hb hr (fun t ht hW => ⟨⟨0, (pl1_1, en1_2, so1_3, sa1_4, ti1_5, kl1_6, kp1_7, vl1_8, vp1_9), rfl, rfl, by rw [ht]; exact hP9, va_K.moved hW.alike hK9, hD9⟩, hS.F ht⟩) hS.2.2 dc_L_told_17

set_option maxHeartbeats 1000000 in
set_option maxRecDepth 100000 in
theorem c_L_told_bad (l : Launch) (dC : Nat → ClassId) (dI : Nat → Nat → Nat) (sz : Nat) (aB : Nat) (aF : Nat) (fk : Int32) (fp : Int32) (aQ : Nat) (aT : Nat) (aK : Nat) (aV : Nat) (pl : Int32) (en : Int32) (so : Int32) (sa : Int32) (ti : Int64) (aR : Nat) (cA : ClassId) (n : Nat) (f : Nat → Int32) (k : Nat) (ch : Int32) (kl : Int32) (kp : Int32) (vl : Int32) (vp : Int32) (xq : Int32) (xw : Int32) (aO : Nat) (cJ : ClassId) (fo : Nat → Int64) (hk : k ≤ n) (hn : n ≤ 16384) (hbad : ¬ ((if ch = 0 then fk else (jgC f k).1) = 0) ∨ xq < 0 ∨ ¬ xq.toInt64 < sgn (tb f k) 57 4) (hst : l.stackTraces = false) : Met l my_L_told (wBW my_L_told cd_L_told 5 (some .int) [(0, 9, 12, 19)]) ({ frames := 8, cells := 1, slots := 6, locals := 185 }) (va_Pc [.ref aB, .int xq, .int xw, .ref aO] (PcW (dC, dI) [(aB, .inr (6, [.ref aT, .ref aF, .ref aQ, .int fk, .int fp])), (aQ, .inr (4, [.ref aT, .ref aK, .ref aV, .int pl, .int en, .int so, .int sa, .long ti])), (aT, .inr (5, [.ref aR, .int (nI k), .int ch])), (aR, .inl (cA, n, .inl f)), (aK, .inr (3, [.int kl, .int kp])), (aV, .inr (3, [.int vl, .int vp])), (aO, .inl (cJ, 1, .inr (.inl fo)))] [(cA, .byte), (cJ, .long)] sz)) (va_Qi (fun (r : Int32) => fun (u : Int32 × Int32 × Int32 × Int32 × Int64 × Int32 × Int32 × Int32 × Int32) => r = 1) (fun u => EnW (dC, dI) (va_A [(aB, .inr (6, [.ref aT, .ref aF, .ref aQ, .int fk, .int fp])), (aQ, .inr (4, [.ref aT, .ref aK, .ref aV, .int pl, .int en, .int so, .int sa, .long ti])), (aT, .inr (5, [.ref aR, .int (nI k), .int ch])), (aR, .inl (cA, n, .inl f)), (aK, .inr (3, [.int kl, .int kp])), (aV, .inr (3, [.int vl, .int vp])), (aO, .inl (cJ, 1, .inr (.inl fo)))] sz) [(aB, .inr (6, [.ref aT, .ref aF, .ref aQ, .int (if ch = 0 then fk else (jgC f k).1), .int (if ch = 0 then fp else (jgC f k).2)])), (aQ, .inr (4, [.ref aT, .ref aK, .ref aV, .int u.1, .int u.2.1, .int u.2.2.1, .int u.2.2.2.1, .long u.2.2.2.2.1])), (aT, .inr (5, [.ref aR, .int (nI k), .int 0])), (aR, .inl (cA, n, .inl f)), (aK, .inr (3, [.int u.2.2.2.2.2.1, .int u.2.2.2.2.2.2.1])), (aV, .inr (3, [.int u.2.2.2.2.2.2.2.1, .int u.2.2.2.2.2.2.2.2])), (aO, .inl (cJ, 1, .inr (.inl fo)))] [(cA, .byte), (cJ, .long)]) (va_A [(aB, .inr (6, [.ref aT, .ref aF, .ref aQ, .int fk, .int fp])), (aQ, .inr (4, [.ref aT, .ref aK, .ref aV, .int pl, .int en, .int so, .int sa, .long ti])), (aT, .inr (5, [.ref aR, .int (nI k), .int ch])), (aR, .inl (cA, n, .inl f)), (aK, .inr (3, [.int kl, .int kp])), (aV, .inr (3, [.int vl, .int vp])), (aO, .inl (cJ, 1, .inr (.inl fo)))] sz)) 1 6 (va_A [(aB, .inr (6, [.ref aT, .ref aF, .ref aQ, .int fk, .int fp])), (aQ, .inr (4, [.ref aT, .ref aK, .ref aV, .int pl, .int en, .int so, .int sa, .long ti])), (aT, .inr (5, [.ref aR, .int (nI k), .int ch])), (aR, .inl (cA, n, .inl f)), (aK, .inr (3, [.int kl, .int kp])), (aV, .inr (3, [.int vl, .int vp])), (aO, .inl (cJ, 1, .inr (.inl fo)))] sz) := by
  refine va_MetW (cc := cd_L_told) (maxL := 5) (ret := (some .int)) (hh := [(0, 9, 12, 19)]) (by decide) rfl ?_
  intro p e s m args below meth c s₁ B hml hv
  obtain ⟨rfl, hsz, hP, hK, hD0, hG⟩ := hv
  have hx := B.exec
  have hb := B.bytes
  have hr := B.returns
  have hts := fun (w : Cond) (h : w ∈ bigT) => atoms_spec (ws := (wBW my_L_told cd_L_told 5 (some .int) [(0, 9, 12, 19)])) B.pre w (List.mem_cons_of_mem _ h)
  have hown : s.vm.findClass rn_L = some m.cls := findClass_of_methodNamed B.named
  have hlocks := B.notSynchronized
  have htb := vx_table (x := my_L_told) B (atoms_spec (ws := (wBW my_L_told cd_L_told 5 (some .int) [(0, 9, 12, 19)])) B.pre _ (List.mem_cons_self ..))
  subst hsz
  have hD := hD0.self (sz := s.heap.size)
  generalize hAe : va_A [(aB, .inr (6, [.ref aT, .ref aF, .ref aQ, .int fk, .int fp])), (aQ, .inr (4, [.ref aT, .ref aK, .ref aV, .int pl, .int en, .int so, .int sa, .long ti])), (aT, .inr (5, [.ref aR, .int (nI k), .int ch])), (aR, .inl (cA, n, .inl f)), (aK, .inr (3, [.int kl, .int kp])), (aV, .inr (3, [.int vl, .int vp])), (aO, .inl (cJ, 1, .inr (.inl fo)))] s.heap.size = A at hD hG ⊢
  have hA : ∀ q : Nat, s.heap.size ≤ q → A q := fun q h => by rw [← hAe]; exact Or.inr h
  have hS : va_S A s.heap s.heap [] := va_S.rf
  have hP : va_P (dC, dI) vwCl [(aB, .inr (6, [.ref aT, .ref aF, .ref aQ, .int fk, .int fp])), (aQ, .inr (4, [.ref aT, .ref aK, .ref aV, .int pl, .int en, .int so, .int sa, .long ti])), (aT, .inr (5, [.ref aR, .int (nI k), .int ch])), (aR, .inl (cA, n, .inl f)), (aK, .inr (3, [.int kl, .int kp])), (aV, .inr (3, [.int vl, .int vp])), (aO, .inl (cJ, 1, .inr (.inl fo)))] s.heap := hP
  have hl := lv_entry ([.ref aB, .int xq, .int xw, .ref aO]) (n := 5) (Nat.le_of_ble_eq_true rfl)
  rw [lg_entry_eq]
  generalize (lg_sl ([.ref aB, .int xq, .int xw, .ref aO]) ++ List.replicate (5 - (lg_sl ([.ref aB, .int xq, .int xw, .ref aO])).length) Slot.unset).toArray = ls at hl ⊢
  have hl : lv_has ls 5 [(0, .ref aB), (1, .int xq), (2, .int xw), (3, .ref aO)] := hl
  refine lv_aload_n hx hb dc_L_told_0 rfl (lv_at hl 3 rfl) ?_
  refine lv_iconst (v := 0) hx hb dc_L_told_1 (by decide) ?_
  refine lv_aload_n hx hb dc_L_told_2 rfl (lv_at hl 0 rfl) ?_
  refine lv_iload_n hx hb dc_L_told_3 rfl (lv_at hl 1 rfl) ?_
  refine lv_iload_n hx hb dc_L_told_4 rfl (lv_at hl 2 rfl) ?_
  refine kcx_l (wc := [(aB, .inr (6, [.ref aT, .ref aF, .ref aQ, .int fk, .int fp])), (aQ, .inr (4, [.ref aT, .ref aK, .ref aV, .int pl, .int en, .int so, .int sa, .long ti])), (aT, .inr (5, [.ref aR, .int (nI k), .int ch])), (aR, .inl (cA, n, .inl f)), (aK, .inr (3, [.int kl, .int kp])), (aV, .inr (3, [.int vl, .int vp]))]) (wr := [(aO, .inl (cJ, 1, .inr (.inl fo)))]) hP hD hS hA [0, 1, 2, 3, 4, 5] [6] rfl rfl (by decide) (by decide) (vx_runV (As := [.int xq, .int xw]) (rest := [.int 0, .ref aO]) ⟨hx, hb, hml, hown, hts⟩ (c_B_told_bad l dC dI _ aB aF fk fp aQ aT aK aV pl en so sa ti aR cA n f k ch kl kp vl vp xq xw (hk) (hn) (hbad) hst) (kw_V 2 hts bw3_137 bw3_138 bw3_139 bw1_1 bw3_140 rfl rfl (by decide +kernel) ⟨Nat.le_of_ble_eq_true rfl, Nat.le_of_ble_eq_true rfl⟩) (kp_V (wc := [(aB, .inr (6, [.ref aT, .ref aF, .ref aQ, .int fk, .int fp])), (aQ, .inr (4, [.ref aT, .ref aK, .ref aV, .int pl, .int en, .int so, .int sa, .long ti])), (aT, .inr (5, [.ref aR, .int (nI k), .int ch])), (aR, .inl (cA, n, .inl f)), (aK, .inr (3, [.int kl, .int kp])), (aV, .inr (3, [.int vl, .int vp]))]) (tc := [(cA, .byte)]) (As := [.int xq, .int xw]) hG hS hA hP hD hK [0, 1, 2, 3, 4, 5] rfl (by decide) rfl [0] rfl (ci := 6) (q0 := 0) rfl rfl) rfl rfl hl.1 rfl (lv_room (Nat.le_of_ble_eq_true rfl)) dc_L_told_5 ⟨by show _ ≤ 1; omega, by show _ ≤ 6; omega⟩) (fun u_q_10 ce q_10 H locs hP hD hK1 hS h1 h2 h3 => ?_)
  obtain ⟨pl1_1, en1_2, so1_3, sa1_4, ti1_5, kl1_6, kp1_7, vl1_8, vp1_9⟩ := u_q_10
  refine vx_catch (own := "BatchBytesLaw") hown [] ⟨0, 9, 12, 19⟩ [] (htb.trans rfl) (fun z hz => nomatch hz) (by decide) (by decide) (hts _ bw2_75) (nd_use hG.1 (.castable "java/lang/IllegalArgumentException" "java/lang/IllegalArgumentException") (by decide +kernel)) h1 h2 h3 ?_
  have hP : va_P (dC, dI) vwCl [(aO, .inl (cJ, 1, .inr (.inl fo))), (aB, .inr (6, [.ref aT, .ref aF, .ref aQ, .int (if ch = 0 then fk else (jgC f k).1), .int (if ch = 0 then fp else (jgC f k).2)])), (aQ, .inr (4, [.ref aT, .ref aK, .ref aV, .int pl1_1, .int en1_2, .int so1_3, .int sa1_4, .long ti1_5])), (aT, .inr (5, [.ref aR, .int (nI k), .int 0])), (aR, .inl (cA, n, .inl f)), (aK, .inr (3, [.int kl1_6, .int kp1_7])), (aV, .inr (3, [.int vl1_8, .int vp1_9]))] H := hP
  have hD : va_D A [(aO, .inl (cJ, 1, .inr (.inl fo))), (aB, .inr (6, [.ref aT, .ref aF, .ref aQ, .int (if ch = 0 then fk else (jgC f k).1), .int (if ch = 0 then fp else (jgC f k).2)])), (aQ, .inr (4, [.ref aT, .ref aK, .ref aV, .int pl1_1, .int en1_2, .int so1_3, .int sa1_4, .long ti1_5])), (aT, .inr (5, [.ref aR, .int (nI k), .int 0])), (aR, .inl (cA, n, .inl f)), (aK, .inr (3, [.int kl1_6, .int kp1_7])), (aV, .inr (3, [.int vl1_8, .int vp1_9]))] := hD
  refine lv_astore (lv' := [(4, .ref q_10), (0, .ref aB), (1, .int xq), (2, .int xw), (3, .ref aO)]) hx hb dc_L_told_12 hl (by decide) rfl (fun ls hl => ?_)
  refine lv_iconst (v := 1) hx hb dc_L_told_14 (by decide) ?_
  have hP9 := hP.sub (ws' := [(aB, .inr (6, [.ref aT, .ref aF, .ref aQ, .int (if ch = 0 then fk else (jgC f k).1), .int (if ch = 0 then fp else (jgC f k).2)])), (aQ, .inr (4, [.ref aT, .ref aK, .ref aV, .int pl1_1, .int en1_2, .int so1_3, .int sa1_4, .long ti1_5])), (aT, .inr (5, [.ref aR, .int (nI k), .int 0])), (aR, .inl (cA, n, .inl f)), (aK, .inr (3, [.int kl1_6, .int kp1_7])), (aV, .inr (3, [.int vl1_8, .int vp1_9])), (aO, .inl (cJ, 1, .inr (.inl fo)))]) [1, 2, 3, 4, 5, 6, 0] rfl
  have hD9 := hD.sub (ws' := [(aB, .inr (6, [.ref aT, .ref aF, .ref aQ, .int (if ch = 0 then fk else (jgC f k).1), .int (if ch = 0 then fp else (jgC f k).2)])), (aQ, .inr (4, [.ref aT, .ref aK, .ref aV, .int pl1_1, .int en1_2, .int so1_3, .int sa1_4, .long ti1_5])), (aT, .inr (5, [.ref aR, .int (nI k), .int 0])), (aR, .inl (cA, n, .inl f)), (aK, .inr (3, [.int kl1_6, .int kp1_7])), (aV, .inr (3, [.int vl1_8, .int vp1_9])), (aO, .inl (cJ, 1, .inr (.inl fo)))]) [1, 2, 3, 4, 5, 6, 0] (by decide) rfl
  have hK9 := hK.sub (tys' := [(cA, .byte), (cJ, .long)]) [0, 1] rfl
  refine W.widen (k := 1) (n := 6) (by omega) (by omega) ?_
  exact W.iret (v := 1) hx hb hr (fun t ht hW => ⟨⟨1, (pl1_1, en1_2, so1_3, sa1_4, ti1_5, kl1_6, kp1_7, vl1_8, vp1_9), rfl, rfl, by rw [ht]; exact hP9, va_K.moved hW.alike hK9, hD9⟩, hS.F ht⟩) hS.2.2 dc_L_told_15

set_option maxHeartbeats 1000000 in
set_option maxRecDepth 100000 in
theorem c_L_told_arg (l : Launch) (dC : Nat → ClassId) (dI : Nat → Nat → Nat) (sz : Nat) (aB : Nat) (aF : Nat) (fk : Int32) (fp : Int32) (aQ : Nat) (aT : Nat) (aK : Nat) (aV : Nat) (pl : Int32) (en : Int32) (so : Int32) (sa : Int32) (ti : Int64) (aR : Nat) (cA : ClassId) (n : Nat) (f : Nat → Int32) (k : Nat) (ch : Int32) (kl : Int32) (kp : Int32) (vl : Int32) (vp : Int32) (q : Nat) (xw : Int32) (aO : Nat) (cJ : ClassId) (fo : Nat → Int64) (hk : k ≤ n) (hn : n ≤ 16384) (hf : (if ch = 0 then fk else (jgC f k).1) = 0) (h9 : xw < 0 ∨ ¬ xw ≤ 5) (hq : q < 1000) (hc : (nI q).toInt64 < sgn (tb f k) 57 4) (hs : ∀ i, i ≤ q → ¬ rrS (tb f k) (nI k) (sgn (tb f k) 27 8) (nI i) (rdP (tb f k) (nI k) (sgn (tb f k) 27 8) i) = 0) (hst : l.stackTraces = false) : Met l my_L_told (wBW my_L_told cd_L_told 5 (some .int) [(0, 9, 12, 19)]) ({ frames := 8, cells := 1, slots := 6, locals := 185 }) (va_Pc [.ref aB, .int (nI q), .int xw, .ref aO] (PcW (dC, dI) [(aB, .inr (6, [.ref aT, .ref aF, .ref aQ, .int fk, .int fp])), (aQ, .inr (4, [.ref aT, .ref aK, .ref aV, .int pl, .int en, .int so, .int sa, .long ti])), (aT, .inr (5, [.ref aR, .int (nI k), .int ch])), (aR, .inl (cA, n, .inl f)), (aK, .inr (3, [.int kl, .int kp])), (aV, .inr (3, [.int vl, .int vp])), (aO, .inl (cJ, 1, .inr (.inl fo)))] [(cA, .byte), (cJ, .long)] sz)) (va_Qi (fun (r : Int32) => fun (u : Int32 × Int32 × Int32 × Int32 × Int64 × Int32 × Int32 × Int32 × Int32) => r = 1) (fun u => EnW (dC, dI) (va_A [(aB, .inr (6, [.ref aT, .ref aF, .ref aQ, .int fk, .int fp])), (aQ, .inr (4, [.ref aT, .ref aK, .ref aV, .int pl, .int en, .int so, .int sa, .long ti])), (aT, .inr (5, [.ref aR, .int (nI k), .int ch])), (aR, .inl (cA, n, .inl f)), (aK, .inr (3, [.int kl, .int kp])), (aV, .inr (3, [.int vl, .int vp])), (aO, .inl (cJ, 1, .inr (.inl fo)))] sz) [(aB, .inr (6, [.ref aT, .ref aF, .ref aQ, .int (if ch = 0 then fk else (jgC f k).1), .int (if ch = 0 then fp else (jgC f k).2)])), (aQ, .inr (4, [.ref aT, .ref aK, .ref aV, .int u.1, .int u.2.1, .int u.2.2.1, .int u.2.2.2.1, .long u.2.2.2.2.1])), (aT, .inr (5, [.ref aR, .int (nI k), .int 0])), (aR, .inl (cA, n, .inl f)), (aK, .inr (3, [.int u.2.2.2.2.2.1, .int u.2.2.2.2.2.2.1])), (aV, .inr (3, [.int u.2.2.2.2.2.2.2.1, .int u.2.2.2.2.2.2.2.2])), (aO, .inl (cJ, 1, .inr (.inl fo)))] [(cA, .byte), (cJ, .long)]) (va_A [(aB, .inr (6, [.ref aT, .ref aF, .ref aQ, .int fk, .int fp])), (aQ, .inr (4, [.ref aT, .ref aK, .ref aV, .int pl, .int en, .int so, .int sa, .long ti])), (aT, .inr (5, [.ref aR, .int (nI k), .int ch])), (aR, .inl (cA, n, .inl f)), (aK, .inr (3, [.int kl, .int kp])), (aV, .inr (3, [.int vl, .int vp])), (aO, .inl (cJ, 1, .inr (.inl fo)))] sz)) 1 6 (va_A [(aB, .inr (6, [.ref aT, .ref aF, .ref aQ, .int fk, .int fp])), (aQ, .inr (4, [.ref aT, .ref aK, .ref aV, .int pl, .int en, .int so, .int sa, .long ti])), (aT, .inr (5, [.ref aR, .int (nI k), .int ch])), (aR, .inl (cA, n, .inl f)), (aK, .inr (3, [.int kl, .int kp])), (aV, .inr (3, [.int vl, .int vp])), (aO, .inl (cJ, 1, .inr (.inl fo)))] sz) := by
  refine va_MetW (cc := cd_L_told) (maxL := 5) (ret := (some .int)) (hh := [(0, 9, 12, 19)]) (by decide) rfl ?_
  intro p e s m args below meth c s₁ B hml hv
  obtain ⟨rfl, hsz, hP, hK, hD0, hG⟩ := hv
  have hx := B.exec
  have hb := B.bytes
  have hr := B.returns
  have hts := fun (w : Cond) (h : w ∈ bigT) => atoms_spec (ws := (wBW my_L_told cd_L_told 5 (some .int) [(0, 9, 12, 19)])) B.pre w (List.mem_cons_of_mem _ h)
  have hown : s.vm.findClass rn_L = some m.cls := findClass_of_methodNamed B.named
  have hlocks := B.notSynchronized
  have htb := vx_table (x := my_L_told) B (atoms_spec (ws := (wBW my_L_told cd_L_told 5 (some .int) [(0, 9, 12, 19)])) B.pre _ (List.mem_cons_self ..))
  subst hsz
  have hD := hD0.self (sz := s.heap.size)
  generalize hAe : va_A [(aB, .inr (6, [.ref aT, .ref aF, .ref aQ, .int fk, .int fp])), (aQ, .inr (4, [.ref aT, .ref aK, .ref aV, .int pl, .int en, .int so, .int sa, .long ti])), (aT, .inr (5, [.ref aR, .int (nI k), .int ch])), (aR, .inl (cA, n, .inl f)), (aK, .inr (3, [.int kl, .int kp])), (aV, .inr (3, [.int vl, .int vp])), (aO, .inl (cJ, 1, .inr (.inl fo)))] s.heap.size = A at hD hG ⊢
  have hA : ∀ q : Nat, s.heap.size ≤ q → A q := fun q h => by rw [← hAe]; exact Or.inr h
  have hS : va_S A s.heap s.heap [] := va_S.rf
  have hP : va_P (dC, dI) vwCl [(aB, .inr (6, [.ref aT, .ref aF, .ref aQ, .int fk, .int fp])), (aQ, .inr (4, [.ref aT, .ref aK, .ref aV, .int pl, .int en, .int so, .int sa, .long ti])), (aT, .inr (5, [.ref aR, .int (nI k), .int ch])), (aR, .inl (cA, n, .inl f)), (aK, .inr (3, [.int kl, .int kp])), (aV, .inr (3, [.int vl, .int vp])), (aO, .inl (cJ, 1, .inr (.inl fo)))] s.heap := hP
  have hl := lv_entry ([.ref aB, .int (nI q), .int xw, .ref aO]) (n := 5) (Nat.le_of_ble_eq_true rfl)
  rw [lg_entry_eq]
  generalize (lg_sl ([.ref aB, .int (nI q), .int xw, .ref aO]) ++ List.replicate (5 - (lg_sl ([.ref aB, .int (nI q), .int xw, .ref aO])).length) Slot.unset).toArray = ls at hl ⊢
  have hl : lv_has ls 5 [(0, .ref aB), (1, .int (nI q)), (2, .int xw), (3, .ref aO)] := hl
  refine lv_aload_n hx hb dc_L_told_0 rfl (lv_at hl 3 rfl) ?_
  refine lv_iconst (v := 0) hx hb dc_L_told_1 (by decide) ?_
  refine lv_aload_n hx hb dc_L_told_2 rfl (lv_at hl 0 rfl) ?_
  refine lv_iload_n hx hb dc_L_told_3 rfl (lv_at hl 1 rfl) ?_
  refine lv_iload_n hx hb dc_L_told_4 rfl (lv_at hl 2 rfl) ?_
  refine kcx_l (wc := [(aB, .inr (6, [.ref aT, .ref aF, .ref aQ, .int fk, .int fp])), (aQ, .inr (4, [.ref aT, .ref aK, .ref aV, .int pl, .int en, .int so, .int sa, .long ti])), (aT, .inr (5, [.ref aR, .int (nI k), .int ch])), (aR, .inl (cA, n, .inl f)), (aK, .inr (3, [.int kl, .int kp])), (aV, .inr (3, [.int vl, .int vp]))]) (wr := [(aO, .inl (cJ, 1, .inr (.inl fo)))]) hP hD hS hA [0, 1, 2, 3, 4, 5] [6] rfl rfl (by decide) (by decide) (vx_runV (As := [.int (nI q), .int xw]) (rest := [.int 0, .ref aO]) ⟨hx, hb, hml, hown, hts⟩ (c_B_told_arg l dC dI _ aB aF fk fp aQ aT aK aV pl en so sa ti aR cA n f k ch kl kp vl vp q xw (hk) (hn) (hf) (h9) (hq) (hc) (hs) hst) (kw_V 2 hts bw3_137 bw3_138 bw3_139 bw1_1 bw3_140 rfl rfl (by decide +kernel) ⟨Nat.le_of_ble_eq_true rfl, Nat.le_of_ble_eq_true rfl⟩) (kp_V (wc := [(aB, .inr (6, [.ref aT, .ref aF, .ref aQ, .int fk, .int fp])), (aQ, .inr (4, [.ref aT, .ref aK, .ref aV, .int pl, .int en, .int so, .int sa, .long ti])), (aT, .inr (5, [.ref aR, .int (nI k), .int ch])), (aR, .inl (cA, n, .inl f)), (aK, .inr (3, [.int kl, .int kp])), (aV, .inr (3, [.int vl, .int vp]))]) (tc := [(cA, .byte)]) (As := [.int (nI q), .int xw]) hG hS hA hP hD hK [0, 1, 2, 3, 4, 5] rfl (by decide) rfl [0] rfl (ci := 6) (q0 := 0) rfl rfl) rfl rfl hl.1 rfl (lv_room (Nat.le_of_ble_eq_true rfl)) dc_L_told_5 ⟨by show _ ≤ 1; omega, by show _ ≤ 6; omega⟩) (fun u_q_10 ce q_10 H locs hP hD hK1 hS h1 h2 h3 => ?_)
  obtain ⟨pl1_1, en1_2, so1_3, sa1_4, ti1_5, kl1_6, kp1_7, vl1_8, vp1_9⟩ := u_q_10
  refine vx_catch (own := "BatchBytesLaw") hown [] ⟨0, 9, 12, 19⟩ [] (htb.trans rfl) (fun z hz => nomatch hz) (by decide) (by decide) (hts _ bw2_75) (nd_use hG.1 (.castable "java/lang/IllegalArgumentException" "java/lang/IllegalArgumentException") (by decide +kernel)) h1 h2 h3 ?_
  have hP : va_P (dC, dI) vwCl [(aO, .inl (cJ, 1, .inr (.inl fo))), (aB, .inr (6, [.ref aT, .ref aF, .ref aQ, .int (if ch = 0 then fk else (jgC f k).1), .int (if ch = 0 then fp else (jgC f k).2)])), (aQ, .inr (4, [.ref aT, .ref aK, .ref aV, .int pl1_1, .int en1_2, .int so1_3, .int sa1_4, .long ti1_5])), (aT, .inr (5, [.ref aR, .int (nI k), .int 0])), (aR, .inl (cA, n, .inl f)), (aK, .inr (3, [.int kl1_6, .int kp1_7])), (aV, .inr (3, [.int vl1_8, .int vp1_9]))] H := hP
  have hD : va_D A [(aO, .inl (cJ, 1, .inr (.inl fo))), (aB, .inr (6, [.ref aT, .ref aF, .ref aQ, .int (if ch = 0 then fk else (jgC f k).1), .int (if ch = 0 then fp else (jgC f k).2)])), (aQ, .inr (4, [.ref aT, .ref aK, .ref aV, .int pl1_1, .int en1_2, .int so1_3, .int sa1_4, .long ti1_5])), (aT, .inr (5, [.ref aR, .int (nI k), .int 0])), (aR, .inl (cA, n, .inl f)), (aK, .inr (3, [.int kl1_6, .int kp1_7])), (aV, .inr (3, [.int vl1_8, .int vp1_9]))] := hD
  refine lv_astore (lv' := [(4, .ref q_10), (0, .ref aB), (1, .int (nI q)), (2, .int xw), (3, .ref aO)]) hx hb dc_L_told_12 hl (by decide) rfl (fun ls hl => ?_)
  refine lv_iconst (v := 1) hx hb dc_L_told_14 (by decide) ?_
  have hP9 := hP.sub (ws' := [(aB, .inr (6, [.ref aT, .ref aF, .ref aQ, .int (if ch = 0 then fk else (jgC f k).1), .int (if ch = 0 then fp else (jgC f k).2)])), (aQ, .inr (4, [.ref aT, .ref aK, .ref aV, .int pl1_1, .int en1_2, .int so1_3, .int sa1_4, .long ti1_5])), (aT, .inr (5, [.ref aR, .int (nI k), .int 0])), (aR, .inl (cA, n, .inl f)), (aK, .inr (3, [.int kl1_6, .int kp1_7])), (aV, .inr (3, [.int vl1_8, .int vp1_9])), (aO, .inl (cJ, 1, .inr (.inl fo)))]) [1, 2, 3, 4, 5, 6, 0] rfl
  have hD9 := hD.sub (ws' := [(aB, .inr (6, [.ref aT, .ref aF, .ref aQ, .int (if ch = 0 then fk else (jgC f k).1), .int (if ch = 0 then fp else (jgC f k).2)])), (aQ, .inr (4, [.ref aT, .ref aK, .ref aV, .int pl1_1, .int en1_2, .int so1_3, .int sa1_4, .long ti1_5])), (aT, .inr (5, [.ref aR, .int (nI k), .int 0])), (aR, .inl (cA, n, .inl f)), (aK, .inr (3, [.int kl1_6, .int kp1_7])), (aV, .inr (3, [.int vl1_8, .int vp1_9])), (aO, .inl (cJ, 1, .inr (.inl fo)))]) [1, 2, 3, 4, 5, 6, 0] (by decide) rfl
  have hK9 := hK.sub (tys' := [(cA, .byte), (cJ, .long)]) [0, 1] rfl
  refine W.widen (k := 1) (n := 6) (by omega) (by omega) ?_
  exact W.iret (v := 1) hx hb hr (fun t ht hW => ⟨⟨1, (pl1_1, en1_2, so1_3, sa1_4, ti1_5, kl1_6, kp1_7, vl1_8, vp1_9), rfl, rfl, by rw [ht]; exact hP9, va_K.moved hW.alike hK9, hD9⟩, hS.F ht⟩) hS.2.2 dc_L_told_15
