/-! the whole -/
set_option maxHeartbeats 8000000 in
set_option maxRecDepth 100000 in
theorem whole_start {p : Program} {e : Env} {s : State} {m : MethodId} {below : List Frame} {meth : Method} {c : Code} (l : Launch) (hst : l.stackTraces = false) {b L : Nat} {xs : Nat → Int32} (hL : L ≤ 4608) (C0 : lw_At p s m meth c b L xs) : W p l e room_1 s m #[Value.ref b] below meth c s.heap [] 0 0 (lw_Z below #[Value.ref b] s) (entryFrame m ([Value.ref b] : List Value).toArray 8) := by
  obtain ⟨hx, hb, hr, hml, hown, hts0, hX, hbl, hlocks, hgv⟩ := id C0
  have hA : ∀ q : Nat, s.heap.size ≤ q → (fun q : Nat => s.heap.size ≤ q) q := fun _ h => h
  have hbA : ¬ (fun q : Nat => s.heap.size ≤ q) b := Nat.not_le.mpr hbl
  have hts : ∀ w ∈ bigT, w.before #[Value.ref b] s = true := fun w hw => hts0 w (List.mem_filter.mp hw).1
  obtain ⟨eE, hG, hE⟩ := gv_start hts0 hgv
  obtain ⟨dC, dI, hK0⟩ := k_start hts
  obtain ⟨cO, hO1, hO2⟩ := ao_K hG.2.2.2.2.2.1.2.2
  have hown : s.vm.findClass rn_L = some m.cls := hown
  have hS : va_S (fun q : Nat => s.heap.size ≤ q) s.heap s.heap [] := va_S.rf
  have hK : va_K (dC, dI) vwCl [(cO, .object "java/lang/Object")] s := hK0 _ (fun k q h => by
    have hz : k < 1 := (List.getElem?_eq_some_iff.mp h).1
    rw [show k = 0 by omega] at h
    cases h
    exact ⟨hO1, hO2⟩)
  have hP : va_P (dC, dI) vwCl [] s.heap := fun k q h => by simp at h
  have hD : va_D (fun q : Nat => s.heap.size ≤ q) [] := ⟨fun i j p q h => by simp at h, fun k q h => by simp at h⟩
  have hl := lv_entry ([.ref b]) (n := 8) (Nat.le_of_ble_eq_true rfl)
  rw [lg_entry_eq]
  generalize (lg_sl ([.ref b]) ++ List.replicate (8 - (lg_sl ([.ref b])).length) Slot.unset).toArray = ls at hl ⊢
  have hl : lv_has ls 8 [(0, .ref b)] := hl
  refine va_new (ci := 6) (fs := [.null, .null, .null, .int 0, .int 0]) (C := rn_B) (T := ft_B) (N := 5) hx hb hts fw_B fy_B fo_B hown (hts _ bw1_22) (hts _ bw1_23) (hts _ bw1_1) hK hP hD hS hA rfl (fun j hj => by rcases (show j = 0 ∨ j = 1 ∨ j = 2 ∨ j = 3 ∨ j = 4 by omega) with rfl | rfl | rfl | rfl | rfl <;> rfl) (by show _ ≤ 601024; omega) (by show _ ≤ 7293034; omega) dc_L_law_0 (fun q_1 H hP hD hS => ?_)
  have hP : va_P (dC, dI) vwCl [(q_1, .inr (6, [.null, .null, .null, .int 0, .int 0]))] H := hP
  have hD : va_D (fun q : Nat => s.heap.size ≤ q) [(q_1, .inr (6, [.null, .null, .null, .int 0, .int 0]))] := hD
  refine lv_dup hx hb dc_L_law_3 rfl ?_
  refine kc_v (wc := [(q_1, .inr (6, [.null, .null, .null, .int 0, .int 0]))]) (wr := []) hP hD hS hA [0] [] rfl rfl (by decide) (by decide) (va_runI (As := []) (rest := [.ref q_1]) ⟨hx, hb, hml, hown, hts⟩ (c_B_init l dC dI _ eE q_1 ) (kw_I 0 hts bw1_24 bw1_25 bw1_1 bw1_26 rfl rfl rfl (by decide +kernel) ⟨Nat.le_of_ble_eq_true rfl, Nat.le_of_ble_eq_true rfl⟩) (kp_SE (wc := [(q_1, .inr (6, [.null, .null, .null, .int 0, .int 0]))]) (tc := []) (av := [.ref q_1]) hE hG hS hA hP hD hK [0] rfl (by decide) rfl [] rfl) rfl rfl hl.1 rfl (lv_room (Nat.le_of_ble_eq_true rfl)) dc_L_law_4 ⟨by show _ ≤ 601024; omega, by show _ ≤ 7293034; omega⟩) (fun u_11 H locs hw hP hD hK1 hS => ?_)
  obtain ⟨aT_2, aR_3, cA_4, aF_5, aL_6, aQ_7, aK_8, aV_9⟩ := u_11
  have hK := hK.app hK1
  have hK : va_K (dC, dI) vwCl [(cO, .object "java/lang/Object"), (cA_4, .byte)] s := hK
  have hP : va_P (dC, dI) vwCl [(q_1, .inr (6, [.ref aT_2, .ref aF_5, .ref aQ_7, .int 0, .int (-1)])), (aT_2, .inr (5, [.ref aR_3, .int (nI 0), .int 1])), (aR_3, .inl (cA_4, 64, .inl (fun _ => 0))), (aF_5, .inr (1, [.ref aL_6, .int (nI 0), .int (nI 0), .int 0])), (aL_6, .inr (0, [.int 0, .ref eE, .int (nI 0)])), (aQ_7, .inr (4, [.ref aT_2, .ref aK_8, .ref aV_9, .int 61, .int 0, .int 1, .int 61, .long 0])), (aK_8, .inr (3, [.int (-1), .int 0])), (aV_9, .inr (3, [.int (-1), .int 0]))] H := hP
  have hD : va_D (fun q : Nat => s.heap.size ≤ q) [(q_1, .inr (6, [.ref aT_2, .ref aF_5, .ref aQ_7, .int 0, .int (-1)])), (aT_2, .inr (5, [.ref aR_3, .int (nI 0), .int 1])), (aR_3, .inl (cA_4, 64, .inl (fun _ => 0))), (aF_5, .inr (1, [.ref aL_6, .int (nI 0), .int (nI 0), .int 0])), (aL_6, .inr (0, [.int 0, .ref eE, .int (nI 0)])), (aQ_7, .inr (4, [.ref aT_2, .ref aK_8, .ref aV_9, .int 61, .int 0, .int 1, .int 61, .long 0])), (aK_8, .inr (3, [.int (-1), .int 0])), (aV_9, .inr (3, [.int (-1), .int 0]))] := hD
  refine lv_astore_n (lv' := [(1, .ref q_1), (0, .ref b)]) hx hb dc_L_law_7 rfl hl (by decide) rfl (fun ls hl => ?_)
  refine va_new (ci := 7) (fs := [.int 0, .null, .int 0, .int 0, .null, .null, .null, .null, .null, .int 0, .int 0, .int 0, .int 0, .int 0, .long 0, .int 0, .long 0, .int 0, .long 0]) (C := rn_M) (T := ft_M) (N := 19) hx hb hts fw_M fy_M fo_M hown (hts _ bw3_153) (hts _ bw3_154) (hts _ bw1_9) hK hP hD hS hA rfl (fun j hj => by rcases (show j = 0 ∨ j = 1 ∨ j = 2 ∨ j = 3 ∨ j = 4 ∨ j = 5 ∨ j = 6 ∨ j = 7 ∨ j = 8 ∨ j = 9 ∨ j = 10 ∨ j = 11 ∨ j = 12 ∨ j = 13 ∨ j = 14 ∨ j = 15 ∨ j = 16 ∨ j = 17 ∨ j = 18 by omega) with rfl | rfl | rfl | rfl | rfl | rfl | rfl | rfl | rfl | rfl | rfl | rfl | rfl | rfl | rfl | rfl | rfl | rfl | rfl <;> rfl) (by show _ ≤ 601024; omega) (by show _ ≤ 7293034; omega) dc_L_law_8 (fun q_12 H hP hD hS => ?_)
  have hP : va_P (dC, dI) vwCl [(q_1, .inr (6, [.ref aT_2, .ref aF_5, .ref aQ_7, .int 0, .int (-1)])), (aT_2, .inr (5, [.ref aR_3, .int (nI 0), .int 1])), (aR_3, .inl (cA_4, 64, .inl (fun _ => 0))), (aF_5, .inr (1, [.ref aL_6, .int (nI 0), .int (nI 0), .int 0])), (aL_6, .inr (0, [.int 0, .ref eE, .int (nI 0)])), (aQ_7, .inr (4, [.ref aT_2, .ref aK_8, .ref aV_9, .int 61, .int 0, .int 1, .int 61, .long 0])), (aK_8, .inr (3, [.int (-1), .int 0])), (aV_9, .inr (3, [.int (-1), .int 0])), (q_12, .inr (7, [.int 0, .null, .int 0, .int 0, .null, .null, .null, .null, .null, .int 0, .int 0, .int 0, .int 0, .int 0, .long 0, .int 0, .long 0, .int 0, .long 0]))] H := hP
  have hD : va_D (fun q : Nat => s.heap.size ≤ q) [(q_1, .inr (6, [.ref aT_2, .ref aF_5, .ref aQ_7, .int 0, .int (-1)])), (aT_2, .inr (5, [.ref aR_3, .int (nI 0), .int 1])), (aR_3, .inl (cA_4, 64, .inl (fun _ => 0))), (aF_5, .inr (1, [.ref aL_6, .int (nI 0), .int (nI 0), .int 0])), (aL_6, .inr (0, [.int 0, .ref eE, .int (nI 0)])), (aQ_7, .inr (4, [.ref aT_2, .ref aK_8, .ref aV_9, .int 61, .int 0, .int 1, .int 61, .long 0])), (aK_8, .inr (3, [.int (-1), .int 0])), (aV_9, .inr (3, [.int (-1), .int 0])), (q_12, .inr (7, [.int 0, .null, .int 0, .int 0, .null, .null, .null, .null, .null, .int 0, .int 0, .int 0, .int 0, .int 0, .long 0, .int 0, .long 0, .int 0, .long 0]))] := hD
  refine lv_dup hx hb dc_L_law_11 rfl ?_
  refine kc_v (wc := [(q_12, .inr (7, [.int 0, .null, .int 0, .int 0, .null, .null, .null, .null, .null, .int 0, .int 0, .int 0, .int 0, .int 0, .long 0, .int 0, .long 0, .int 0, .long 0]))]) (wr := [(q_1, .inr (6, [.ref aT_2, .ref aF_5, .ref aQ_7, .int 0, .int (-1)])), (aT_2, .inr (5, [.ref aR_3, .int (nI 0), .int 1])), (aR_3, .inl (cA_4, 64, .inl (fun _ => 0))), (aF_5, .inr (1, [.ref aL_6, .int (nI 0), .int (nI 0), .int 0])), (aL_6, .inr (0, [.int 0, .ref eE, .int (nI 0)])), (aQ_7, .inr (4, [.ref aT_2, .ref aK_8, .ref aV_9, .int 61, .int 0, .int 1, .int 61, .long 0])), (aK_8, .inr (3, [.int (-1), .int 0])), (aV_9, .inr (3, [.int (-1), .int 0]))]) hP hD hS hA [8] [0, 1, 2, 3, 4, 5, 6, 7] rfl rfl (by decide) (by decide) (va_runI (As := []) (rest := [.ref q_12]) ⟨hx, hb, hml, hown, hts⟩ (c_M_init l dC dI _ q_12 ) (kw_I 0 hts bw3_155 bw3_156 bw1_9 bw3_157 rfl rfl rfl (by decide +kernel) ⟨Nat.le_of_ble_eq_true rfl, Nat.le_of_ble_eq_true rfl⟩) (kp_S (wc := [(q_12, .inr (7, [.int 0, .null, .int 0, .int 0, .null, .null, .null, .null, .null, .int 0, .int 0, .int 0, .int 0, .int 0, .long 0, .int 0, .long 0, .int 0, .long 0]))]) (tc := []) (av := [.ref q_12]) hG hS hA hP hD hK [8] rfl (by decide) rfl [] rfl) rfl rfl hl.1 rfl (lv_room (Nat.le_of_ble_eq_true rfl)) dc_L_law_12 ⟨by show _ ≤ 601024; omega, by show _ ≤ 7293034; omega⟩) (fun u_26 H locs hw hP hD hK1 hS => ?_)
  obtain ⟨a1_13, c1__14, a2_15, c2__16, a3_17, c3__18, a4_19, c4__20, a5_21, c5__22, a6_23, c6__24⟩ := u_26
  have hK := hK.app hK1
  have hK : va_K (dC, dI) vwCl [(cO, .object "java/lang/Object"), (cA_4, .byte), (c1__14, .int), (c2__16, .long), (c3__18, .int), (c4__20, .long), (c5__22, .int), (c6__24, .int)] s := hK
  have hP : va_P (dC, dI) vwCl [(q_1, .inr (6, [.ref aT_2, .ref aF_5, .ref aQ_7, .int 0, .int (-1)])), (aT_2, .inr (5, [.ref aR_3, .int (nI 0), .int 1])), (aR_3, .inl (cA_4, 64, .inl (fun _ => 0))), (aF_5, .inr (1, [.ref aL_6, .int (nI 0), .int (nI 0), .int 0])), (aL_6, .inr (0, [.int 0, .ref eE, .int (nI 0)])), (aQ_7, .inr (4, [.ref aT_2, .ref aK_8, .ref aV_9, .int 61, .int 0, .int 1, .int 61, .long 0])), (aK_8, .inr (3, [.int (-1), .int 0])), (aV_9, .inr (3, [.int (-1), .int 0])), (q_12, .inr (7, [.int 0, .ref a1_13, .int (nI 0), .int (nI 0), .ref a2_15, .ref a3_17, .ref a4_19, .ref a5_21, .ref a6_23, .int (nI 0), .int 0, .int 0, .int 0, .int 0, .long 0, .int 0, .long 0, .int 0, .long 0])), (a1_13, .inl (c1__14, 16384, .inl (fun _ => 0))), (a2_15, .inl (c2__16, 1000, .inr (.inl (fun _ => 0)))), (a3_17, .inl (c3__18, 1000, .inl (fun _ => 0))), (a4_19, .inl (c4__20, 1000, .inr (.inl (fun _ => 0)))), (a5_21, .inl (c5__22, 1000, .inl (fun _ => 0))), (a6_23, .inl (c6__24, 1000, .inl (fun _ => 0)))] H := hP
  have hD : va_D (fun q : Nat => s.heap.size ≤ q) [(q_1, .inr (6, [.ref aT_2, .ref aF_5, .ref aQ_7, .int 0, .int (-1)])), (aT_2, .inr (5, [.ref aR_3, .int (nI 0), .int 1])), (aR_3, .inl (cA_4, 64, .inl (fun _ => 0))), (aF_5, .inr (1, [.ref aL_6, .int (nI 0), .int (nI 0), .int 0])), (aL_6, .inr (0, [.int 0, .ref eE, .int (nI 0)])), (aQ_7, .inr (4, [.ref aT_2, .ref aK_8, .ref aV_9, .int 61, .int 0, .int 1, .int 61, .long 0])), (aK_8, .inr (3, [.int (-1), .int 0])), (aV_9, .inr (3, [.int (-1), .int 0])), (q_12, .inr (7, [.int 0, .ref a1_13, .int (nI 0), .int (nI 0), .ref a2_15, .ref a3_17, .ref a4_19, .ref a5_21, .ref a6_23, .int (nI 0), .int 0, .int 0, .int 0, .int 0, .long 0, .int 0, .long 0, .int 0, .long 0])), (a1_13, .inl (c1__14, 16384, .inl (fun _ => 0))), (a2_15, .inl (c2__16, 1000, .inr (.inl (fun _ => 0)))), (a3_17, .inl (c3__18, 1000, .inl (fun _ => 0))), (a4_19, .inl (c4__20, 1000, .inr (.inl (fun _ => 0)))), (a5_21, .inl (c5__22, 1000, .inl (fun _ => 0))), (a6_23, .inl (c6__24, 1000, .inl (fun _ => 0)))] := hD
  refine lv_astore_n (lv' := [(2, .ref q_12), (1, .ref q_1), (0, .ref b)]) hx hb dc_L_law_15 rfl hl (by decide) rfl (fun ls hl => ?_)
  refine lv_iconst (v := 1) hx hb dc_L_law_16 (by decide) ?_
  refine va_newa (atype := .long) (n := 1) (N' := 1) (a0 := (1, .inr (.inl (fun _ => 0)))) (ty := .long) hx hb (hts _ bw3_218) rfl hK hP hD hS hA (fun _ => rfl) (by decide) (by decide) (by decide) (by show _ ≤ 601024; omega) (by show _ ≤ 7293034; omega) dc_L_law_17 (fun q_27 k_28 H hK hP hD hS => ?_)
  have hK : va_K (dC, dI) vwCl [(cO, .object "java/lang/Object"), (cA_4, .byte), (c1__14, .int), (c2__16, .long), (c3__18, .int), (c4__20, .long), (c5__22, .int), (c6__24, .int), (k_28, .long)] s := hK
  have hP : va_P (dC, dI) vwCl [(q_1, .inr (6, [.ref aT_2, .ref aF_5, .ref aQ_7, .int 0, .int (-1)])), (aT_2, .inr (5, [.ref aR_3, .int (nI 0), .int 1])), (aR_3, .inl (cA_4, 64, .inl (fun _ => 0))), (aF_5, .inr (1, [.ref aL_6, .int (nI 0), .int (nI 0), .int 0])), (aL_6, .inr (0, [.int 0, .ref eE, .int (nI 0)])), (aQ_7, .inr (4, [.ref aT_2, .ref aK_8, .ref aV_9, .int 61, .int 0, .int 1, .int 61, .long 0])), (aK_8, .inr (3, [.int (-1), .int 0])), (aV_9, .inr (3, [.int (-1), .int 0])), (q_12, .inr (7, [.int 0, .ref a1_13, .int (nI 0), .int (nI 0), .ref a2_15, .ref a3_17, .ref a4_19, .ref a5_21, .ref a6_23, .int (nI 0), .int 0, .int 0, .int 0, .int 0, .long 0, .int 0, .long 0, .int 0, .long 0])), (a1_13, .inl (c1__14, 16384, .inl (fun _ => 0))), (a2_15, .inl (c2__16, 1000, .inr (.inl (fun _ => 0)))), (a3_17, .inl (c3__18, 1000, .inl (fun _ => 0))), (a4_19, .inl (c4__20, 1000, .inr (.inl (fun _ => 0)))), (a5_21, .inl (c5__22, 1000, .inl (fun _ => 0))), (a6_23, .inl (c6__24, 1000, .inl (fun _ => 0))), (q_27, .inl (k_28, 1, .inr (.inl (fun _ => 0))))] H := hP
  have hD : va_D (fun q : Nat => s.heap.size ≤ q) [(q_1, .inr (6, [.ref aT_2, .ref aF_5, .ref aQ_7, .int 0, .int (-1)])), (aT_2, .inr (5, [.ref aR_3, .int (nI 0), .int 1])), (aR_3, .inl (cA_4, 64, .inl (fun _ => 0))), (aF_5, .inr (1, [.ref aL_6, .int (nI 0), .int (nI 0), .int 0])), (aL_6, .inr (0, [.int 0, .ref eE, .int (nI 0)])), (aQ_7, .inr (4, [.ref aT_2, .ref aK_8, .ref aV_9, .int 61, .int 0, .int 1, .int 61, .long 0])), (aK_8, .inr (3, [.int (-1), .int 0])), (aV_9, .inr (3, [.int (-1), .int 0])), (q_12, .inr (7, [.int 0, .ref a1_13, .int (nI 0), .int (nI 0), .ref a2_15, .ref a3_17, .ref a4_19, .ref a5_21, .ref a6_23, .int (nI 0), .int 0, .int 0, .int 0, .int 0, .long 0, .int 0, .long 0, .int 0, .long 0])), (a1_13, .inl (c1__14, 16384, .inl (fun _ => 0))), (a2_15, .inl (c2__16, 1000, .inr (.inl (fun _ => 0)))), (a3_17, .inl (c3__18, 1000, .inl (fun _ => 0))), (a4_19, .inl (c4__20, 1000, .inr (.inl (fun _ => 0)))), (a5_21, .inl (c5__22, 1000, .inl (fun _ => 0))), (a6_23, .inl (c6__24, 1000, .inl (fun _ => 0))), (q_27, .inl (k_28, 1, .inr (.inl (fun _ => 0))))] := hD
  refine lv_astore_n (lv' := [(3, .ref q_27), (2, .ref q_12), (1, .ref q_1), (0, .ref b)]) hx hb dc_L_law_19 rfl hl (by decide) rfl (fun ls hl => ?_)
  refine lv_iconst (v := 0) hx hb dc_L_law_20 (by decide) ?_
  refine lv_istore (lv' := [(4, .int 0), (3, .ref q_27), (2, .ref q_12), (1, .ref q_1), (0, .ref b)]) hx hb dc_L_law_21 hl (by decide) rfl (fun ls hl => ?_)
  have hP9 := hP.sub (ws' := [(q_1, .inr (6, [.ref aT_2, .ref aF_5, .ref aQ_7, .int 0, .int (-1)])), (aT_2, .inr (5, [.ref aR_3, .int (nI 0), .int 1])), (aR_3, .inl (cA_4, 64, .inl (fun _ => 0))), (aF_5, .inr (1, [.ref aL_6, .int (nI 0), .int (nI 0), .int 0])), (aL_6, .inr (0, [.int 0, .ref eE, .int (nI 0)])), (aQ_7, .inr (4, [.ref aT_2, .ref aK_8, .ref aV_9, .int 61, .int 0, .int 1, .int 61, .long 0])), (aK_8, .inr (3, [.int (-1), .int 0])), (aV_9, .inr (3, [.int (-1), .int 0])), (q_27, .inl (k_28, 1, .inr (.inl (fun _ => 0)))), (q_12, .inr (7, [.int 0, .ref a1_13, .int (nI 0), .int (nI 0), .ref a2_15, .ref a3_17, .ref a4_19, .ref a5_21, .ref a6_23, .int (nI 0), .int 0, .int 0, .int 0, .int 0, .long 0, .int 0, .long 0, .int 0, .long 0])), (a1_13, .inl (c1__14, 16384, .inl (fun _ => 0))), (a2_15, .inl (c2__16, 1000, .inr (.inl (fun _ => 0)))), (a3_17, .inl (c3__18, 1000, .inl (fun _ => 0))), (a4_19, .inl (c4__20, 1000, .inr (.inl (fun _ => 0)))), (a5_21, .inl (c5__22, 1000, .inl (fun _ => 0))), (a6_23, .inl (c6__24, 1000, .inl (fun _ => 0)))]) [0, 1, 2, 3, 4, 5, 6, 7, 15, 8, 9, 10, 11, 12, 13, 14] rfl
  have hD9 := hD.sub (ws' := [(q_1, .inr (6, [.ref aT_2, .ref aF_5, .ref aQ_7, .int 0, .int (-1)])), (aT_2, .inr (5, [.ref aR_3, .int (nI 0), .int 1])), (aR_3, .inl (cA_4, 64, .inl (fun _ => 0))), (aF_5, .inr (1, [.ref aL_6, .int (nI 0), .int (nI 0), .int 0])), (aL_6, .inr (0, [.int 0, .ref eE, .int (nI 0)])), (aQ_7, .inr (4, [.ref aT_2, .ref aK_8, .ref aV_9, .int 61, .int 0, .int 1, .int 61, .long 0])), (aK_8, .inr (3, [.int (-1), .int 0])), (aV_9, .inr (3, [.int (-1), .int 0])), (q_27, .inl (k_28, 1, .inr (.inl (fun _ => 0)))), (q_12, .inr (7, [.int 0, .ref a1_13, .int (nI 0), .int (nI 0), .ref a2_15, .ref a3_17, .ref a4_19, .ref a5_21, .ref a6_23, .int (nI 0), .int 0, .int 0, .int 0, .int 0, .long 0, .int 0, .long 0, .int 0, .long 0])), (a1_13, .inl (c1__14, 16384, .inl (fun _ => 0))), (a2_15, .inl (c2__16, 1000, .inr (.inl (fun _ => 0)))), (a3_17, .inl (c3__18, 1000, .inl (fun _ => 0))), (a4_19, .inl (c4__20, 1000, .inr (.inl (fun _ => 0)))), (a5_21, .inl (c5__22, 1000, .inl (fun _ => 0))), (a6_23, .inl (c6__24, 1000, .inl (fun _ => 0)))]) [0, 1, 2, 3, 4, 5, 6, 7, 15, 8, 9, 10, 11, 12, 13, 14] (by decide) rfl
  have hK9 := hK.sub (tys' := [(cA_4, .byte), (cO, .object "java/lang/Object"), (k_28, .long), (c1__14, .int), (c2__16, .long), (c3__18, .int), (c4__20, .long), (c5__22, .int), (c6__24, .int)]) [1, 0, 8, 2, 3, 4, 5, 6, 7] rfl
  refine W.widen (k := CN 0) (n := SN 0 64 0) (by unfold CN; omega) (by unfold SN; omega) ?_
  refine law_loop (dC := dC) (dI := dI) hx hb hr hlocks hml hown hts hX hbl hbA hA hG hE hst hL (0, 64, 0) _ _ _ ⟨by show 0 ≤ 4700; omega, INV_mk (plt := []) (gs := fun _ => (0, 0, 0, 0, 0, 0)) (k := 0) (dn := 0) (wt := 0) (N := 0) (xa := 0) hP9 hD9 hK9 (Nat.zero_le _) (by show 64 ≤ 16384; omega) fitB_0 (fun i h => absurd h (Nat.not_lt_zero _)) (fun h => absurd h (by decide)) rd_0 (Or.inl ⟨rfl, rfl, rfl⟩) (Nat.zero_le _), hS, lv_sub hl [0, 1, 2, 3, 4] rfl⟩
set_option maxHeartbeats 4000000 in
theorem lw_walk (l : Launch) (hst : l.stackTraces = false) (b : Addr) (xs : List Int32) : MetFree l x (headSpec (Jvm.Cond.code x code maxLocals ret :: tables_1) room_1) (lw_P b xs) (fun _ _ _ _ _ => True) lw_Q := by
  refine MetFree.of_bodyS (code := code) (maxLocals := maxLocals) (ret := ret) (by decide) ?_ ?_
  · intro args s m h hn
    obtain ⟨meth, c, h1, h2, h3, h4, h5, h6, -, -⟩ := Cond.code_spec hn (atoms_spec (ws := Jvm.Cond.code x code maxLocals ret :: tables_1) h _ List.mem_cons_self)
    exact ⟨meth, c, h1, h2, h3, h4, h5, h6⟩
  · intro p e s m args below meth c s₁ B hml0 hP _
    obtain ⟨rfl, hx, hbd, hgv⟩ := hP
    obtain ⟨scr, harrAt, hlist, hof, hsmall⟩ := hx
    obtain ⟨hcb, hkn, -, -⟩ := State.arrayAt?_spec harrAt
    have hown : s.vm.findClass R_law = some m.cls := findClass_of_methodNamed B.named
    have hts0 : ∀ c ∈ (Jvm.Cond.code x code maxLocals ret :: tables_1), c.before #[Value.ref b] s = true := atoms_spec (ws := Jvm.Cond.code x code maxLocals ret :: tables_1) B.pre
    have hts : ∀ w ∈ lw_tbl, w.before #[Value.ref b] s = true := k2_hts_sels lw_privs (fun w hw => hts0 w (List.mem_cons_of_mem _ hw)) lw_privs_ok
    have hml : c.maxLocals = 8 := B.maxLocals_eq (hts0 _ List.mem_cons_self)
    have X₀ : Stand p l e room_1 s m #[Value.ref b] below meth c s₁ [] 0 0 := Stand.of_body B
    have hh0 : s₁.heap = s.heap := by rw [B.state]; rfl
    have hsz : scr.slots.size = xs.length := by rw [← Array.length_toList, hlist, List.length_map]
    have hval : ∀ j : Nat, j < xs.length → scr.slots[j]? = some (.int (xs.getD j 0)) := fun j hj => by
      rw [← Array.getElem?_toList, hlist]
      simp [hj]
    have hbl : b < s.heap.size := (Array.getElem?_eq_some_iff.mp hcb).1
    have hX : va_X b xs.length (fun j => xs.getD j 0) s s.heap := ⟨scr, hcb, hof, hkn, hsz, hval⟩
    have K : W p l e room_1 s m #[Value.ref b] below meth c s₁.heap [] 0 0 (lw_Z below #[Value.ref b] s) (entryFrame m ([Value.ref b] : List Value).toArray 8) := by
      rw [hh0]
      exact whole_start l hst hbd ⟨B.exec, B.bytes, B.returns, hml, hown, hts, hX, hbl, B.notSynchronized, hgv⟩
    obtain ⟨t, a1, o, b1, b2, b3⟩ := K s₁ rfl X₀
    exact ⟨t, o, a1, b1, b2, b3⟩
theorem lw_pre_spec {args : Array Value} {s : State} (h : (Jvm.Cond.and given_1 narrow_1).before args s = true) (hr : rest_1_c.before args s = true) : ∃ (b : Addr) (xs : List Int32), lw_P b xs args s := by
  have hs := flat_of_before _ h
  have hq := flat_of_before _ hr
  have hc : (Cond.count 1).before args s = true := hs _ (by decide +kernel)
  have harr : (Cond.arrayOf (.arg 0) .int).before args s = true := hs _ (by decide +kernel)
  have hle : (Cond.le (.length (.arg 0)) (.int 4608)).before args s = true := hs _ (by decide +kernel)
  have hlen : (Cond.isInt (.length (.arg 0))).before args s = true := hq _ (by decide +kernel)
  have hall : (Cond.all (.arg 0) (.isInt (.elem (.arg 0) (.index 0)))).before args s = true := hq _ (by decide +kernel)
  obtain ⟨b, xs, hb, hx⟩ := State.ints_of_pre rfl harr hlen hall
  have hsm : xs.length < 2 ^ 31 := hx.choose_spec.2.2.2
  have hev : (Term.length (.arg 0)).eval args s none [] s = some (.int xs.length.toInt32) := hx.length_eval hb
  have hv := Cond.le_ints hev (show (Term.int 4608).eval args s none [] s = some (.int 4608) from rfl)
  have hd : xs.length.toInt32 ≤ 4608 := by
    simpa [Cond.before, Cond.holds, hv] using hle
  have hN : xs.length ≤ 4608 := (Int32.ofNat_le_ofNat hsm (by decide)).mp (show Int32.ofNat xs.length ≤ Int32.ofNat 4608 from hd)
  exact ⟨b, xs, Cond.one_arg hc (show args[0]? = some (.ref b) from hb), hx, hN, h⟩
theorem lw_comes (l : Launch) (hst : l.stackTraces = false) : Comes l x (Jvm.Cond.code x code maxLocals ret :: tables_1) room_1 (fun tb e args s => Calls_1 tb e args s ∧ rest_1 tb e args s ∧ Pre_1 tb e args s)
    (fun _ _ args s o t => lw_Q args s o t) := by
  intro p e ha hc hk s m args below hf hfit hheap happ hpre
  obtain ⟨b, xs, hP⟩ := lw_pre_spec hpre.2.2 hpre.2.1
  obtain ⟨k, o, h1, h2, h3, hQ⟩ := lw_walk l hst b xs p e ha hc hk s m args below hf ((Spec.applies_iff_loose hf).mp happ).1 hP trivial
  exact ⟨k, o, h1, h2, h3, hQ⟩
theorem lw_frame {s t : State} {o : Outcome} {args : Array Value} (h : Framed s o t [] 601024 7293034) :
    Framed s o t (fieldLocs frame_1_writes args s ++ arrayLocs frame_1_arrays args s ++ staticLocs frame_1_statics s) 601024 7293034 := h
theorem lw_limb (L : Cond) (hL : ∀ (args : Array Value) (s t : State), L.after args s (.returned (some (.int 1))) t = true) :
    ArmFor flags0 classFile x code maxLocals ret World_1 tables_1 room_1 Calls_1 rest_1 Pre_1
      (fun tb e a s o t => postC L tb e a s o t ∧ Framed s o t (fieldLocs frame_1_writes a s ++ arrayLocs frame_1_arrays a s ++ staticLocs frame_1_statics s) 601024 7293034) := by
  intro l hfl _ _ p e ha hc hk s m args below hf hfit hheap happ hpre
  obtain ⟨k, o, h1, h2, h3, rfl, hF⟩ := lw_comes l (by unfold Launch.stackTraces; rw [hfl]; decide +kernel) p e ha hc hk s m args below hf hfit hheap happ hpre
  exact ⟨k, _, h1, h2, h3, hL args s _, lw_frame hF⟩
theorem i_vc : Claimed_1_1 ∧ Claimed_1_2 := ⟨lw_limb limb_1_1 (fun args s t => by simp [limb_1_1, Cond.after, Cond.holds, Cond.value]), lw_limb limb_1_2 (fun args s t => Cond.after_iff.mpr (by
  first | (rw [show limb_1_2 = Cond.eq .result (.int 1) from rfl, Cond.eq_ints (x := 1) (y := 1) rfl rfl]; simp; done) | (simp [limb_1_2, Cond.value, Term.eval]; done)))⟩