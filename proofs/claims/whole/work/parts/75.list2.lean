set_option maxHeartbeats 1000000 in
set_option maxRecDepth 100000 in
theorem c_AR_copyOf2 (l : Launch) (dC : Nat → ClassId) (dI : Nat → Nat → Nat) (sz : Nat) (mi : Nat) (ea : Nat) (cO : ClassId) (ln : Nat) (fa : Nat → Option Nat) (gr : va_W) (j : Nat) (hj : ln < j) (hj2 : j ≤ 100000) (hel : ∀ i, i < ln → ∀ y, fa i = some y → ∃ vs, (y, .inr (2, vs)) ∈ gr) : Met l my_AR_copyOf2 (wB my_AR_copyOf2 cd_AR_copyOf2 4 (some (.array (.object "java/lang/Object")))) ({ frames := 1, cells := 1, slots := j, locals := 29 }) (va_Pc [.ref ea, .int (nI j), .ref mi] (PcM (dC, dI) mi ([(ea, .inl (cO, ln, .inr (.inr (.inr (.inr fa)))))] ++ gr) [(cO, .object "java/lang/Object")] sz)) (va_Qr (fun (q1 : Nat) => True) (fun q1 => fun ra t => ra = q1 ∧ EnW (dC, dI) (va_A ([(ea, .inl (cO, ln, .inr (.inr (.inr (.inr fa)))))] ++ gr) sz) ([(ea, .inl (cO, ln, .inr (.inr (.inr (.inr fa))))), (q1, .inl (cO, j, .inr (.inr (.inr (.inr (va_cpy fa (fun _ => none) 0 0 ln))))))] ++ gr) [(cO, .object "java/lang/Object")] t) (va_A ([(ea, .inl (cO, ln, .inr (.inr (.inr (.inr fa)))))] ++ gr) sz)) 1 j (va_A ([(ea, .inl (cO, ln, .inr (.inr (.inr (.inr fa)))))] ++ gr) sz) := by
  refine Met.ofW (cc := cd_AR_copyOf2) (maxL := 4) (ret := (some (.array (.object "java/lang/Object")))) (by decide) rfl ?_
  intro p e s m args below meth c s₁ B hml hv
  obtain ⟨rfl, ⟨hsz, hP, hK, hD0, hG⟩, hE⟩ := hv
  have hx := B.exec
  have hb := B.bytes
  have hr := B.returns
  have hts := fun (w : Cond) (h : w ∈ bigT) => atoms_spec (ws := (wB my_AR_copyOf2 cd_AR_copyOf2 4 (some (.array (.object "java/lang/Object"))))) B.pre w (List.mem_cons_of_mem _ h)
  have hown : s.vm.findClass rn_AR = some m.cls := findClass_of_methodNamed B.named
  have hlocks := B.notSynchronized
  subst hsz
  have hD := hD0.self (sz := s.heap.size)
  generalize hAe : va_A ([(ea, .inl (cO, ln, .inr (.inr (.inr (.inr fa)))))] ++ gr) s.heap.size = A at hD hG ⊢
  have gM := hE
  have hA : ∀ q : Nat, s.heap.size ≤ q → A q := fun q h => by rw [← hAe]; exact Or.inr h
  have hS : va_S A s.heap s.heap [] := va_S.rf
  have hP : va_P (dC, dI) vwCl ([(ea, .inl (cO, ln, .inr (.inr (.inr (.inr fa)))))] ++ gr) s.heap := hP
  have hl := lv_entry ([.ref ea, .int (nI j), .ref mi]) (n := 4) (Nat.le_of_ble_eq_true rfl)
  rw [lg_entry_eq]
  generalize (lg_sl ([.ref ea, .int (nI j), .ref mi]) ++ List.replicate (4 - (lg_sl ([.ref ea, .int (nI j), .ref mi])).length) Slot.unset).toArray = ls at hl ⊢
  have hl : lv_has ls 4 [(0, .ref ea), (1, .int (nI j)), (2, .ref mi)] := hl
  refine lv_aload_n hx hb dc_AR_copyOf2_0 rfl (lv_at hl 2 rfl) ?_
  refine va_ldcM (C := "[Ljava/lang/Object;") hx hb hown (hts _ bw2_222) gM dc_AR_copyOf2_1 ?_
  refine lv_acmp_ne (rx := some mi) (ry := some mi) (tgt := 13) hx hb dc_AR_copyOf2_3 (by decide) (fun c_1 => ?_) (fun c_1 => ?_)
  · exfalso; exact c_1 rfl
  · refine lv_iload_n hx hb dc_AR_copyOf2_6 rfl (lv_at hl 1 rfl) ?_
    refine va_newq (C := "java/lang/Object") (n := (nI j)) (N' := j) hx hb hown (hts _ bw2_224) hG.2.2.2.2.2.1.2.2 hK hP hD hS hA (nI_pos (by omega)) (nI_clamp (by omega)) (by omega) (by show _ ≤ 1; omega) (by show _ ≤ j; omega) dc_AR_copyOf2_7 (fun q_2 k_3 H hK hP hD hS => ?_)
    have hK : va_K (dC, dI) vwCl [(cO, .object "java/lang/Object"), (k_3, .object "java/lang/Object")] s := hK
    obtain rfl := ko_uniq hK 0 1 rfl rfl
    have hK := hK.sub (tys' := [(cO, .object "java/lang/Object")]) [0] rfl
    have hP := va_P.swap hP
    have hD := va_D.swap hD
    have hK : va_K (dC, dI) vwCl [(cO, .object "java/lang/Object")] s := hK
    have hP : va_P (dC, dI) vwCl ([(ea, .inl (cO, ln, .inr (.inr (.inr (.inr fa))))), (q_2, .inl (cO, j, .inr (.inr (.inr (.inr (fun _ => none))))))] ++ gr) H := hP
    have hD : va_D A ([(ea, .inl (cO, ln, .inr (.inr (.inr (.inr fa))))), (q_2, .inl (cO, j, .inr (.inr (.inr (.inr (fun _ => none))))))] ++ gr) := hD
    refine lv_goto (tgt := 24) hx hb dc_AR_copyOf2_10 (by decide) ?_
    refine lv_astore_n (lv' := [(3, .ref q_2), (0, .ref ea), (1, .int (nI j)), (2, .ref mi)]) hx hb dc_AR_copyOf2_24 rfl hl (by decide) rfl (fun ls hl => ?_)
    refine lv_aload_n hx hb dc_AR_copyOf2_25 rfl (lv_at hl 1 rfl) ?_
    refine lv_iconst (v := 0) hx hb dc_AR_copyOf2_26 (by decide) ?_
    refine lv_aload_n hx hb dc_AR_copyOf2_27 rfl (lv_at hl 0 rfl) ?_
    refine lv_iconst (v := 0) hx hb dc_AR_copyOf2_28 (by decide) ?_
    refine lv_aload_n hx hb dc_AR_copyOf2_29 rfl (lv_at hl 1 rfl) ?_
    refine va_alen (v := nI ln) hx hb hK hP 0 0 rfl rfl rfl dc_AR_copyOf2_30 ?_
    refine lv_iload_n hx hb dc_AR_copyOf2_31 rfl (lv_at hl 2 rfl) ?_
    refine va_mmin hx hb (hml.trans hl.1.symm) hown (hts _ bw2_59) (hts _ bw2_44) (hts _ bw1_14) (hts _ bw2_45) (Nat.le_of_ble_eq_true rfl) (Nat.le_of_ble_eq_true rfl) (by show _ ≤ 1; omega) (by show _ ≤ j; omega) dc_AR_copyOf2_32 ?_
    refine W.eq (g2 := F0 m 35 ls [.int (nI ln), .int 0, .ref q_2, .int 0, .ref ea]) (by rw [show (if (nI j) < (nI ln) then (nI j) else (nI ln)) = (nI ln) by exact if_neg (nI_nlt (by omega) (by omega))]) ?_
    refine va_copyM hx hb (hml.trans hl.1.symm) hown (hts _ bw2_60) (hts _ bw2_62) (hts _ bw2_61) (hts _ bw1_16) hK hP hD hS 0 1 0 0 rfl rfl rfl rfl (by decide) (by decide) (nI_pos (by omega)) (by rw [nI_clamp (by omega), sb_cl0]; omega) (by rw [nI_clamp (by omega), sb_cl0]; omega) (fun i hi y hy => anyT hK hP (hG.1 _ (by decide +kernel)) (hel i (by rw [nI_clamp (by omega)] at hi; exact hi) y (by rw [sb_cl0, Nat.zero_add] at hy; exact hy))) (Nat.le_of_ble_eq_true rfl) (Nat.le_of_ble_eq_true rfl) dc_AR_copyOf2_35 (fun H locs hP hD hS => ?_)
    rw [nI_clamp (by omega), sb_cl0] at hP hD
    have hP : va_P (dC, dI) vwCl ([(ea, .inl (cO, ln, .inr (.inr (.inr (.inr fa))))), (q_2, .inl (cO, j, .inr (.inr (.inr (.inr (va_cpy fa (fun _ => none) 0 0 ln))))))] ++ gr) H := hP
    have hD : va_D A ([(ea, .inl (cO, ln, .inr (.inr (.inr (.inr fa))))), (q_2, .inl (cO, j, .inr (.inr (.inr (.inr (va_cpy fa (fun _ => none) 0 0 ln))))))] ++ gr) := hD
    refine lv_aload_n hx hb dc_AR_copyOf2_38 rfl (lv_at hl 0 rfl) ?_
    have hP9 : va_P (dC, dI) vwCl ([(ea, .inl (cO, ln, .inr (.inr (.inr (.inr fa))))), (q_2, .inl (cO, j, .inr (.inr (.inr (.inr (va_cpy fa (fun _ => none) 0 0 ln))))))] ++ gr) H := hP.part (cx := [(ea, .inl (cO, ln, .inr (.inr (.inr (.inr fa))))), (q_2, .inl (cO, j, .inr (.inr (.inr (.inr (va_cpy fa (fun _ => none) 0 0 ln))))))]) (pl := gr) [0, 1] rfl
    have hD9 : va_D A ([(ea, .inl (cO, ln, .inr (.inr (.inr (.inr fa))))), (q_2, .inl (cO, j, .inr (.inr (.inr (.inr (va_cpy fa (fun _ => none) 0 0 ln))))))] ++ gr) := hD.part (cx := [(ea, .inl (cO, ln, .inr (.inr (.inr (.inr fa))))), (q_2, .inl (cO, j, .inr (.inr (.inr (.inr (va_cpy fa (fun _ => none) 0 0 ln))))))]) (pl := gr) [0, 1] (by decide) rfl
    have hK9 := hK.sub (tys' := [(cO, .object "java/lang/Object")]) [0] rfl
    refine W.widen (k := 1) (n := j) (by omega) (by omega) ?_
    exact W.aret (v := .ref q_2) hx hb hr (Or.inr ⟨_, rfl⟩) (Or.inr ⟨_, rfl⟩) (fun t ht hW => ⟨⟨q_2, q_2, rfl, trivial, rfl, by rw [ht]; exact hP9, va_K.moved hW.alike hK9, hD9⟩, hS.F ht⟩) hS.2.2 dc_AR_copyOf2_39

set_option maxHeartbeats 1000000 in
set_option maxRecDepth 100000 in
theorem c_AR_copyOf1 (l : Launch) (dC : Nat → ClassId) (dI : Nat → Nat → Nat) (sz : Nat) (ea : Nat) (cO : ClassId) (ln : Nat) (fa : Nat → Option Nat) (gr : va_W) (j : Nat) (hj : ln < j) (hj2 : j ≤ 100000) (hel : ∀ i, i < ln → ∀ y, fa i = some y → ∃ vs, (y, .inr (2, vs)) ∈ gr) : Met l my_AR_copyOf1 (wB my_AR_copyOf1 cd_AR_copyOf1 2 (some (.array (.object "java/lang/Object")))) ({ frames := 2, cells := 1, slots := j, locals := 52 }) (va_Pc [.ref ea, .int (nI j)] (PcW (dC, dI) ([(ea, .inl (cO, ln, .inr (.inr (.inr (.inr fa)))))] ++ gr) [(cO, .object "java/lang/Object")] sz)) (va_Qr (fun (q1 : Nat) => True) (fun q1 => fun ra t => ra = q1 ∧ EnW (dC, dI) (va_A ([(ea, .inl (cO, ln, .inr (.inr (.inr (.inr fa)))))] ++ gr) sz) ([(ea, .inl (cO, ln, .inr (.inr (.inr (.inr fa))))), (q1, .inl (cO, j, .inr (.inr (.inr (.inr (va_cpy fa (fun _ => none) 0 0 ln))))))] ++ gr) [(cO, .object "java/lang/Object")] t) (va_A ([(ea, .inl (cO, ln, .inr (.inr (.inr (.inr fa)))))] ++ gr) sz)) 1 j (va_A ([(ea, .inl (cO, ln, .inr (.inr (.inr (.inr fa)))))] ++ gr) sz) := by
  refine Met.ofW (cc := cd_AR_copyOf1) (maxL := 2) (ret := (some (.array (.object "java/lang/Object")))) (by decide) rfl ?_
  intro p e s m args below meth c s₁ B hml hv
  obtain ⟨rfl, hsz, hP, hK, hD0, hG⟩ := hv
  have hx := B.exec
  have hb := B.bytes
  have hr := B.returns
  have hts := fun (w : Cond) (h : w ∈ bigT) => atoms_spec (ws := (wB my_AR_copyOf1 cd_AR_copyOf1 2 (some (.array (.object "java/lang/Object"))))) B.pre w (List.mem_cons_of_mem _ h)
  have hown : s.vm.findClass rn_AR = some m.cls := findClass_of_methodNamed B.named
  have hlocks := B.notSynchronized
  subst hsz
  have hD := hD0.self (sz := s.heap.size)
  generalize hAe : va_A ([(ea, .inl (cO, ln, .inr (.inr (.inr (.inr fa)))))] ++ gr) s.heap.size = A at hD hG ⊢
  have hA : ∀ q : Nat, s.heap.size ≤ q → A q := fun q h => by rw [← hAe]; exact Or.inr h
  have hS : va_S A s.heap s.heap [] := va_S.rf
  have hP : va_P (dC, dI) vwCl ([(ea, .inl (cO, ln, .inr (.inr (.inr (.inr fa)))))] ++ gr) s.heap := hP
  have hl := lv_entry ([.ref ea, .int (nI j)]) (n := 2) (Nat.le_of_ble_eq_true rfl)
  rw [lg_entry_eq]
  generalize (lg_sl ([.ref ea, .int (nI j)]) ++ List.replicate (2 - (lg_sl ([.ref ea, .int (nI j)])).length) Slot.unset).toArray = ls at hl ⊢
  have hl : lv_has ls 2 [(0, .ref ea), (1, .int (nI j))] := hl
  obtain ⟨mi, gM⟩ := hG.2.2.2.2.2.1.1
  refine lv_aload_n hx hb dc_AR_copyOf1_0 rfl (lv_at hl 0 rfl) ?_
  refine lv_iload_n hx hb dc_AR_copyOf1_1 rfl (lv_at hl 1 rfl) ?_
  refine lv_aload_n hx hb dc_AR_copyOf1_2 rfl (lv_at hl 0 rfl) ?_
  refine va_getC (C := "[Ljava/lang/Object;") hx hb (hml.trans hl.1.symm) hown (hts _ bw2_205) (va_Dc.use hG.2.2.2.2.2.1.2.1) (hts _ bw4_118) (hts _ bw2_206) (hts _ bw2_218) gM (recvQ hK hP 0 0 rfl rfl) (Nat.le_of_ble_eq_true rfl) (Nat.le_of_ble_eq_true rfl) dc_AR_copyOf1_3 ?_
  refine kc_rP (X := [(ea, .inl (cO, ln, .inr (.inr (.inr (.inr fa)))))]) (cx := [(ea, .inl (cO, ln, .inr (.inr (.inr (.inr fa)))))]) (wr := []) (pl := gr) hP hD hS hA [0] [] rfl rfl (by decide) (by decide) (va_runS (As := [.ref ea, .int (nI j), .ref mi]) (rest := []) ⟨hx, hb, hml, hown, hts⟩ (c_AR_copyOf2 l dC dI _ mi ea cO ln fa gr j (by omega) (by omega) (hel)) (kw_S 3 hts bw2_219 bw2_220 bw1_15 bw2_221 rfl rfl (by decide +kernel) ⟨Nat.le_of_ble_eq_true rfl, Nat.le_of_ble_eq_true rfl⟩) (kp_SPM (cx := [(ea, .inl (cO, ln, .inr (.inr (.inr (.inr fa)))))]) (pl := gr) (tc := [(cO, .object "java/lang/Object")]) (av := [.ref ea, .int (nI j), .ref mi]) gM hG hS hA hP hD hK [0] (by decide) rfl [0] rfl) rfl rfl hl.1 rfl (lv_room (Nat.le_of_ble_eq_true rfl)) dc_AR_copyOf1_6 ⟨by show _ ≤ 1; omega, by show _ ≤ j; omega⟩) (fun q1_1 H locs hw hP hD hK1 hS => ?_)
  have hP : va_P (dC, dI) vwCl ([(ea, .inl (cO, ln, .inr (.inr (.inr (.inr fa))))), (q1_1, .inl (cO, j, .inr (.inr (.inr (.inr (va_cpy fa (fun _ => none) 0 0 ln))))))] ++ gr) H := hP
  have hD : va_D A ([(ea, .inl (cO, ln, .inr (.inr (.inr (.inr fa))))), (q1_1, .inl (cO, j, .inr (.inr (.inr (.inr (va_cpy fa (fun _ => none) 0 0 ln))))))] ++ gr) := hD
  refine W.eq (g2 := F0 m 9 ls [.ref q1_1]) rfl ?_
  have hP9 : va_P (dC, dI) vwCl ([(ea, .inl (cO, ln, .inr (.inr (.inr (.inr fa))))), (q1_1, .inl (cO, j, .inr (.inr (.inr (.inr (va_cpy fa (fun _ => none) 0 0 ln))))))] ++ gr) H := hP.part (cx := [(ea, .inl (cO, ln, .inr (.inr (.inr (.inr fa))))), (q1_1, .inl (cO, j, .inr (.inr (.inr (.inr (va_cpy fa (fun _ => none) 0 0 ln))))))]) (pl := gr) [0, 1] rfl
  have hD9 : va_D A ([(ea, .inl (cO, ln, .inr (.inr (.inr (.inr fa))))), (q1_1, .inl (cO, j, .inr (.inr (.inr (.inr (va_cpy fa (fun _ => none) 0 0 ln))))))] ++ gr) := hD.part (cx := [(ea, .inl (cO, ln, .inr (.inr (.inr (.inr fa))))), (q1_1, .inl (cO, j, .inr (.inr (.inr (.inr (va_cpy fa (fun _ => none) 0 0 ln))))))]) (pl := gr) [0, 1] (by decide) rfl
  have hK9 := hK.sub (tys' := [(cO, .object "java/lang/Object")]) [0] rfl
  refine W.widen (k := 1) (n := j) (by omega) (by omega) ?_
  exact W.aret (v := .ref q1_1) hx hb hr (Or.inr ⟨_, rfl⟩) (Or.inr ⟨_, rfl⟩) (fun t ht hW => ⟨⟨q1_1, q1_1, rfl, trivial, rfl, by rw [ht]; exact hP9, va_K.moved hW.alike hK9, hD9⟩, hS.F ht⟩) hS.2.2 dc_AR_copyOf1_9

set_option maxHeartbeats 1000000 in
set_option maxRecDepth 100000 in
theorem c_A_grow1 (l : Launch) (dC : Nat → ClassId) (dI : Nat → Nat → Nat) (sz : Nat) (aL : Nat) (md : Int32) (ea : Nat) (N : Nat) (cO : ClassId) (ln : Nat) (fa : Nat → Option Nat) (gr : va_W) (mN : Nat) (hmN : mN = ln + 1) (h10 : 10 ≤ ln) (hln : ln ≤ 40000) (hel : ∀ i, i < ln → ∀ y, fa i = some y → ∃ vs, (y, .inr (2, vs)) ∈ gr) : Met l my_A_grow1 (wB my_A_grow1 cd_A_grow1 4 (some (.array (.object "java/lang/Object")))) ({ frames := 3, cells := 1, slots := ln + ln / 2, locals := 73 }) (va_Pc [.ref aL, .int (nI mN)] (PcW (dC, dI) ([(aL, .inr (0, [.int md, .ref ea, .int (nI N)])), (ea, .inl (cO, ln, .inr (.inr (.inr (.inr fa)))))] ++ gr) [(cO, .object "java/lang/Object")] sz)) (va_Qr (fun (q1 : Nat) => True) (fun q1 => fun ra t => ra = q1 ∧ EnW (dC, dI) (va_A ([(aL, .inr (0, [.int md, .ref ea, .int (nI N)])), (ea, .inl (cO, ln, .inr (.inr (.inr (.inr fa)))))] ++ gr) sz) ([(aL, .inr (0, [.int md, .ref q1, .int (nI N)])), (q1, .inl (cO, ln + ln / 2, .inr (.inr (.inr (.inr (va_cpy fa (fun _ => none) 0 0 ln))))))] ++ gr) [(cO, .object "java/lang/Object")] t) (va_A ([(aL, .inr (0, [.int md, .ref ea, .int (nI N)])), (ea, .inl (cO, ln, .inr (.inr (.inr (.inr fa)))))] ++ gr) sz)) 1 (ln + ln / 2) (va_A ([(aL, .inr (0, [.int md, .ref ea, .int (nI N)])), (ea, .inl (cO, ln, .inr (.inr (.inr (.inr fa)))))] ++ gr) sz) := by
  refine Met.ofW (cc := cd_A_grow1) (maxL := 4) (ret := (some (.array (.object "java/lang/Object")))) (by decide) rfl ?_
  intro p e s m args below meth c s₁ B hml hv
  obtain ⟨rfl, hsz, hP, hK, hD0, hG⟩ := hv
  have hx := B.exec
  have hb := B.bytes
  have hr := B.returns
  have hts := fun (w : Cond) (h : w ∈ bigT) => atoms_spec (ws := (wB my_A_grow1 cd_A_grow1 4 (some (.array (.object "java/lang/Object"))))) B.pre w (List.mem_cons_of_mem _ h)
  have hown : s.vm.findClass rn_A = some m.cls := findClass_of_methodNamed B.named
  have hlocks := B.notSynchronized
  subst hsz
  have hD := hD0.self (sz := s.heap.size)
  generalize hAe : va_A ([(aL, .inr (0, [.int md, .ref ea, .int (nI N)])), (ea, .inl (cO, ln, .inr (.inr (.inr (.inr fa)))))] ++ gr) s.heap.size = A at hD hG ⊢
  have hA : ∀ q : Nat, s.heap.size ≤ q → A q := fun q h => by rw [← hAe]; exact Or.inr h
  have hS : va_S A s.heap s.heap [] := va_S.rf
  have hP : va_P (dC, dI) vwCl ([(aL, .inr (0, [.int md, .ref ea, .int (nI N)])), (ea, .inl (cO, ln, .inr (.inr (.inr (.inr fa)))))] ++ gr) s.heap := hP
  have hl := lv_entry ([.ref aL, .int (nI mN)]) (n := 4) (Nat.le_of_ble_eq_true rfl)
  rw [lg_entry_eq]
  generalize (lg_sl ([.ref aL, .int (nI mN)]) ++ List.replicate (4 - (lg_sl ([.ref aL, .int (nI mN)])).length) Slot.unset).toArray = ls at hl ⊢
  have hl : lv_has ls 4 [(0, .ref aL), (1, .int (nI mN))] := hl
  refine lv_aload_n hx hb dc_A_grow1_0 rfl (lv_at hl 0 rfl) ?_
  refine va_get (D := (dC, dI)) (ci := 0) (v := .ref ea) (C := rn_A) (T := ft_A) (N := 3) hx hb hts fw_A hown hK hP 0 rfl rfl 1 (by decide) (hts _ bw1_70) (fun _ h9 => h9) rfl dc_A_grow1_1 ?_
  refine va_alen (v := nI ln) hx hb hK hP 1 0 rfl rfl rfl dc_A_grow1_4 ?_
  refine lv_istore_n (lv' := [(2, .int (nI ln)), (0, .ref aL), (1, .int (nI mN))]) hx hb dc_A_grow1_5 rfl hl (by decide) rfl (fun ls hl => ?_)
  refine lv_iload_n hx hb dc_A_grow1_6 rfl (lv_at hl 0 rfl) ?_
  refine lv_if_gt (tgt := 20) hx hb dc_A_grow1_7 (by decide) (fun c_1 => ?_) (fun c_1 => ?_)
  · refine lv_iload_n hx hb dc_A_grow1_20 rfl (lv_at hl 0 rfl) ?_
    refine lv_iload_n hx hb dc_A_grow1_21 rfl (lv_at hl 2 rfl) ?_
    refine lv_iload_n hx hb dc_A_grow1_22 rfl (lv_at hl 0 rfl) ?_
    refine lv_isub hx hb dc_A_grow1_23 ?_
    refine lv_iload_n hx hb dc_A_grow1_24 rfl (lv_at hl 0 rfl) ?_
    refine lv_iconst (v := 1) hx hb dc_A_grow1_25 (by decide) ?_
    refine lv_ishr hx hb dc_A_grow1_26 ?_
    refine W.eq (g2 := F0 m 27 ls [.int (nI (ln / 2)), .int ((nI mN) - (nI ln)), .int (nI ln)]) (by rw [show ((nI ln) >>> (1 &&& 31)) = (nI (ln / 2)) by exact nl_half (by omega)]) ?_
    refine W.eq (g2 := F0 m 27 ls [.int (nI (ln / 2)), .int (nI 1), .int (nI ln)]) (by rw [show ((nI mN) - (nI ln)) = (nI 1) by rw [hmN, pk_sub (by omega), Nat.add_sub_cancel_left]]) ?_
    refine kc_iQ (X := [(aL, .inr (0, [.int md, .ref ea, .int (nI N)])), (ea, .inl (cO, ln, .inr (.inr (.inr (.inr fa)))))]) (cx := []) (wr := [(aL, .inr (0, [.int md, .ref ea, .int (nI N)])), (ea, .inl (cO, ln, .inr (.inr (.inr (.inr fa)))))]) (pl := gr) hP hD hS hA [] [0, 1] rfl rfl rfl (by decide) (by decide) (va_runS (As := [.int (nI ln), .int (nI 1), .int (nI (ln / 2))]) (rest := []) ⟨hx, hb, hml, hown, hts⟩ (c_AS_newLength l dC dI _ ln 1 (ln / 2) (by omega) (by omega) (by omega) (by omega)) (kw_S 3 hts bw2_194 bw2_195 bw1_19 bw2_196 rfl rfl (by decide +kernel) ⟨Nat.le_of_ble_eq_true rfl, Nat.le_of_ble_eq_true rfl⟩) (kp_S (wc := []) (tc := []) (av := [.int (nI ln), .int (nI 1), .int (nI (ln / 2))]) hG hS hA hP hD hK [] rfl (by decide) rfl [] rfl) rfl rfl hl.1 rfl (lv_room (Nat.le_of_ble_eq_true rfl)) dc_A_grow1_27 ⟨Nat.zero_le _, Nat.zero_le _⟩) (fun r_2 _ H locs hw hP hD hK1 hS => ?_)
    have hw : nI (ln + max 1 (ln / 2)) = r_2 := hw.symm
    subst hw
    have hP : va_P (dC, dI) vwCl ([(aL, .inr (0, [.int md, .ref ea, .int (nI N)])), (ea, .inl (cO, ln, .inr (.inr (.inr (.inr fa)))))] ++ gr) H := hP
    have hD : va_D A ([(aL, .inr (0, [.int md, .ref ea, .int (nI N)])), (ea, .inl (cO, ln, .inr (.inr (.inr (.inr fa)))))] ++ gr) := hD
    refine W.eq (g2 := F0 m 30 ls [.int (nI (ln + ln / 2))]) (by rw [show (nI (ln + max 1 (ln / 2))) = (nI (ln + ln / 2)) by rw [show max 1 (ln / 2) = ln / 2 by omega]]) ?_
    refine lv_istore_n (lv' := [(3, .int (nI (ln + ln / 2))), (2, .int (nI ln)), (0, .ref aL), (1, .int (nI mN))]) hx hb dc_A_grow1_30 rfl hl (by decide) rfl (fun ls hl => ?_)
    refine lv_aload_n hx hb dc_A_grow1_31 rfl (lv_at hl 2 rfl) ?_
    refine lv_aload_n hx hb dc_A_grow1_32 rfl (lv_at hl 2 rfl) ?_
    refine va_get (D := (dC, dI)) (ci := 0) (v := .ref ea) (C := rn_A) (T := ft_A) (N := 3) hx hb hts fw_A hown hK hP 0 rfl rfl 1 (by decide) (hts _ bw1_70) (fun _ h9 => h9) rfl dc_A_grow1_33 ?_
    refine lv_iload_n hx hb dc_A_grow1_36 rfl (lv_at hl 0 rfl) ?_
    refine kc_rP (X := [(aL, .inr (0, [.int md, .ref ea, .int (nI N)])), (ea, .inl (cO, ln, .inr (.inr (.inr (.inr fa)))))]) (cx := [(ea, .inl (cO, ln, .inr (.inr (.inr (.inr fa)))))]) (wr := [(aL, .inr (0, [.int md, .ref ea, .int (nI N)]))]) (pl := gr) hP hD hS hA [1] [0] rfl rfl (by decide) (by decide) (va_runS (As := [.ref ea, .int (nI (ln + ln / 2))]) (rest := [.ref aL]) ⟨hx, hb, hml, hown, hts⟩ (c_AR_copyOf1 l dC dI _ ea cO ln fa gr (ln + ln / 2) (by omega) (by omega) (hel)) (kw_S 2 hts bw2_202 bw2_203 bw1_15 bw2_204 rfl rfl (by decide +kernel) ⟨Nat.le_of_ble_eq_true rfl, Nat.le_of_ble_eq_true rfl⟩) (kp_SP (cx := [(ea, .inl (cO, ln, .inr (.inr (.inr (.inr fa)))))]) (pl := gr) (tc := [(cO, .object "java/lang/Object")]) (av := [.ref ea, .int (nI (ln + ln / 2))]) hG hS hA hP hD hK [1] (by decide) rfl [0] rfl) rfl rfl hl.1 rfl (lv_room (Nat.le_of_ble_eq_true rfl)) dc_A_grow1_37 ⟨by show _ ≤ 1; omega, by show _ ≤ ln + ln / 2; omega⟩) (fun q1_3 H locs hw hP hD hK1 hS => ?_)
    have hP : va_P (dC, dI) vwCl ([(aL, .inr (0, [.int md, .ref ea, .int (nI N)])), (ea, .inl (cO, ln, .inr (.inr (.inr (.inr fa))))), (q1_3, .inl (cO, (ln + ln / 2), .inr (.inr (.inr (.inr (va_cpy fa (fun _ => none) 0 0 ln))))))] ++ gr) H := hP
    have hD : va_D A ([(aL, .inr (0, [.int md, .ref ea, .int (nI N)])), (ea, .inl (cO, ln, .inr (.inr (.inr (.inr fa))))), (q1_3, .inl (cO, (ln + ln / 2), .inr (.inr (.inr (.inr (va_cpy fa (fun _ => none) 0 0 ln))))))] ++ gr) := hD
    refine W.eq (g2 := F0 m 40 ls [.ref q1_3, .ref aL]) rfl ?_
    refine lv_dup_x1 hx hb dc_A_grow1_40 rfl rfl ?_
    refine va_put (D := (dC, dI)) (ci := 0) (v := .ref q1_3) (ty := .array (.object "java/lang/Object")) (C := rn_A) (T := ft_A) (N := 3) hx hb hts fw_A fy_A fo_A fn_A hown hK hP hD hS 0 rfl rfl 1 (by decide) (hts _ bw1_70) (fun _ h9 => h9) rfl (by decide +kernel) rfl rfl (Nat.le_of_ble_eq_true rfl) dc_A_grow1_41 (fun H locs hP hD hS => ?_)
    have hP : va_P (dC, dI) vwCl ([(aL, .inr (0, [.int md, .ref q1_3, .int (nI N)])), (ea, .inl (cO, ln, .inr (.inr (.inr (.inr fa))))), (q1_3, .inl (cO, (ln + ln / 2), .inr (.inr (.inr (.inr (va_cpy fa (fun _ => none) 0 0 ln))))))] ++ gr) H := hP
    have hD : va_D A ([(aL, .inr (0, [.int md, .ref q1_3, .int (nI N)])), (ea, .inl (cO, ln, .inr (.inr (.inr (.inr fa))))), (q1_3, .inl (cO, (ln + ln / 2), .inr (.inr (.inr (.inr (va_cpy fa (fun _ => none) 0 0 ln))))))] ++ gr) := hD
    have hP9 : va_P (dC, dI) vwCl ([(aL, .inr (0, [.int md, .ref q1_3, .int (nI N)])), (q1_3, .inl (cO, ln + ln / 2, .inr (.inr (.inr (.inr (va_cpy fa (fun _ => none) 0 0 ln))))))] ++ gr) H := hP.part (cx := [(aL, .inr (0, [.int md, .ref q1_3, .int (nI N)])), (q1_3, .inl (cO, ln + ln / 2, .inr (.inr (.inr (.inr (va_cpy fa (fun _ => none) 0 0 ln))))))]) (pl := gr) [0, 2] rfl
    have hD9 : va_D A ([(aL, .inr (0, [.int md, .ref q1_3, .int (nI N)])), (q1_3, .inl (cO, ln + ln / 2, .inr (.inr (.inr (.inr (va_cpy fa (fun _ => none) 0 0 ln))))))] ++ gr) := hD.part (cx := [(aL, .inr (0, [.int md, .ref q1_3, .int (nI N)])), (q1_3, .inl (cO, ln + ln / 2, .inr (.inr (.inr (.inr (va_cpy fa (fun _ => none) 0 0 ln))))))]) (pl := gr) [0, 2] (by decide) rfl
    have hK9 := hK.sub (tys' := [(cO, .object "java/lang/Object")]) [0] rfl
    refine W.widen (k := 1) (n := ln + ln / 2) (by omega) (by omega) ?_
    exact W.aret (v := .ref q1_3) hx hb hr (Or.inr ⟨_, rfl⟩) (Or.inr ⟨_, rfl⟩) (fun t ht hW => ⟨⟨q1_3, q1_3, rfl, trivial, rfl, by rw [ht]; exact hP9, va_K.moved hW.alike hK9, hD9⟩, hS.F ht⟩) hS.2.2 dc_A_grow1_44
  · exact absurd (nI_lt (a := 0) (by omega) (by omega)) c_1

set_option maxHeartbeats 1000000 in
set_option maxRecDepth 100000 in
theorem c_A_grow1f (l : Launch) (dC : Nat → ClassId) (dI : Nat → Nat → Nat) (sz : Nat) (eE : Nat) (aL : Nat) (md : Int32) (N : Nat) (cO : ClassId) (mN : Nat) (hmN : mN = 1) : Met l my_A_grow1 (wB my_A_grow1 cd_A_grow1 4 (some (.array (.object "java/lang/Object")))) ({ frames := 1, cells := 1, slots := 10, locals := 14 }) (va_Pc [.ref aL, .int (nI mN)] (PcE (dC, dI) eE [(aL, .inr (0, [.int md, .ref eE, .int (nI N)]))] [(cO, .object "java/lang/Object")] sz)) (va_Qr (fun (q1 : Nat) => True) (fun q1 => fun ra t => ra = q1 ∧ EnW (dC, dI) (va_A [(aL, .inr (0, [.int md, .ref eE, .int (nI N)]))] sz) [(aL, .inr (0, [.int md, .ref q1, .int (nI N)])), (q1, .inl (cO, 10, .inr (.inr (.inr (.inr (fun _ => none))))))] [(cO, .object "java/lang/Object")] t) (va_A [(aL, .inr (0, [.int md, .ref eE, .int (nI N)]))] sz)) 1 10 (va_A [(aL, .inr (0, [.int md, .ref eE, .int (nI N)]))] sz) := by
  refine Met.ofW (cc := cd_A_grow1) (maxL := 4) (ret := (some (.array (.object "java/lang/Object")))) (by decide) rfl ?_
  intro p e s m args below meth c s₁ B hml hv
  obtain ⟨rfl, ⟨hsz, hP, hK, hD0, hG⟩, hE⟩ := hv
  have hx := B.exec
  have hb := B.bytes
  have hr := B.returns
  have hts := fun (w : Cond) (h : w ∈ bigT) => atoms_spec (ws := (wB my_A_grow1 cd_A_grow1 4 (some (.array (.object "java/lang/Object"))))) B.pre w (List.mem_cons_of_mem _ h)
  have hown : s.vm.findClass rn_A = some m.cls := findClass_of_methodNamed B.named
  have hlocks := B.notSynchronized
  subst hsz
  have hD := hD0.self (sz := s.heap.size)
  generalize hAe : va_A [(aL, .inr (0, [.int md, .ref eE, .int (nI N)]))] s.heap.size = A at hD hG hE ⊢
  have gE1 := hE.1
  have gE2 := hE.2
  have hA : ∀ q : Nat, s.heap.size ≤ q → A q := fun q h => by rw [← hAe]; exact Or.inr h
  have hS : va_S A s.heap s.heap [] := va_S.rf
  have hP : va_P (dC, dI) vwCl [(aL, .inr (0, [.int md, .ref eE, .int (nI N)]))] s.heap := hP
  have hl := lv_entry ([.ref aL, .int (nI mN)]) (n := 4) (Nat.le_of_ble_eq_true rfl)
  rw [lg_entry_eq]
  generalize (lg_sl ([.ref aL, .int (nI mN)]) ++ List.replicate (4 - (lg_sl ([.ref aL, .int (nI mN)])).length) Slot.unset).toArray = ls at hl ⊢
  have hl : lv_has ls 4 [(0, .ref aL), (1, .int (nI mN))] := hl
  refine lv_aload_n hx hb dc_A_grow1_0 rfl (lv_at hl 0 rfl) ?_
  refine va_get (D := (dC, dI)) (ci := 0) (v := .ref eE) (C := rn_A) (T := ft_A) (N := 3) hx hb hts fw_A hown hK hP 0 rfl rfl 1 (by decide) (hts _ bw1_70) (fun _ h9 => h9) rfl dc_A_grow1_1 ?_
  refine va_tlen (v := 0) hx hb gE2 hS rfl dc_A_grow1_4 ?_
  refine lv_istore_n (lv' := [(2, .int 0), (0, .ref aL), (1, .int (nI mN))]) hx hb dc_A_grow1_5 rfl hl (by decide) rfl (fun ls hl => ?_)
  refine lv_iload_n hx hb dc_A_grow1_6 rfl (lv_at hl 0 rfl) ?_
  refine lv_if_gt (tgt := 20) hx hb dc_A_grow1_7 (by decide) (fun c_1 => ?_) (fun c_1 => ?_)
  · exact absurd c_1 (by decide)
  · refine lv_aload_n hx hb dc_A_grow1_10 rfl (lv_at hl 1 rfl) ?_
    refine va_get (D := (dC, dI)) (ci := 0) (v := .ref eE) (C := rn_A) (T := ft_A) (N := 3) hx hb hts fw_A hown hK hP 0 rfl rfl 1 (by decide) (hts _ bw1_70) (fun _ h9 => h9) rfl dc_A_grow1_11 ?_
    refine va_gets hx hb gE1 hS hown (hts _ bw1_68) (fun _ h9 => h9) dc_A_grow1_14 ?_
    refine lv_acmp_eq (rx := some eE) (ry := some eE) (tgt := 45) hx hb dc_A_grow1_17 (by decide) (fun c_2 => ?_) (fun c_2 => ?_)
    · refine lv_aload_n hx hb dc_A_grow1_45 rfl (lv_at hl 1 rfl) ?_
      refine lv_bipush (v := 10) hx hb dc_A_grow1_46 (by decide) ?_
      refine lv_iload_n hx hb dc_A_grow1_48 rfl (lv_at hl 2 rfl) ?_
      refine va_mmax hx hb (hml.trans hl.1.symm) hown (hts _ bw2_225) (hts _ bw2_47) (hts _ bw1_14) (hts _ bw2_48) (Nat.le_of_ble_eq_true rfl) (Nat.le_of_ble_eq_true rfl) (Nat.zero_le _) (Nat.zero_le _) dc_A_grow1_49 ?_
      refine W.eq (g2 := F0 m 52 ls [.int (nI 10), .ref aL]) (by rw [show (if 10 < (nI mN) then (nI mN) else 10) = (nI 10) by rw [hmN]; decide]) ?_
      refine va_newq (C := "java/lang/Object") (n := (nI 10)) (N' := 10) hx hb hown (hts _ bw2_226) hG.2.2.2.2.2.1.2.2 hK hP hD hS hA (nI_pos (by omega)) (nI_clamp (by omega)) (by omega) (by show _ ≤ 1; omega) (by show _ ≤ 10; omega) dc_A_grow1_52 (fun q_3 k_4 H hK hP hD hS => ?_)
      have hK : va_K (dC, dI) vwCl [(cO, .object "java/lang/Object"), (k_4, .object "java/lang/Object")] s := hK
      obtain rfl := ko_uniq hK 0 1 rfl rfl
      have hK := hK.sub (tys' := [(cO, .object "java/lang/Object")]) [0] rfl
      have hK : va_K (dC, dI) vwCl [(cO, .object "java/lang/Object")] s := hK
      have hP : va_P (dC, dI) vwCl [(aL, .inr (0, [.int md, .ref eE, .int (nI N)])), (q_3, .inl (cO, 10, .inr (.inr (.inr (.inr (fun _ => none))))))] H := hP
      have hD : va_D A [(aL, .inr (0, [.int md, .ref eE, .int (nI N)])), (q_3, .inl (cO, 10, .inr (.inr (.inr (.inr (fun _ => none))))))] := hD
      refine lv_dup_x1 hx hb dc_A_grow1_55 rfl rfl ?_
      refine va_put (D := (dC, dI)) (ci := 0) (v := .ref q_3) (ty := .array (.object "java/lang/Object")) (C := rn_A) (T := ft_A) (N := 3) hx hb hts fw_A fy_A fo_A fn_A hown hK hP hD hS 0 rfl rfl 1 (by decide) (hts _ bw1_70) (fun _ h9 => h9) rfl (by decide +kernel) rfl rfl (Nat.le_of_ble_eq_true rfl) dc_A_grow1_56 (fun H locs hP hD hS => ?_)
      have hP : va_P (dC, dI) vwCl [(aL, .inr (0, [.int md, .ref q_3, .int (nI N)])), (q_3, .inl (cO, 10, .inr (.inr (.inr (.inr (fun _ => none))))))] H := hP
      have hD : va_D A [(aL, .inr (0, [.int md, .ref q_3, .int (nI N)])), (q_3, .inl (cO, 10, .inr (.inr (.inr (.inr (fun _ => none))))))] := hD
      have hP9 := hP.sub (ws' := [(aL, .inr (0, [.int md, .ref q_3, .int (nI N)])), (q_3, .inl (cO, 10, .inr (.inr (.inr (.inr (fun _ => none))))))]) [0, 1] rfl
      have hD9 := hD.sub (ws' := [(aL, .inr (0, [.int md, .ref q_3, .int (nI N)])), (q_3, .inl (cO, 10, .inr (.inr (.inr (.inr (fun _ => none))))))]) [0, 1] (by decide) rfl
      have hK9 := hK.sub (tys' := [(cO, .object "java/lang/Object")]) [0] rfl
      refine W.widen (k := 1) (n := 10) (by omega) (by omega) ?_
      exact W.aret (v := .ref q_3) hx hb hr (Or.inr ⟨_, rfl⟩) (Or.inr ⟨_, rfl⟩) (fun t ht hW => ⟨⟨q_3, q_3, rfl, trivial, rfl, by rw [ht]; exact hP9, va_K.moved hW.alike hK9, hD9⟩, hS.F ht⟩) hS.2.2 dc_A_grow1_59
    · exfalso; exact c_2 rfl

set_option maxHeartbeats 1000000 in
set_option maxRecDepth 100000 in
theorem c_A_grow (l : Launch) (dC : Nat → ClassId) (dI : Nat → Nat → Nat) (sz : Nat) (aL : Nat) (md : Int32) (ea : Nat) (N : Nat) (cO : ClassId) (ln : Nat) (fa : Nat → Option Nat) (gr : va_W) (hN : N = ln) (h10 : 10 ≤ ln) (hln : ln ≤ 40000) (hel : ∀ i, i < ln → ∀ y, fa i = some y → ∃ vs, (y, .inr (2, vs)) ∈ gr) : Met l my_A_grow (wB my_A_grow cd_A_grow 1 (some (.array (.object "java/lang/Object")))) ({ frames := 4, cells := 1, slots := ln + ln / 2, locals := 96 }) (va_Pc [.ref aL] (PcW (dC, dI) ([(aL, .inr (0, [.int md, .ref ea, .int (nI N)])), (ea, .inl (cO, ln, .inr (.inr (.inr (.inr fa)))))] ++ gr) [(cO, .object "java/lang/Object")] sz)) (va_Qr (fun (q1 : Nat) => True) (fun q1 => fun ra t => ra = q1 ∧ EnW (dC, dI) (va_A ([(aL, .inr (0, [.int md, .ref ea, .int (nI N)])), (ea, .inl (cO, ln, .inr (.inr (.inr (.inr fa)))))] ++ gr) sz) ([(aL, .inr (0, [.int md, .ref q1, .int (nI N)])), (q1, .inl (cO, ln + ln / 2, .inr (.inr (.inr (.inr (va_cpy fa (fun _ => none) 0 0 ln))))))] ++ gr) [(cO, .object "java/lang/Object")] t) (va_A ([(aL, .inr (0, [.int md, .ref ea, .int (nI N)])), (ea, .inl (cO, ln, .inr (.inr (.inr (.inr fa)))))] ++ gr) sz)) 1 (ln + ln / 2) (va_A ([(aL, .inr (0, [.int md, .ref ea, .int (nI N)])), (ea, .inl (cO, ln, .inr (.inr (.inr (.inr fa)))))] ++ gr) sz) := by
  refine Met.ofW (cc := cd_A_grow) (maxL := 1) (ret := (some (.array (.object "java/lang/Object")))) (by decide) rfl ?_
  intro p e s m args below meth c s₁ B hml hv
  obtain ⟨rfl, hsz, hP, hK, hD0, hG⟩ := hv
  have hx := B.exec
  have hb := B.bytes
  have hr := B.returns
  have hts := fun (w : Cond) (h : w ∈ bigT) => atoms_spec (ws := (wB my_A_grow cd_A_grow 1 (some (.array (.object "java/lang/Object"))))) B.pre w (List.mem_cons_of_mem _ h)
  have hown : s.vm.findClass rn_A = some m.cls := findClass_of_methodNamed B.named
  have hlocks := B.notSynchronized
  subst hsz
  have hD := hD0.self (sz := s.heap.size)
  generalize hAe : va_A ([(aL, .inr (0, [.int md, .ref ea, .int (nI N)])), (ea, .inl (cO, ln, .inr (.inr (.inr (.inr fa)))))] ++ gr) s.heap.size = A at hD hG ⊢
  have hA : ∀ q : Nat, s.heap.size ≤ q → A q := fun q h => by rw [← hAe]; exact Or.inr h
  have hS : va_S A s.heap s.heap [] := va_S.rf
  have hP : va_P (dC, dI) vwCl ([(aL, .inr (0, [.int md, .ref ea, .int (nI N)])), (ea, .inl (cO, ln, .inr (.inr (.inr (.inr fa)))))] ++ gr) s.heap := hP
  have hl := lv_entry ([.ref aL]) (n := 1) (Nat.le_of_ble_eq_true rfl)
  rw [lg_entry_eq]
  generalize (lg_sl ([.ref aL]) ++ List.replicate (1 - (lg_sl ([.ref aL])).length) Slot.unset).toArray = ls at hl ⊢
  have hl : lv_has ls 1 [(0, .ref aL)] := hl
  refine lv_aload_n hx hb dc_A_grow_0 rfl (lv_at hl 0 rfl) ?_
  refine lv_aload_n hx hb dc_A_grow_1 rfl (lv_at hl 0 rfl) ?_
  refine va_get (D := (dC, dI)) (ci := 0) (v := .int (nI N)) (C := rn_A) (T := ft_A) (N := 3) hx hb hts fw_A hown hK hP 0 rfl rfl 2 (by decide) (hts _ bw1_71) (fun _ h9 => h9) rfl dc_A_grow_2 ?_
  refine lv_iconst (v := 1) hx hb dc_A_grow_5 (by decide) ?_
  refine lv_iadd hx hb dc_A_grow_6 ?_
  refine W.eq (g2 := F0 m 7 ls [.int (nI (N + 1)), .ref aL]) (by rw [show ((nI N) + 1) = (nI (N + 1)) by exact nI_1 _]) ?_
  refine kc_rP (X := [(aL, .inr (0, [.int md, .ref ea, .int (nI N)])), (ea, .inl (cO, ln, .inr (.inr (.inr (.inr fa)))))]) (cx := [(aL, .inr (0, [.int md, .ref ea, .int (nI N)])), (ea, .inl (cO, ln, .inr (.inr (.inr (.inr fa)))))]) (wr := []) (pl := gr) hP hD hS hA [0, 1] [] rfl rfl (by decide) (by decide) (va_runV (As := [.int (nI (N + 1))]) (rest := []) ⟨hx, hb, hml, hown, hts⟩ (c_A_grow1 l dC dI _ aL md ea N cO ln fa gr (N + 1) (by omega) (by omega) (by omega) (hel)) (kw_V 1 hts bw2_190 bw2_192 bws_3 bw1_6 bw2_193 rfl rfl (by decide +kernel) ⟨Nat.le_of_ble_eq_true rfl, Nat.le_of_ble_eq_true rfl⟩) (kp_VP (cx := [(aL, .inr (0, [.int md, .ref ea, .int (nI N)])), (ea, .inl (cO, ln, .inr (.inr (.inr (.inr fa)))))]) (pl := gr) (tc := [(cO, .object "java/lang/Object")]) (As := [.int (nI (N + 1))]) hG hS hA hP hD hK [0, 1] (by decide) rfl [0] rfl (ci := 0) (q0 := 0) rfl rfl) rfl rfl hl.1 rfl (lv_room (Nat.le_of_ble_eq_true rfl)) dc_A_grow_7 ⟨by show _ ≤ 1; omega, by show _ ≤ ln + ln / 2; omega⟩) (fun q1_1 H locs hw hP hD hK1 hS => ?_)
  have hP : va_P (dC, dI) vwCl ([(aL, .inr (0, [.int md, .ref q1_1, .int (nI N)])), (q1_1, .inl (cO, ln + ln / 2, .inr (.inr (.inr (.inr (va_cpy fa (fun _ => none) 0 0 ln))))))] ++ gr) H := hP
  have hD : va_D A ([(aL, .inr (0, [.int md, .ref q1_1, .int (nI N)])), (q1_1, .inl (cO, ln + ln / 2, .inr (.inr (.inr (.inr (va_cpy fa (fun _ => none) 0 0 ln))))))] ++ gr) := hD
  refine W.eq (g2 := F0 m 10 ls [.ref q1_1]) rfl ?_
  have hP9 : va_P (dC, dI) vwCl ([(aL, .inr (0, [.int md, .ref q1_1, .int (nI N)])), (q1_1, .inl (cO, ln + ln / 2, .inr (.inr (.inr (.inr (va_cpy fa (fun _ => none) 0 0 ln))))))] ++ gr) H := hP.part (cx := [(aL, .inr (0, [.int md, .ref q1_1, .int (nI N)])), (q1_1, .inl (cO, ln + ln / 2, .inr (.inr (.inr (.inr (va_cpy fa (fun _ => none) 0 0 ln))))))]) (pl := gr) [0, 1] rfl
  have hD9 : va_D A ([(aL, .inr (0, [.int md, .ref q1_1, .int (nI N)])), (q1_1, .inl (cO, ln + ln / 2, .inr (.inr (.inr (.inr (va_cpy fa (fun _ => none) 0 0 ln))))))] ++ gr) := hD.part (cx := [(aL, .inr (0, [.int md, .ref q1_1, .int (nI N)])), (q1_1, .inl (cO, ln + ln / 2, .inr (.inr (.inr (.inr (va_cpy fa (fun _ => none) 0 0 ln))))))]) (pl := gr) [0, 1] (by decide) rfl
  have hK9 := hK.sub (tys' := [(cO, .object "java/lang/Object")]) [0] rfl
  refine W.widen (k := 1) (n := ln + ln / 2) (by omega) (by omega) ?_
  exact W.aret (v := .ref q1_1) hx hb hr (Or.inr ⟨_, rfl⟩) (Or.inr ⟨_, rfl⟩) (fun t ht hW => ⟨⟨q1_1, q1_1, rfl, trivial, rfl, by rw [ht]; exact hP9, va_K.moved hW.alike hK9, hD9⟩, hS.F ht⟩) hS.2.2 dc_A_grow_10

set_option maxHeartbeats 1000000 in
set_option maxRecDepth 100000 in
theorem c_A_growf (l : Launch) (dC : Nat → ClassId) (dI : Nat → Nat → Nat) (sz : Nat) (eE : Nat) (aL : Nat) (md : Int32) (N : Nat) (cO : ClassId) (hN : N = 0) : Met l my_A_grow (wB my_A_grow cd_A_grow 1 (some (.array (.object "java/lang/Object")))) ({ frames := 2, cells := 1, slots := 10, locals := 37 }) (va_Pc [.ref aL] (PcE (dC, dI) eE [(aL, .inr (0, [.int md, .ref eE, .int (nI N)]))] [(cO, .object "java/lang/Object")] sz)) (va_Qr (fun (q1 : Nat) => True) (fun q1 => fun ra t => ra = q1 ∧ EnW (dC, dI) (va_A [(aL, .inr (0, [.int md, .ref eE, .int (nI N)]))] sz) [(aL, .inr (0, [.int md, .ref q1, .int (nI N)])), (q1, .inl (cO, 10, .inr (.inr (.inr (.inr (fun _ => none))))))] [(cO, .object "java/lang/Object")] t) (va_A [(aL, .inr (0, [.int md, .ref eE, .int (nI N)]))] sz)) 1 10 (va_A [(aL, .inr (0, [.int md, .ref eE, .int (nI N)]))] sz) := by
  refine Met.ofW (cc := cd_A_grow) (maxL := 1) (ret := (some (.array (.object "java/lang/Object")))) (by decide) rfl ?_
  intro p e s m args below meth c s₁ B hml hv
  obtain ⟨rfl, ⟨hsz, hP, hK, hD0, hG⟩, hE⟩ := hv
  have hx := B.exec
  have hb := B.bytes
  have hr := B.returns
  have hts := fun (w : Cond) (h : w ∈ bigT) => atoms_spec (ws := (wB my_A_grow cd_A_grow 1 (some (.array (.object "java/lang/Object"))))) B.pre w (List.mem_cons_of_mem _ h)
  have hown : s.vm.findClass rn_A = some m.cls := findClass_of_methodNamed B.named
  have hlocks := B.notSynchronized
  subst hsz
  have hD := hD0.self (sz := s.heap.size)
  generalize hAe : va_A [(aL, .inr (0, [.int md, .ref eE, .int (nI N)]))] s.heap.size = A at hD hG hE ⊢
  have gE1 := hE.1
  have gE2 := hE.2
  have hA : ∀ q : Nat, s.heap.size ≤ q → A q := fun q h => by rw [← hAe]; exact Or.inr h
  have hS : va_S A s.heap s.heap [] := va_S.rf
  have hP : va_P (dC, dI) vwCl [(aL, .inr (0, [.int md, .ref eE, .int (nI N)]))] s.heap := hP
  have hl := lv_entry ([.ref aL]) (n := 1) (Nat.le_of_ble_eq_true rfl)
  rw [lg_entry_eq]
  generalize (lg_sl ([.ref aL]) ++ List.replicate (1 - (lg_sl ([.ref aL])).length) Slot.unset).toArray = ls at hl ⊢
  have hl : lv_has ls 1 [(0, .ref aL)] := hl
  refine lv_aload_n hx hb dc_A_grow_0 rfl (lv_at hl 0 rfl) ?_
  refine lv_aload_n hx hb dc_A_grow_1 rfl (lv_at hl 0 rfl) ?_
  refine va_get (D := (dC, dI)) (ci := 0) (v := .int (nI N)) (C := rn_A) (T := ft_A) (N := 3) hx hb hts fw_A hown hK hP 0 rfl rfl 2 (by decide) (hts _ bw1_71) (fun _ h9 => h9) rfl dc_A_grow_2 ?_
  refine lv_iconst (v := 1) hx hb dc_A_grow_5 (by decide) ?_
  refine lv_iadd hx hb dc_A_grow_6 ?_
  refine W.eq (g2 := F0 m 7 ls [.int (nI (N + 1)), .ref aL]) (by rw [show ((nI N) + 1) = (nI (N + 1)) by exact nI_1 _]) ?_
  refine kc_r (wc := [(aL, .inr (0, [.int md, .ref eE, .int (nI N)]))]) (wr := []) hP hD hS hA [0] [] rfl rfl (by decide) (by decide) (va_runV (As := [.int (nI (N + 1))]) (rest := []) ⟨hx, hb, hml, hown, hts⟩ (c_A_grow1f l dC dI _ eE aL md N cO (N + 1) (by omega)) (kw_V 1 hts bw2_190 bw2_192 bws_3 bw1_6 bw2_193 rfl rfl (by decide +kernel) ⟨Nat.le_of_ble_eq_true rfl, Nat.le_of_ble_eq_true rfl⟩) (kp_VE (wc := [(aL, .inr (0, [.int md, .ref eE, .int (nI N)]))]) (tc := [(cO, .object "java/lang/Object")]) (As := [.int (nI (N + 1))]) hE hG hS hA hP hD hK [0] rfl (by decide) rfl [0] rfl (ci := 0) (q0 := 0) rfl rfl) rfl rfl hl.1 rfl (lv_room (Nat.le_of_ble_eq_true rfl)) dc_A_grow_7 ⟨by show _ ≤ 1; omega, by show _ ≤ 10; omega⟩) (fun q1_1 H locs hw hP hD hK1 hS => ?_)
  have hP : va_P (dC, dI) vwCl [(aL, .inr (0, [.int md, .ref q1_1, .int (nI N)])), (q1_1, .inl (cO, 10, .inr (.inr (.inr (.inr (fun _ => none))))))] H := hP
  have hD : va_D A [(aL, .inr (0, [.int md, .ref q1_1, .int (nI N)])), (q1_1, .inl (cO, 10, .inr (.inr (.inr (.inr (fun _ => none))))))] := hD
  refine W.eq (g2 := F0 m 10 ls [.ref q1_1]) rfl ?_
  have hP9 := hP.sub (ws' := [(aL, .inr (0, [.int md, .ref q1_1, .int (nI N)])), (q1_1, .inl (cO, 10, .inr (.inr (.inr (.inr (fun _ => none))))))]) [0, 1] rfl
  have hD9 := hD.sub (ws' := [(aL, .inr (0, [.int md, .ref q1_1, .int (nI N)])), (q1_1, .inl (cO, 10, .inr (.inr (.inr (.inr (fun _ => none))))))]) [0, 1] (by decide) rfl
  have hK9 := hK.sub (tys' := [(cO, .object "java/lang/Object")]) [0] rfl
  refine W.widen (k := 1) (n := 10) (by omega) (by omega) ?_
  exact W.aret (v := .ref q1_1) hx hb hr (Or.inr ⟨_, rfl⟩) (Or.inr ⟨_, rfl⟩) (fun t ht hW => ⟨⟨q1_1, q1_1, rfl, trivial, rfl, by rw [ht]; exact hP9, va_K.moved hW.alike hK9, hD9⟩, hS.F ht⟩) hS.2.2 dc_A_grow_10

set_option maxHeartbeats 1000000 in
set_option maxRecDepth 100000 in
theorem c_A_add1_room (l : Launch) (dC : Nat → ClassId) (dI : Nat → Nat → Nat) (sz : Nat) (aL : Nat) (md : Int32) (ea : Nat) (N : Nat) (cO : ClassId) (ln : Nat) (fa : Nat → Option Nat) (aG : Nat) (gn : Nat) (gy : Int64) (kb : Int32) (gx : Int64) (vb : Int32) (la : Int32) (hN : N < ln) (hln : ln < 2 ^ 30) : Met l my_A_add1 (wB my_A_add1 cd_A_add1 4 none) ({ frames := 0, cells := 0, slots := 0, locals := 0 }) (va_Pc [.ref aL, .ref aG, .ref ea, .int (nI N)] (PcW (dC, dI) [(aL, .inr (0, [.int md, .ref ea, .int (nI N)])), (ea, .inl (cO, ln, .inr (.inr (.inr (.inr fa))))), (aG, .inr (2, [.int (nI gn), .long gy, .int kb, .long gx, .int vb, .int la]))] [(cO, .object "java/lang/Object")] sz)) (va_Qv (fun (_ : Unit) => True) (fun _ => EnW (dC, dI) (va_A [(aL, .inr (0, [.int md, .ref ea, .int (nI N)])), (ea, .inl (cO, ln, .inr (.inr (.inr (.inr fa))))), (aG, .inr (2, [.int (nI gn), .long gy, .int kb, .long gx, .int vb, .int la]))] sz) [(aL, .inr (0, [.int md, .ref ea, .int (nI (N + 1))])), (ea, .inl (cO, ln, .inr (.inr (.inr (.inr (va_up (fa) N (some aG))))))), (aG, .inr (2, [.int (nI gn), .long gy, .int kb, .long gx, .int vb, .int la]))] [(cO, .object "java/lang/Object")]) (va_A [(aL, .inr (0, [.int md, .ref ea, .int (nI N)])), (ea, .inl (cO, ln, .inr (.inr (.inr (.inr fa))))), (aG, .inr (2, [.int (nI gn), .long gy, .int kb, .long gx, .int vb, .int la]))] sz)) 0 0 (va_A [(aL, .inr (0, [.int md, .ref ea, .int (nI N)])), (ea, .inl (cO, ln, .inr (.inr (.inr (.inr fa))))), (aG, .inr (2, [.int (nI gn), .long gy, .int kb, .long gx, .int vb, .int la]))] sz) := by
  refine Met.ofW (cc := cd_A_add1) (maxL := 4) (ret := none) (by decide) rfl ?_
  intro p e s m args below meth c s₁ B hml hv
  obtain ⟨rfl, hsz, hP, hK, hD0, hG⟩ := hv
  have hx := B.exec
  have hb := B.bytes
  have hr := B.returns
  have hts := fun (w : Cond) (h : w ∈ bigT) => atoms_spec (ws := (wB my_A_add1 cd_A_add1 4 none)) B.pre w (List.mem_cons_of_mem _ h)
  have hown : s.vm.findClass rn_A = some m.cls := findClass_of_methodNamed B.named
  have hlocks := B.notSynchronized
  subst hsz
  have hD := hD0.self (sz := s.heap.size)
  generalize hAe : va_A [(aL, .inr (0, [.int md, .ref ea, .int (nI N)])), (ea, .inl (cO, ln, .inr (.inr (.inr (.inr fa))))), (aG, .inr (2, [.int (nI gn), .long gy, .int kb, .long gx, .int vb, .int la]))] s.heap.size = A at hD hG ⊢
  have hA : ∀ q : Nat, s.heap.size ≤ q → A q := fun q h => by rw [← hAe]; exact Or.inr h
  have hS : va_S A s.heap s.heap [] := va_S.rf
  have hP : va_P (dC, dI) vwCl [(aL, .inr (0, [.int md, .ref ea, .int (nI N)])), (ea, .inl (cO, ln, .inr (.inr (.inr (.inr fa))))), (aG, .inr (2, [.int (nI gn), .long gy, .int kb, .long gx, .int vb, .int la]))] s.heap := hP
  have hl := lv_entry ([.ref aL, .ref aG, .ref ea, .int (nI N)]) (n := 4) (Nat.le_of_ble_eq_true rfl)
  rw [lg_entry_eq]
  generalize (lg_sl ([.ref aL, .ref aG, .ref ea, .int (nI N)]) ++ List.replicate (4 - (lg_sl ([.ref aL, .ref aG, .ref ea, .int (nI N)])).length) Slot.unset).toArray = ls at hl ⊢
  have hl : lv_has ls 4 [(0, .ref aL), (1, .ref aG), (2, .ref ea), (3, .int (nI N))] := hl
  refine lv_iload_n hx hb dc_A_add1_0 rfl (lv_at hl 3 rfl) ?_
  refine lv_aload_n hx hb dc_A_add1_1 rfl (lv_at hl 2 rfl) ?_
  refine va_alen (v := nI ln) hx hb hK hP 1 0 rfl rfl rfl dc_A_add1_2 ?_
  refine lv_icmp_ne (tgt := 11) hx hb dc_A_add1_3 (by decide) (fun c_1 => ?_) (fun c_1 => ?_)
  · refine lv_aload_n hx hb dc_A_add1_11 rfl (lv_at hl 2 rfl) ?_
    refine lv_iload_n hx hb dc_A_add1_12 rfl (lv_at hl 3 rfl) ?_
    refine lv_aload_n hx hb dc_A_add1_13 rfl (lv_at hl 1 rfl) ?_
    refine va_astqO (E := "java/lang/Object") (r := _) hx hb hK hP hD hS 1 0 2 2 rfl rfl (hG.1 _ (by decide +kernel)) rfl rfl (vp_in_nI (by omega) (by omega)) dc_A_add1_14 (fun H locs hP hD hS => ?_)
    rw [show (nI N).toNatClampNeg = N from nI_clamp (by omega)] at hP hD
    have hP : va_P (dC, dI) vwCl [(aL, .inr (0, [.int md, .ref ea, .int (nI N)])), (ea, .inl (cO, ln, .inr (.inr (.inr (.inr (va_up fa N (some aG))))))), (aG, .inr (2, [.int (nI gn), .long gy, .int kb, .long gx, .int vb, .int la]))] H := hP
    have hD : va_D A [(aL, .inr (0, [.int md, .ref ea, .int (nI N)])), (ea, .inl (cO, ln, .inr (.inr (.inr (.inr (va_up fa N (some aG))))))), (aG, .inr (2, [.int (nI gn), .long gy, .int kb, .long gx, .int vb, .int la]))] := hD
    refine lv_aload_n hx hb dc_A_add1_15 rfl (lv_at hl 0 rfl) ?_
    refine lv_iload_n hx hb dc_A_add1_16 rfl (lv_at hl 3 rfl) ?_
    refine lv_iconst (v := 1) hx hb dc_A_add1_17 (by decide) ?_
    refine lv_iadd hx hb dc_A_add1_18 ?_
    refine W.eq (g2 := F0 m 19 ls [.int (nI (N + 1)), .ref aL]) (by rw [show ((nI N) + 1) = (nI (N + 1)) by exact nI_1 _]) ?_
    refine va_put (D := (dC, dI)) (ci := 0) (v := .int (nI (N + 1))) (ty := .int) (C := rn_A) (T := ft_A) (N := 3) hx hb hts fw_A fy_A fo_A fn_A hown hK hP hD hS 0 rfl rfl 2 (by decide) (hts _ bw1_71) (fun _ h9 => h9) rfl (by decide +kernel) rfl rfl (Nat.le_of_ble_eq_true rfl) dc_A_add1_19 (fun H locs hP hD hS => ?_)
    have hP : va_P (dC, dI) vwCl [(aL, .inr (0, [.int md, .ref ea, .int (nI (N + 1))])), (ea, .inl (cO, ln, .inr (.inr (.inr (.inr (va_up fa N (some aG))))))), (aG, .inr (2, [.int (nI gn), .long gy, .int kb, .long gx, .int vb, .int la]))] H := hP
    have hD : va_D A [(aL, .inr (0, [.int md, .ref ea, .int (nI (N + 1))])), (ea, .inl (cO, ln, .inr (.inr (.inr (.inr (va_up fa N (some aG))))))), (aG, .inr (2, [.int (nI gn), .long gy, .int kb, .long gx, .int vb, .int la]))] := hD
    have e_2 : (va_up fa N (some aG)) = (va_up (fa) N (some aG)) := by first | rfl | exact nI_1 _ | exact nI_add _ _ | exact (pk_sub (by omega)) | exact congrArg nI (by omega)
    have hP := wP_eq (ws' := [(aL, .inr (0, [.int md, .ref ea, .int (nI (N + 1))])), (ea, .inl (cO, ln, .inr (.inr (.inr (.inr (va_up (fa) N (some aG))))))), (aG, .inr (2, [.int (nI gn), .long gy, .int kb, .long gx, .int vb, .int la]))]) hP (cg1 (fun y0 => ([(aL, .inr (0, [.int md, .ref ea, .int (nI (N + 1))])), (ea, .inl (cO, ln, .inr (.inr (.inr (.inr y0))))), (aG, .inr (2, [.int (nI gn), .long gy, .int kb, .long gx, .int vb, .int la]))] : va_W)) e_2)
    have hD := wD_eq (ws' := [(aL, .inr (0, [.int md, .ref ea, .int (nI (N + 1))])), (ea, .inl (cO, ln, .inr (.inr (.inr (.inr (va_up (fa) N (some aG))))))), (aG, .inr (2, [.int (nI gn), .long gy, .int kb, .long gx, .int vb, .int la]))]) hD (cg1 (fun y0 => ([(aL, .inr (0, [.int md, .ref ea, .int (nI (N + 1))])), (ea, .inl (cO, ln, .inr (.inr (.inr (.inr y0))))), (aG, .inr (2, [.int (nI gn), .long gy, .int kb, .long gx, .int vb, .int la]))] : va_W)) e_2)
    have hP9 := hP.sub (ws' := [(aL, .inr (0, [.int md, .ref ea, .int (nI (N + 1))])), (ea, .inl (cO, ln, .inr (.inr (.inr (.inr (va_up (fa) N (some aG))))))), (aG, .inr (2, [.int (nI gn), .long gy, .int kb, .long gx, .int vb, .int la]))]) [0, 1, 2] rfl
    have hD9 := hD.sub (ws' := [(aL, .inr (0, [.int md, .ref ea, .int (nI (N + 1))])), (ea, .inl (cO, ln, .inr (.inr (.inr (.inr (va_up (fa) N (some aG))))))), (aG, .inr (2, [.int (nI gn), .long gy, .int kb, .long gx, .int vb, .int la]))]) [0, 1, 2] (by decide) rfl
    have hK9 := hK.sub (tys' := [(cO, .object "java/lang/Object")]) [0] rfl
    exact W.vret hx hb hr (fun t ht hW => ⟨⟨(), rfl, trivial, by rw [ht]; exact hP9, va_K.moved hW.alike hK9, hD9⟩, hS.F ht⟩) hS.2.2 dc_A_add1_22
  · exfalso; exact absurd ((nI_eq (by omega) (by omega)).mp c_1) (by omega)

set_option maxHeartbeats 1000000 in
set_option maxRecDepth 100000 in
theorem c_A_add1_first (l : Launch) (dC : Nat → ClassId) (dI : Nat → Nat → Nat) (sz : Nat) (eE : Nat) (aL : Nat) (md : Int32) (N : Nat) (cO : ClassId) (aG : Nat) (gn : Nat) (gy : Int64) (kb : Int32) (gx : Int64) (vb : Int32) (la : Int32) (hN : N = 0) : Met l my_A_add1 (wB my_A_add1 cd_A_add1 4 none) ({ frames := 3, cells := 1, slots := 10, locals := 57 }) (va_Pc [.ref aL, .ref aG, .ref eE, .int (nI N)] (PcE (dC, dI) eE [(aL, .inr (0, [.int md, .ref eE, .int (nI N)])), (aG, .inr (2, [.int (nI gn), .long gy, .int kb, .long gx, .int vb, .int la]))] [(cO, .object "java/lang/Object")] sz)) (va_Qv (fun (q1 : Nat) => True) (fun q1 => EnW (dC, dI) (va_A [(aL, .inr (0, [.int md, .ref eE, .int (nI N)])), (aG, .inr (2, [.int (nI gn), .long gy, .int kb, .long gx, .int vb, .int la]))] sz) [(aL, .inr (0, [.int md, .ref q1, .int (nI (N + 1))])), (q1, .inl (cO, 10, .inr (.inr (.inr (.inr (va_up (fun _ => none) N (some aG))))))), (aG, .inr (2, [.int (nI gn), .long gy, .int kb, .long gx, .int vb, .int la]))] [(cO, .object "java/lang/Object")]) (va_A [(aL, .inr (0, [.int md, .ref eE, .int (nI N)])), (aG, .inr (2, [.int (nI gn), .long gy, .int kb, .long gx, .int vb, .int la]))] sz)) 1 10 (va_A [(aL, .inr (0, [.int md, .ref eE, .int (nI N)])), (aG, .inr (2, [.int (nI gn), .long gy, .int kb, .long gx, .int vb, .int la]))] sz) := by
  refine Met.ofW (cc := cd_A_add1) (maxL := 4) (ret := none) (by decide) rfl ?_
  intro p e s m args below meth c s₁ B hml hv
  obtain ⟨rfl, ⟨hsz, hP, hK, hD0, hG⟩, hE⟩ := hv
  have hx := B.exec
  have hb := B.bytes
  have hr := B.returns
  have hts := fun (w : Cond) (h : w ∈ bigT) => atoms_spec (ws := (wB my_A_add1 cd_A_add1 4 none)) B.pre w (List.mem_cons_of_mem _ h)
  have hown : s.vm.findClass rn_A = some m.cls := findClass_of_methodNamed B.named
  have hlocks := B.notSynchronized
  subst hsz
  have hD := hD0.self (sz := s.heap.size)
  generalize hAe : va_A [(aL, .inr (0, [.int md, .ref eE, .int (nI N)])), (aG, .inr (2, [.int (nI gn), .long gy, .int kb, .long gx, .int vb, .int la]))] s.heap.size = A at hD hG hE ⊢
  have gE1 := hE.1
  have gE2 := hE.2
  have hA : ∀ q : Nat, s.heap.size ≤ q → A q := fun q h => by rw [← hAe]; exact Or.inr h
  have hS : va_S A s.heap s.heap [] := va_S.rf
  have hP : va_P (dC, dI) vwCl [(aL, .inr (0, [.int md, .ref eE, .int (nI N)])), (aG, .inr (2, [.int (nI gn), .long gy, .int kb, .long gx, .int vb, .int la]))] s.heap := hP
  have hl := lv_entry ([.ref aL, .ref aG, .ref eE, .int (nI N)]) (n := 4) (Nat.le_of_ble_eq_true rfl)
  rw [lg_entry_eq]
  generalize (lg_sl ([.ref aL, .ref aG, .ref eE, .int (nI N)]) ++ List.replicate (4 - (lg_sl ([.ref aL, .ref aG, .ref eE, .int (nI N)])).length) Slot.unset).toArray = ls at hl ⊢
  have hl : lv_has ls 4 [(0, .ref aL), (1, .ref aG), (2, .ref eE), (3, .int (nI N))] := hl
  refine lv_iload_n hx hb dc_A_add1_0 rfl (lv_at hl 3 rfl) ?_
  refine lv_aload_n hx hb dc_A_add1_1 rfl (lv_at hl 2 rfl) ?_
  refine va_tlen (v := 0) hx hb gE2 hS rfl dc_A_add1_2 ?_
  refine lv_icmp_ne (tgt := 11) hx hb dc_A_add1_3 (by decide) (fun c_1 => ?_) (fun c_1 => ?_)
  · exfalso; exact c_1 (by rw [hN]; decide)
  · refine lv_aload_n hx hb dc_A_add1_6 rfl (lv_at hl 0 rfl) ?_
    refine kc_r (wc := [(aL, .inr (0, [.int md, .ref eE, .int (nI N)]))]) (wr := [(aG, .inr (2, [.int (nI gn), .long gy, .int kb, .long gx, .int vb, .int la]))]) hP hD hS hA [0] [1] rfl rfl (by decide) (by decide) (va_runV (As := []) (rest := []) ⟨hx, hb, hml, hown, hts⟩ (c_A_growf l dC dI _ eE aL md N cO (by omega)) (kw_V 0 hts bw2_186 bw2_188 bws_2 bw1_6 bw2_189 rfl rfl (by decide +kernel) ⟨Nat.le_of_ble_eq_true rfl, Nat.le_of_ble_eq_true rfl⟩) (kp_VE (wc := [(aL, .inr (0, [.int md, .ref eE, .int (nI N)]))]) (tc := [(cO, .object "java/lang/Object")]) (As := []) hE hG hS hA hP hD hK [0] rfl (by decide) rfl [0] rfl (ci := 0) (q0 := 0) rfl rfl) rfl rfl hl.1 rfl (lv_room (Nat.le_of_ble_eq_true rfl)) dc_A_add1_7 ⟨by show _ ≤ 1; omega, by show _ ≤ 10; omega⟩) (fun q1_2 H locs hw hP hD hK1 hS => ?_)
    have hP : va_P (dC, dI) vwCl [(aG, .inr (2, [.int (nI gn), .long gy, .int kb, .long gx, .int vb, .int la])), (aL, .inr (0, [.int md, .ref q1_2, .int (nI N)])), (q1_2, .inl (cO, 10, .inr (.inr (.inr (.inr (fun _ => none))))))] H := hP
    have hD : va_D A [(aG, .inr (2, [.int (nI gn), .long gy, .int kb, .long gx, .int vb, .int la])), (aL, .inr (0, [.int md, .ref q1_2, .int (nI N)])), (q1_2, .inl (cO, 10, .inr (.inr (.inr (.inr (fun _ => none))))))] := hD
    refine W.eq (g2 := F0 m 10 ls [.ref q1_2]) rfl ?_
    refine lv_astore_n (lv' := [(2, .ref q1_2), (0, .ref aL), (1, .ref aG), (3, .int (nI N))]) hx hb dc_A_add1_10 rfl hl (by decide) rfl (fun ls hl => ?_)
    refine lv_aload_n hx hb dc_A_add1_11 rfl (lv_at hl 0 rfl) ?_
    refine lv_iload_n hx hb dc_A_add1_12 rfl (lv_at hl 3 rfl) ?_
    refine lv_aload_n hx hb dc_A_add1_13 rfl (lv_at hl 2 rfl) ?_
    refine va_astqO (E := "java/lang/Object") (r := _) hx hb hK hP hD hS 2 0 0 2 rfl rfl (hG.1 _ (by decide +kernel)) rfl rfl (vp_in_nI (by omega) (by omega)) dc_A_add1_14 (fun H locs hP hD hS => ?_)
    rw [show (nI N).toNatClampNeg = N from nI_clamp (by omega)] at hP hD
    have hP : va_P (dC, dI) vwCl [(aG, .inr (2, [.int (nI gn), .long gy, .int kb, .long gx, .int vb, .int la])), (aL, .inr (0, [.int md, .ref q1_2, .int (nI N)])), (q1_2, .inl (cO, 10, .inr (.inr (.inr (.inr (va_up (fun _ => none) N (some aG)))))))] H := hP
    have hD : va_D A [(aG, .inr (2, [.int (nI gn), .long gy, .int kb, .long gx, .int vb, .int la])), (aL, .inr (0, [.int md, .ref q1_2, .int (nI N)])), (q1_2, .inl (cO, 10, .inr (.inr (.inr (.inr (va_up (fun _ => none) N (some aG)))))))] := hD
    refine lv_aload_n hx hb dc_A_add1_15 rfl (lv_at hl 1 rfl) ?_
    refine lv_iload_n hx hb dc_A_add1_16 rfl (lv_at hl 3 rfl) ?_
    refine lv_iconst (v := 1) hx hb dc_A_add1_17 (by decide) ?_
    refine lv_iadd hx hb dc_A_add1_18 ?_
    refine W.eq (g2 := F0 m 19 ls [.int (nI (N + 1)), .ref aL]) (by rw [show ((nI N) + 1) = (nI (N + 1)) by exact nI_1 _]) ?_
    refine va_put (D := (dC, dI)) (ci := 0) (v := .int (nI (N + 1))) (ty := .int) (C := rn_A) (T := ft_A) (N := 3) hx hb hts fw_A fy_A fo_A fn_A hown hK hP hD hS 1 rfl rfl 2 (by decide) (hts _ bw1_71) (fun _ h9 => h9) rfl (by decide +kernel) rfl rfl (Nat.le_of_ble_eq_true rfl) dc_A_add1_19 (fun H locs hP hD hS => ?_)
    have hP : va_P (dC, dI) vwCl [(aG, .inr (2, [.int (nI gn), .long gy, .int kb, .long gx, .int vb, .int la])), (aL, .inr (0, [.int md, .ref q1_2, .int (nI (N + 1))])), (q1_2, .inl (cO, 10, .inr (.inr (.inr (.inr (va_up (fun _ => none) N (some aG)))))))] H := hP
    have hD : va_D A [(aG, .inr (2, [.int (nI gn), .long gy, .int kb, .long gx, .int vb, .int la])), (aL, .inr (0, [.int md, .ref q1_2, .int (nI (N + 1))])), (q1_2, .inl (cO, 10, .inr (.inr (.inr (.inr (va_up (fun _ => none) N (some aG)))))))] := hD
    have hP9 := hP.sub (ws' := [(aL, .inr (0, [.int md, .ref q1_2, .int (nI (N + 1))])), (q1_2, .inl (cO, 10, .inr (.inr (.inr (.inr (va_up (fun _ => none) N (some aG))))))), (aG, .inr (2, [.int (nI gn), .long gy, .int kb, .long gx, .int vb, .int la]))]) [1, 2, 0] rfl
    have hD9 := hD.sub (ws' := [(aL, .inr (0, [.int md, .ref q1_2, .int (nI (N + 1))])), (q1_2, .inl (cO, 10, .inr (.inr (.inr (.inr (va_up (fun _ => none) N (some aG))))))), (aG, .inr (2, [.int (nI gn), .long gy, .int kb, .long gx, .int vb, .int la]))]) [1, 2, 0] (by decide) rfl
    have hK9 := hK.sub (tys' := [(cO, .object "java/lang/Object")]) [0] rfl
    refine W.widen (k := 1) (n := 10) (by omega) (by omega) ?_
    exact W.vret hx hb hr (fun t ht hW => ⟨⟨q1_2, rfl, trivial, by rw [ht]; exact hP9, va_K.moved hW.alike hK9, hD9⟩, hS.F ht⟩) hS.2.2 dc_A_add1_22

set_option maxHeartbeats 1000000 in
set_option maxRecDepth 100000 in
theorem c_A_add1_full (l : Launch) (dC : Nat → ClassId) (dI : Nat → Nat → Nat) (sz : Nat) (aL : Nat) (md : Int32) (ea : Nat) (N : Nat) (cO : ClassId) (ln : Nat) (fa : Nat → Option Nat) (aG : Nat) (gn : Nat) (gy : Int64) (kb : Int32) (gx : Int64) (vb : Int32) (la : Int32) (gr : va_W) (hN : N = ln) (h10 : 10 ≤ ln) (hln : ln ≤ 40000) (hel : ∀ i, i < ln → ∀ y, fa i = some y → ∃ vs, (y, .inr (2, vs)) ∈ gr) : Met l my_A_add1 (wB my_A_add1 cd_A_add1 4 none) ({ frames := 5, cells := 1, slots := ln + ln / 2, locals := 116 }) (va_Pc [.ref aL, .ref aG, .ref ea, .int (nI N)] (PcW (dC, dI) ([(aL, .inr (0, [.int md, .ref ea, .int (nI N)])), (ea, .inl (cO, ln, .inr (.inr (.inr (.inr fa))))), (aG, .inr (2, [.int (nI gn), .long gy, .int kb, .long gx, .int vb, .int la]))] ++ gr) [(cO, .object "java/lang/Object")] sz)) (va_Qv (fun (q1 : Nat) => True) (fun q1 => EnW (dC, dI) (va_A ([(aL, .inr (0, [.int md, .ref ea, .int (nI N)])), (ea, .inl (cO, ln, .inr (.inr (.inr (.inr fa))))), (aG, .inr (2, [.int (nI gn), .long gy, .int kb, .long gx, .int vb, .int la]))] ++ gr) sz) ([(aL, .inr (0, [.int md, .ref q1, .int (nI (N + 1))])), (q1, .inl (cO, ln + ln / 2, .inr (.inr (.inr (.inr (va_up (va_cpy fa (fun _ => none) 0 0 ln) N (some aG))))))), (aG, .inr (2, [.int (nI gn), .long gy, .int kb, .long gx, .int vb, .int la]))] ++ gr) [(cO, .object "java/lang/Object")]) (va_A ([(aL, .inr (0, [.int md, .ref ea, .int (nI N)])), (ea, .inl (cO, ln, .inr (.inr (.inr (.inr fa))))), (aG, .inr (2, [.int (nI gn), .long gy, .int kb, .long gx, .int vb, .int la]))] ++ gr) sz)) 1 (ln + ln / 2) (va_A ([(aL, .inr (0, [.int md, .ref ea, .int (nI N)])), (ea, .inl (cO, ln, .inr (.inr (.inr (.inr fa))))), (aG, .inr (2, [.int (nI gn), .long gy, .int kb, .long gx, .int vb, .int la]))] ++ gr) sz) := by
  refine Met.ofW (cc := cd_A_add1) (maxL := 4) (ret := none) (by decide) rfl ?_
  intro p e s m args below meth c s₁ B hml hv
  obtain ⟨rfl, hsz, hP, hK, hD0, hG⟩ := hv
  have hx := B.exec
  have hb := B.bytes
  have hr := B.returns
  have hts := fun (w : Cond) (h : w ∈ bigT) => atoms_spec (ws := (wB my_A_add1 cd_A_add1 4 none)) B.pre w (List.mem_cons_of_mem _ h)
  have hown : s.vm.findClass rn_A = some m.cls := findClass_of_methodNamed B.named
  have hlocks := B.notSynchronized
  subst hsz
  have hD := hD0.self (sz := s.heap.size)
  generalize hAe : va_A ([(aL, .inr (0, [.int md, .ref ea, .int (nI N)])), (ea, .inl (cO, ln, .inr (.inr (.inr (.inr fa))))), (aG, .inr (2, [.int (nI gn), .long gy, .int kb, .long gx, .int vb, .int la]))] ++ gr) s.heap.size = A at hD hG ⊢
  have hA : ∀ q : Nat, s.heap.size ≤ q → A q := fun q h => by rw [← hAe]; exact Or.inr h
  have hS : va_S A s.heap s.heap [] := va_S.rf
  have hP : va_P (dC, dI) vwCl ([(aL, .inr (0, [.int md, .ref ea, .int (nI N)])), (ea, .inl (cO, ln, .inr (.inr (.inr (.inr fa))))), (aG, .inr (2, [.int (nI gn), .long gy, .int kb, .long gx, .int vb, .int la]))] ++ gr) s.heap := hP
  have hl := lv_entry ([.ref aL, .ref aG, .ref ea, .int (nI N)]) (n := 4) (Nat.le_of_ble_eq_true rfl)
  rw [lg_entry_eq]
  generalize (lg_sl ([.ref aL, .ref aG, .ref ea, .int (nI N)]) ++ List.replicate (4 - (lg_sl ([.ref aL, .ref aG, .ref ea, .int (nI N)])).length) Slot.unset).toArray = ls at hl ⊢
  have hl : lv_has ls 4 [(0, .ref aL), (1, .ref aG), (2, .ref ea), (3, .int (nI N))] := hl
  refine lv_iload_n hx hb dc_A_add1_0 rfl (lv_at hl 3 rfl) ?_
  refine lv_aload_n hx hb dc_A_add1_1 rfl (lv_at hl 2 rfl) ?_
  refine va_alen (v := nI ln) hx hb hK hP 1 0 rfl rfl rfl dc_A_add1_2 ?_
  refine lv_icmp_ne (tgt := 11) hx hb dc_A_add1_3 (by decide) (fun c_1 => ?_) (fun c_1 => ?_)
  · exfalso; exact c_1 (by rw [hN])
  · refine lv_aload_n hx hb dc_A_add1_6 rfl (lv_at hl 0 rfl) ?_
    refine kc_rP (X := [(aL, .inr (0, [.int md, .ref ea, .int (nI N)])), (ea, .inl (cO, ln, .inr (.inr (.inr (.inr fa))))), (aG, .inr (2, [.int (nI gn), .long gy, .int kb, .long gx, .int vb, .int la]))]) (cx := [(aL, .inr (0, [.int md, .ref ea, .int (nI N)])), (ea, .inl (cO, ln, .inr (.inr (.inr (.inr fa)))))]) (wr := [(aG, .inr (2, [.int (nI gn), .long gy, .int kb, .long gx, .int vb, .int la]))]) (pl := gr) hP hD hS hA [0, 1] [2] rfl rfl (by decide) (by decide) (va_runV (As := []) (rest := []) ⟨hx, hb, hml, hown, hts⟩ (c_A_grow l dC dI _ aL md ea N cO ln fa gr (by omega) (by omega) (by omega) (hel)) (kw_V 0 hts bw2_186 bw2_188 bws_2 bw1_6 bw2_189 rfl rfl (by decide +kernel) ⟨Nat.le_of_ble_eq_true rfl, Nat.le_of_ble_eq_true rfl⟩) (kp_VP (cx := [(aL, .inr (0, [.int md, .ref ea, .int (nI N)])), (ea, .inl (cO, ln, .inr (.inr (.inr (.inr fa)))))]) (pl := gr) (tc := [(cO, .object "java/lang/Object")]) (As := []) hG hS hA hP hD hK [0, 1] (by decide) rfl [0] rfl (ci := 0) (q0 := 0) rfl rfl) rfl rfl hl.1 rfl (lv_room (Nat.le_of_ble_eq_true rfl)) dc_A_add1_7 ⟨by show _ ≤ 1; omega, by show _ ≤ ln + ln / 2; omega⟩) (fun q1_2 H locs hw hP hD hK1 hS => ?_)
    have hP : va_P (dC, dI) vwCl ([(aG, .inr (2, [.int (nI gn), .long gy, .int kb, .long gx, .int vb, .int la])), (aL, .inr (0, [.int md, .ref q1_2, .int (nI N)])), (q1_2, .inl (cO, ln + ln / 2, .inr (.inr (.inr (.inr (va_cpy fa (fun _ => none) 0 0 ln))))))] ++ gr) H := hP
    have hD : va_D A ([(aG, .inr (2, [.int (nI gn), .long gy, .int kb, .long gx, .int vb, .int la])), (aL, .inr (0, [.int md, .ref q1_2, .int (nI N)])), (q1_2, .inl (cO, ln + ln / 2, .inr (.inr (.inr (.inr (va_cpy fa (fun _ => none) 0 0 ln))))))] ++ gr) := hD
    refine W.eq (g2 := F0 m 10 ls [.ref q1_2]) rfl ?_
    refine lv_astore_n (lv' := [(2, .ref q1_2), (0, .ref aL), (1, .ref aG), (3, .int (nI N))]) hx hb dc_A_add1_10 rfl hl (by decide) rfl (fun ls hl => ?_)
    refine lv_aload_n hx hb dc_A_add1_11 rfl (lv_at hl 0 rfl) ?_
    refine lv_iload_n hx hb dc_A_add1_12 rfl (lv_at hl 3 rfl) ?_
    refine lv_aload_n hx hb dc_A_add1_13 rfl (lv_at hl 2 rfl) ?_
    refine va_astqO (E := "java/lang/Object") (r := _) hx hb hK hP hD hS 2 0 0 2 rfl rfl (hG.1 _ (by decide +kernel)) rfl rfl (vp_in_nI (by omega) (by omega)) dc_A_add1_14 (fun H locs hP hD hS => ?_)
    rw [show (nI N).toNatClampNeg = N from nI_clamp (by omega)] at hP hD
    have hP : va_P (dC, dI) vwCl ([(aG, .inr (2, [.int (nI gn), .long gy, .int kb, .long gx, .int vb, .int la])), (aL, .inr (0, [.int md, .ref q1_2, .int (nI N)])), (q1_2, .inl (cO, ln + ln / 2, .inr (.inr (.inr (.inr (va_up (va_cpy fa (fun _ => none) 0 0 ln) N (some aG)))))))] ++ gr) H := hP
    have hD : va_D A ([(aG, .inr (2, [.int (nI gn), .long gy, .int kb, .long gx, .int vb, .int la])), (aL, .inr (0, [.int md, .ref q1_2, .int (nI N)])), (q1_2, .inl (cO, ln + ln / 2, .inr (.inr (.inr (.inr (va_up (va_cpy fa (fun _ => none) 0 0 ln) N (some aG)))))))] ++ gr) := hD
    refine lv_aload_n hx hb dc_A_add1_15 rfl (lv_at hl 1 rfl) ?_
    refine lv_iload_n hx hb dc_A_add1_16 rfl (lv_at hl 3 rfl) ?_
    refine lv_iconst (v := 1) hx hb dc_A_add1_17 (by decide) ?_
    refine lv_iadd hx hb dc_A_add1_18 ?_
    refine W.eq (g2 := F0 m 19 ls [.int (nI (N + 1)), .ref aL]) (by rw [show ((nI N) + 1) = (nI (N + 1)) by exact nI_1 _]) ?_
    refine va_put (D := (dC, dI)) (ci := 0) (v := .int (nI (N + 1))) (ty := .int) (C := rn_A) (T := ft_A) (N := 3) hx hb hts fw_A fy_A fo_A fn_A hown hK hP hD hS 1 rfl rfl 2 (by decide) (hts _ bw1_71) (fun _ h9 => h9) rfl (by decide +kernel) rfl rfl (Nat.le_of_ble_eq_true rfl) dc_A_add1_19 (fun H locs hP hD hS => ?_)
    have hP : va_P (dC, dI) vwCl ([(aG, .inr (2, [.int (nI gn), .long gy, .int kb, .long gx, .int vb, .int la])), (aL, .inr (0, [.int md, .ref q1_2, .int (nI (N + 1))])), (q1_2, .inl (cO, ln + ln / 2, .inr (.inr (.inr (.inr (va_up (va_cpy fa (fun _ => none) 0 0 ln) N (some aG)))))))] ++ gr) H := hP
    have hD : va_D A ([(aG, .inr (2, [.int (nI gn), .long gy, .int kb, .long gx, .int vb, .int la])), (aL, .inr (0, [.int md, .ref q1_2, .int (nI (N + 1))])), (q1_2, .inl (cO, ln + ln / 2, .inr (.inr (.inr (.inr (va_up (va_cpy fa (fun _ => none) 0 0 ln) N (some aG)))))))] ++ gr) := hD
    have hP9 : va_P (dC, dI) vwCl ([(aL, .inr (0, [.int md, .ref q1_2, .int (nI (N + 1))])), (q1_2, .inl (cO, ln + ln / 2, .inr (.inr (.inr (.inr (va_up (va_cpy fa (fun _ => none) 0 0 ln) N (some aG))))))), (aG, .inr (2, [.int (nI gn), .long gy, .int kb, .long gx, .int vb, .int la]))] ++ gr) H := hP.part (cx := [(aL, .inr (0, [.int md, .ref q1_2, .int (nI (N + 1))])), (q1_2, .inl (cO, ln + ln / 2, .inr (.inr (.inr (.inr (va_up (va_cpy fa (fun _ => none) 0 0 ln) N (some aG))))))), (aG, .inr (2, [.int (nI gn), .long gy, .int kb, .long gx, .int vb, .int la]))]) (pl := gr) [1, 2, 0] rfl
    have hD9 : va_D A ([(aL, .inr (0, [.int md, .ref q1_2, .int (nI (N + 1))])), (q1_2, .inl (cO, ln + ln / 2, .inr (.inr (.inr (.inr (va_up (va_cpy fa (fun _ => none) 0 0 ln) N (some aG))))))), (aG, .inr (2, [.int (nI gn), .long gy, .int kb, .long gx, .int vb, .int la]))] ++ gr) := hD.part (cx := [(aL, .inr (0, [.int md, .ref q1_2, .int (nI (N + 1))])), (q1_2, .inl (cO, ln + ln / 2, .inr (.inr (.inr (.inr (va_up (va_cpy fa (fun _ => none) 0 0 ln) N (some aG))))))), (aG, .inr (2, [.int (nI gn), .long gy, .int kb, .long gx, .int vb, .int la]))]) (pl := gr) [1, 2, 0] (by decide) rfl
    have hK9 := hK.sub (tys' := [(cO, .object "java/lang/Object")]) [0] rfl
    refine W.widen (k := 1) (n := ln + ln / 2) (by omega) (by omega) ?_
    exact W.vret hx hb hr (fun t ht hW => ⟨⟨q1_2, rfl, trivial, by rw [ht]; exact hP9, va_K.moved hW.alike hK9, hD9⟩, hS.F ht⟩) hS.2.2 dc_A_add1_22

set_option maxHeartbeats 1000000 in
set_option maxRecDepth 100000 in
theorem c_A_add_room (l : Launch) (dC : Nat → ClassId) (dI : Nat → Nat → Nat) (sz : Nat) (aL : Nat) (md : Int32) (ea : Nat) (N : Nat) (cO : ClassId) (ln : Nat) (fa : Nat → Option Nat) (aG : Nat) (gn : Nat) (gy : Int64) (kb : Int32) (gx : Int64) (vb : Int32) (la : Int32) (hN : N < ln) (hln : ln < 2 ^ 30) : Met l my_A_add (wB my_A_add cd_A_add 2 (some .boolean)) ({ frames := 1, cells := 0, slots := 0, locals := 23 }) (va_Pc [.ref aL, .ref aG] (PcW (dC, dI) [(aL, .inr (0, [.int md, .ref ea, .int (nI N)])), (ea, .inl (cO, ln, .inr (.inr (.inr (.inr fa))))), (aG, .inr (2, [.int (nI gn), .long gy, .int kb, .long gx, .int vb, .int la]))] [(cO, .object "java/lang/Object")] sz)) (va_Qi (fun (r : Int32) => fun (_ : Unit) => r = 1) (fun _ => EnW (dC, dI) (va_A [(aL, .inr (0, [.int md, .ref ea, .int (nI N)])), (ea, .inl (cO, ln, .inr (.inr (.inr (.inr fa))))), (aG, .inr (2, [.int (nI gn), .long gy, .int kb, .long gx, .int vb, .int la]))] sz) [(aL, .inr (0, [.int (md + 1), .ref ea, .int (nI (N + 1))])), (ea, .inl (cO, ln, .inr (.inr (.inr (.inr (va_up (fa) N (some aG))))))), (aG, .inr (2, [.int (nI gn), .long gy, .int kb, .long gx, .int vb, .int la]))] [(cO, .object "java/lang/Object")]) (va_A [(aL, .inr (0, [.int md, .ref ea, .int (nI N)])), (ea, .inl (cO, ln, .inr (.inr (.inr (.inr fa))))), (aG, .inr (2, [.int (nI gn), .long gy, .int kb, .long gx, .int vb, .int la]))] sz)) 0 0 (va_A [(aL, .inr (0, [.int md, .ref ea, .int (nI N)])), (ea, .inl (cO, ln, .inr (.inr (.inr (.inr fa))))), (aG, .inr (2, [.int (nI gn), .long gy, .int kb, .long gx, .int vb, .int la]))] sz) := by
  refine Met.ofW (cc := cd_A_add) (maxL := 2) (ret := (some .boolean)) (by decide) rfl ?_
  intro p e s m args below meth c s₁ B hml hv
  obtain ⟨rfl, hsz, hP, hK, hD0, hG⟩ := hv
  have hx := B.exec
  have hb := B.bytes
  have hr := B.returns
  have hts := fun (w : Cond) (h : w ∈ bigT) => atoms_spec (ws := (wB my_A_add cd_A_add 2 (some .boolean))) B.pre w (List.mem_cons_of_mem _ h)
  have hown : s.vm.findClass rn_A = some m.cls := findClass_of_methodNamed B.named
  have hlocks := B.notSynchronized
  subst hsz
  have hD := hD0.self (sz := s.heap.size)
  generalize hAe : va_A [(aL, .inr (0, [.int md, .ref ea, .int (nI N)])), (ea, .inl (cO, ln, .inr (.inr (.inr (.inr fa))))), (aG, .inr (2, [.int (nI gn), .long gy, .int kb, .long gx, .int vb, .int la]))] s.heap.size = A at hD hG ⊢
  have hA : ∀ q : Nat, s.heap.size ≤ q → A q := fun q h => by rw [← hAe]; exact Or.inr h
  have hS : va_S A s.heap s.heap [] := va_S.rf
  have hP : va_P (dC, dI) vwCl [(aL, .inr (0, [.int md, .ref ea, .int (nI N)])), (ea, .inl (cO, ln, .inr (.inr (.inr (.inr fa))))), (aG, .inr (2, [.int (nI gn), .long gy, .int kb, .long gx, .int vb, .int la]))] s.heap := hP
  have hl := lv_entry ([.ref aL, .ref aG]) (n := 2) (Nat.le_of_ble_eq_true rfl)
  rw [lg_entry_eq]
  generalize (lg_sl ([.ref aL, .ref aG]) ++ List.replicate (2 - (lg_sl ([.ref aL, .ref aG])).length) Slot.unset).toArray = ls at hl ⊢
  have hl : lv_has ls 2 [(0, .ref aL), (1, .ref aG)] := hl
  refine lv_aload_n hx hb dc_A_add_0 rfl (lv_at hl 0 rfl) ?_
  refine lv_dup hx hb dc_A_add_1 rfl ?_
  refine va_get (D := (dC, dI)) (ci := 0) (v := .int md) (C := rn_A) (T := ft_A) (N := 3) hx hb hts fw_A hown hK hP 0 rfl rfl 0 (by decide) (hts _ bw1_73) (u_same (hts _ bw1_74)) rfl dc_A_add_2 ?_
  refine lv_iconst (v := 1) hx hb dc_A_add_5 (by decide) ?_
  refine lv_iadd hx hb dc_A_add_6 ?_
  refine va_put (D := (dC, dI)) (ci := 0) (v := .int (md + 1)) (ty := .int) (C := rn_A) (T := ft_A) (N := 3) hx hb hts fw_A fy_A fo_A fn_A hown hK hP hD hS 0 rfl rfl 0 (by decide) (hts _ bw1_73) (u_same (hts _ bw1_74)) rfl (by decide +kernel) rfl rfl (Nat.le_of_ble_eq_true rfl) dc_A_add_7 (fun H locs hP hD hS => ?_)
  have hP : va_P (dC, dI) vwCl [(aL, .inr (0, [.int (md + 1), .ref ea, .int (nI N)])), (ea, .inl (cO, ln, .inr (.inr (.inr (.inr fa))))), (aG, .inr (2, [.int (nI gn), .long gy, .int kb, .long gx, .int vb, .int la]))] H := hP
  have hD : va_D A [(aL, .inr (0, [.int (md + 1), .ref ea, .int (nI N)])), (ea, .inl (cO, ln, .inr (.inr (.inr (.inr fa))))), (aG, .inr (2, [.int (nI gn), .long gy, .int kb, .long gx, .int vb, .int la]))] := hD
  refine lv_aload_n hx hb dc_A_add_10 rfl (lv_at hl 0 rfl) ?_
  refine lv_aload_n hx hb dc_A_add_11 rfl (lv_at hl 1 rfl) ?_
  refine lv_aload_n hx hb dc_A_add_12 rfl (lv_at hl 0 rfl) ?_
  refine va_get (D := (dC, dI)) (ci := 0) (v := .ref ea) (C := rn_A) (T := ft_A) (N := 3) hx hb hts fw_A hown hK hP 0 rfl rfl 1 (by decide) (hts _ bw1_70) (fun _ h9 => h9) rfl dc_A_add_13 ?_
  refine lv_aload_n hx hb dc_A_add_16 rfl (lv_at hl 0 rfl) ?_
  refine va_get (D := (dC, dI)) (ci := 0) (v := .int (nI N)) (C := rn_A) (T := ft_A) (N := 3) hx hb hts fw_A hown hK hP 0 rfl rfl 2 (by decide) (hts _ bw1_71) (fun _ h9 => h9) rfl dc_A_add_17 ?_
  refine kc_v (wc := [(aL, .inr (0, [.int (md + 1), .ref ea, .int (nI N)])), (ea, .inl (cO, ln, .inr (.inr (.inr (.inr fa))))), (aG, .inr (2, [.int (nI gn), .long gy, .int kb, .long gx, .int vb, .int la]))]) (wr := []) hP hD hS hA [0, 1, 2] [] rfl rfl (by decide) (by decide) (va_runV (As := [.ref aG, .ref ea, .int (nI N)]) (rest := []) ⟨hx, hb, hml, hown, hts⟩ (c_A_add1_room l dC dI _ aL (md + 1) ea N cO ln fa aG gn gy kb gx vb la (by omega) (by omega)) (kw_V 3 hts bw2_182 bw2_184 bws_1 bw1_6 bw2_185 rfl rfl (by decide +kernel) ⟨Nat.le_of_ble_eq_true rfl, Nat.le_of_ble_eq_true rfl⟩) (kp_V (wc := [(aL, .inr (0, [.int (md + 1), .ref ea, .int (nI N)])), (ea, .inl (cO, ln, .inr (.inr (.inr (.inr fa))))), (aG, .inr (2, [.int (nI gn), .long gy, .int kb, .long gx, .int vb, .int la]))]) (tc := [(cO, .object "java/lang/Object")]) (As := [.ref aG, .ref ea, .int (nI N)]) hG hS hA hP hD hK [0, 1, 2] rfl (by decide) rfl [0] rfl (ci := 0) (q0 := 0) rfl rfl) rfl rfl hl.1 rfl (lv_room (Nat.le_of_ble_eq_true rfl)) dc_A_add_20 ⟨Nat.zero_le _, Nat.zero_le _⟩) (fun _ H locs hw hP hD hK1 hS => ?_)
  have hP : va_P (dC, dI) vwCl [(aL, .inr (0, [.int (md + 1), .ref ea, .int (nI (N + 1))])), (ea, .inl (cO, ln, .inr (.inr (.inr (.inr (va_up (fa) N (some aG))))))), (aG, .inr (2, [.int (nI gn), .long gy, .int kb, .long gx, .int vb, .int la]))] H := hP
  have hD : va_D A [(aL, .inr (0, [.int (md + 1), .ref ea, .int (nI (N + 1))])), (ea, .inl (cO, ln, .inr (.inr (.inr (.inr (va_up (fa) N (some aG))))))), (aG, .inr (2, [.int (nI gn), .long gy, .int kb, .long gx, .int vb, .int la]))] := hD
  refine lv_iconst (v := 1) hx hb dc_A_add_23 (by decide) ?_
  have hP9 := hP.sub (ws' := [(aL, .inr (0, [.int (md + 1), .ref ea, .int (nI (N + 1))])), (ea, .inl (cO, ln, .inr (.inr (.inr (.inr (va_up (fa) N (some aG))))))), (aG, .inr (2, [.int (nI gn), .long gy, .int kb, .long gx, .int vb, .int la]))]) [0, 1, 2] rfl
  have hD9 := hD.sub (ws' := [(aL, .inr (0, [.int (md + 1), .ref ea, .int (nI (N + 1))])), (ea, .inl (cO, ln, .inr (.inr (.inr (.inr (va_up (fa) N (some aG))))))), (aG, .inr (2, [.int (nI gn), .long gy, .int kb, .long gx, .int vb, .int la]))]) [0, 1, 2] (by decide) rfl
  have hK9 := hK.sub (tys' := [(cO, .object "java/lang/Object")]) [0] rfl
  exact W.zret (v := 1) hx hb hr (rfl) (fun t ht hW => ⟨⟨1, (), rfl, rfl, by rw [ht]; exact hP9, va_K.moved hW.alike hK9, hD9⟩, hS.F ht⟩) hS.2.2 dc_A_add_24

set_option maxHeartbeats 1000000 in
set_option maxRecDepth 100000 in
theorem c_A_add_first (l : Launch) (dC : Nat → ClassId) (dI : Nat → Nat → Nat) (sz : Nat) (eE : Nat) (aL : Nat) (md : Int32) (N : Nat) (cO : ClassId) (aG : Nat) (gn : Nat) (gy : Int64) (kb : Int32) (gx : Int64) (vb : Int32) (la : Int32) (hN : N = 0) : Met l my_A_add (wB my_A_add cd_A_add 2 (some .boolean)) ({ frames := 4, cells := 1, slots := 10, locals := 80 }) (va_Pc [.ref aL, .ref aG] (PcE (dC, dI) eE [(aL, .inr (0, [.int md, .ref eE, .int (nI N)])), (aG, .inr (2, [.int (nI gn), .long gy, .int kb, .long gx, .int vb, .int la]))] [(cO, .object "java/lang/Object")] sz)) (va_Qi (fun (r : Int32) (q1 : Nat) => r = 1) (fun q1 => EnW (dC, dI) (va_A [(aL, .inr (0, [.int md, .ref eE, .int (nI N)])), (aG, .inr (2, [.int (nI gn), .long gy, .int kb, .long gx, .int vb, .int la]))] sz) [(aL, .inr (0, [.int (md + 1), .ref q1, .int (nI (N + 1))])), (q1, .inl (cO, 10, .inr (.inr (.inr (.inr (va_up (fun _ => none) N (some aG))))))), (aG, .inr (2, [.int (nI gn), .long gy, .int kb, .long gx, .int vb, .int la]))] [(cO, .object "java/lang/Object")]) (va_A [(aL, .inr (0, [.int md, .ref eE, .int (nI N)])), (aG, .inr (2, [.int (nI gn), .long gy, .int kb, .long gx, .int vb, .int la]))] sz)) 1 10 (va_A [(aL, .inr (0, [.int md, .ref eE, .int (nI N)])), (aG, .inr (2, [.int (nI gn), .long gy, .int kb, .long gx, .int vb, .int la]))] sz) := by
  refine Met.ofW (cc := cd_A_add) (maxL := 2) (ret := (some .boolean)) (by decide) rfl ?_
  intro p e s m args below meth c s₁ B hml hv
  obtain ⟨rfl, ⟨hsz, hP, hK, hD0, hG⟩, hE⟩ := hv
  have hx := B.exec
  have hb := B.bytes
  have hr := B.returns
  have hts := fun (w : Cond) (h : w ∈ bigT) => atoms_spec (ws := (wB my_A_add cd_A_add 2 (some .boolean))) B.pre w (List.mem_cons_of_mem _ h)
  have hown : s.vm.findClass rn_A = some m.cls := findClass_of_methodNamed B.named
  have hlocks := B.notSynchronized
  subst hsz
  have hD := hD0.self (sz := s.heap.size)
  generalize hAe : va_A [(aL, .inr (0, [.int md, .ref eE, .int (nI N)])), (aG, .inr (2, [.int (nI gn), .long gy, .int kb, .long gx, .int vb, .int la]))] s.heap.size = A at hD hG hE ⊢
  have gE1 := hE.1
  have gE2 := hE.2
  have hA : ∀ q : Nat, s.heap.size ≤ q → A q := fun q h => by rw [← hAe]; exact Or.inr h
  have hS : va_S A s.heap s.heap [] := va_S.rf
  have hP : va_P (dC, dI) vwCl [(aL, .inr (0, [.int md, .ref eE, .int (nI N)])), (aG, .inr (2, [.int (nI gn), .long gy, .int kb, .long gx, .int vb, .int la]))] s.heap := hP
  have hl := lv_entry ([.ref aL, .ref aG]) (n := 2) (Nat.le_of_ble_eq_true rfl)
  rw [lg_entry_eq]
  generalize (lg_sl ([.ref aL, .ref aG]) ++ List.replicate (2 - (lg_sl ([.ref aL, .ref aG])).length) Slot.unset).toArray = ls at hl ⊢
  have hl : lv_has ls 2 [(0, .ref aL), (1, .ref aG)] := hl
  refine lv_aload_n hx hb dc_A_add_0 rfl (lv_at hl 0 rfl) ?_
  refine lv_dup hx hb dc_A_add_1 rfl ?_
  refine va_get (D := (dC, dI)) (ci := 0) (v := .int md) (C := rn_A) (T := ft_A) (N := 3) hx hb hts fw_A hown hK hP 0 rfl rfl 0 (by decide) (hts _ bw1_73) (u_same (hts _ bw1_74)) rfl dc_A_add_2 ?_
  refine lv_iconst (v := 1) hx hb dc_A_add_5 (by decide) ?_
  refine lv_iadd hx hb dc_A_add_6 ?_
  refine va_put (D := (dC, dI)) (ci := 0) (v := .int (md + 1)) (ty := .int) (C := rn_A) (T := ft_A) (N := 3) hx hb hts fw_A fy_A fo_A fn_A hown hK hP hD hS 0 rfl rfl 0 (by decide) (hts _ bw1_73) (u_same (hts _ bw1_74)) rfl (by decide +kernel) rfl rfl (Nat.le_of_ble_eq_true rfl) dc_A_add_7 (fun H locs hP hD hS => ?_)
  have hP : va_P (dC, dI) vwCl [(aL, .inr (0, [.int (md + 1), .ref eE, .int (nI N)])), (aG, .inr (2, [.int (nI gn), .long gy, .int kb, .long gx, .int vb, .int la]))] H := hP
  have hD : va_D A [(aL, .inr (0, [.int (md + 1), .ref eE, .int (nI N)])), (aG, .inr (2, [.int (nI gn), .long gy, .int kb, .long gx, .int vb, .int la]))] := hD
  refine lv_aload_n hx hb dc_A_add_10 rfl (lv_at hl 0 rfl) ?_
  refine lv_aload_n hx hb dc_A_add_11 rfl (lv_at hl 1 rfl) ?_
  refine lv_aload_n hx hb dc_A_add_12 rfl (lv_at hl 0 rfl) ?_
  refine va_get (D := (dC, dI)) (ci := 0) (v := .ref eE) (C := rn_A) (T := ft_A) (N := 3) hx hb hts fw_A hown hK hP 0 rfl rfl 1 (by decide) (hts _ bw1_70) (fun _ h9 => h9) rfl dc_A_add_13 ?_
  refine lv_aload_n hx hb dc_A_add_16 rfl (lv_at hl 0 rfl) ?_
  refine va_get (D := (dC, dI)) (ci := 0) (v := .int (nI N)) (C := rn_A) (T := ft_A) (N := 3) hx hb hts fw_A hown hK hP 0 rfl rfl 2 (by decide) (hts _ bw1_71) (fun _ h9 => h9) rfl dc_A_add_17 ?_
  refine kc_v (wc := [(aL, .inr (0, [.int (md + 1), .ref eE, .int (nI N)])), (aG, .inr (2, [.int (nI gn), .long gy, .int kb, .long gx, .int vb, .int la]))]) (wr := []) hP hD hS hA [0, 1] [] rfl rfl (by decide) (by decide) (va_runV (As := [.ref aG, .ref eE, .int (nI N)]) (rest := []) ⟨hx, hb, hml, hown, hts⟩ (c_A_add1_first l dC dI _ eE aL (md + 1) N cO aG gn gy kb gx vb la (by omega)) (kw_V 3 hts bw2_182 bw2_184 bws_1 bw1_6 bw2_185 rfl rfl (by decide +kernel) ⟨Nat.le_of_ble_eq_true rfl, Nat.le_of_ble_eq_true rfl⟩) (kp_VE (wc := [(aL, .inr (0, [.int (md + 1), .ref eE, .int (nI N)])), (aG, .inr (2, [.int (nI gn), .long gy, .int kb, .long gx, .int vb, .int la]))]) (tc := [(cO, .object "java/lang/Object")]) (As := [.ref aG, .ref eE, .int (nI N)]) hE hG hS hA hP hD hK [0, 1] rfl (by decide) rfl [0] rfl (ci := 0) (q0 := 0) rfl rfl) rfl rfl hl.1 rfl (lv_room (Nat.le_of_ble_eq_true rfl)) dc_A_add_20 ⟨by show _ ≤ 1; omega, by show _ ≤ 10; omega⟩) (fun q1_1 H locs hw hP hD hK1 hS => ?_)
  have hP : va_P (dC, dI) vwCl [(aL, .inr (0, [.int (md + 1), .ref q1_1, .int (nI (N + 1))])), (q1_1, .inl (cO, 10, .inr (.inr (.inr (.inr (va_up (fun _ => none) N (some aG))))))), (aG, .inr (2, [.int (nI gn), .long gy, .int kb, .long gx, .int vb, .int la]))] H := hP
  have hD : va_D A [(aL, .inr (0, [.int (md + 1), .ref q1_1, .int (nI (N + 1))])), (q1_1, .inl (cO, 10, .inr (.inr (.inr (.inr (va_up (fun _ => none) N (some aG))))))), (aG, .inr (2, [.int (nI gn), .long gy, .int kb, .long gx, .int vb, .int la]))] := hD
  refine lv_iconst (v := 1) hx hb dc_A_add_23 (by decide) ?_
  have hP9 := hP.sub (ws' := [(aL, .inr (0, [.int (md + 1), .ref q1_1, .int (nI (N + 1))])), (q1_1, .inl (cO, 10, .inr (.inr (.inr (.inr (va_up (fun _ => none) N (some aG))))))), (aG, .inr (2, [.int (nI gn), .long gy, .int kb, .long gx, .int vb, .int la]))]) [0, 1, 2] rfl
  have hD9 := hD.sub (ws' := [(aL, .inr (0, [.int (md + 1), .ref q1_1, .int (nI (N + 1))])), (q1_1, .inl (cO, 10, .inr (.inr (.inr (.inr (va_up (fun _ => none) N (some aG))))))), (aG, .inr (2, [.int (nI gn), .long gy, .int kb, .long gx, .int vb, .int la]))]) [0, 1, 2] (by decide) rfl
  have hK9 := hK.sub (tys' := [(cO, .object "java/lang/Object")]) [0] rfl
  refine W.widen (k := 1) (n := 10) (by omega) (by omega) ?_
  exact W.zret (v := 1) hx hb hr (rfl) (fun t ht hW => ⟨⟨1, q1_1, rfl, rfl, by rw [ht]; exact hP9, va_K.moved hW.alike hK9, hD9⟩, hS.F ht⟩) hS.2.2 dc_A_add_24

set_option maxHeartbeats 1000000 in
set_option maxRecDepth 100000 in
theorem c_A_add_full (l : Launch) (dC : Nat → ClassId) (dI : Nat → Nat → Nat) (sz : Nat) (aL : Nat) (md : Int32) (ea : Nat) (N : Nat) (cO : ClassId) (ln : Nat) (fa : Nat → Option Nat) (aG : Nat) (gn : Nat) (gy : Int64) (kb : Int32) (gx : Int64) (vb : Int32) (la : Int32) (gr : va_W) (hN : N = ln) (h10 : 10 ≤ ln) (hln : ln ≤ 40000) (hel : ∀ i, i < ln → ∀ y, fa i = some y → ∃ vs, (y, .inr (2, vs)) ∈ gr) : Met l my_A_add (wB my_A_add cd_A_add 2 (some .boolean)) ({ frames := 6, cells := 1, slots := ln + ln / 2, locals := 139 }) (va_Pc [.ref aL, .ref aG] (PcW (dC, dI) ([(aL, .inr (0, [.int md, .ref ea, .int (nI N)])), (ea, .inl (cO, ln, .inr (.inr (.inr (.inr fa))))), (aG, .inr (2, [.int (nI gn), .long gy, .int kb, .long gx, .int vb, .int la]))] ++ gr) [(cO, .object "java/lang/Object")] sz)) (va_Qi (fun (r : Int32) (q1 : Nat) => r = 1) (fun q1 => EnW (dC, dI) (va_A ([(aL, .inr (0, [.int md, .ref ea, .int (nI N)])), (ea, .inl (cO, ln, .inr (.inr (.inr (.inr fa))))), (aG, .inr (2, [.int (nI gn), .long gy, .int kb, .long gx, .int vb, .int la]))] ++ gr) sz) ([(aL, .inr (0, [.int (md + 1), .ref q1, .int (nI (N + 1))])), (q1, .inl (cO, ln + ln / 2, .inr (.inr (.inr (.inr (va_up (va_cpy fa (fun _ => none) 0 0 ln) N (some aG))))))), (aG, .inr (2, [.int (nI gn), .long gy, .int kb, .long gx, .int vb, .int la]))] ++ gr) [(cO, .object "java/lang/Object")]) (va_A ([(aL, .inr (0, [.int md, .ref ea, .int (nI N)])), (ea, .inl (cO, ln, .inr (.inr (.inr (.inr fa))))), (aG, .inr (2, [.int (nI gn), .long gy, .int kb, .long gx, .int vb, .int la]))] ++ gr) sz)) 1 (ln + ln / 2) (va_A ([(aL, .inr (0, [.int md, .ref ea, .int (nI N)])), (ea, .inl (cO, ln, .inr (.inr (.inr (.inr fa))))), (aG, .inr (2, [.int (nI gn), .long gy, .int kb, .long gx, .int vb, .int la]))] ++ gr) sz) := by
  refine Met.ofW (cc := cd_A_add) (maxL := 2) (ret := (some .boolean)) (by decide) rfl ?_
  intro p e s m args below meth c s₁ B hml hv
  obtain ⟨rfl, hsz, hP, hK, hD0, hG⟩ := hv
  have hx := B.exec
  have hb := B.bytes
  have hr := B.returns
  have hts := fun (w : Cond) (h : w ∈ bigT) => atoms_spec (ws := (wB my_A_add cd_A_add 2 (some .boolean))) B.pre w (List.mem_cons_of_mem _ h)
  have hown : s.vm.findClass rn_A = some m.cls := findClass_of_methodNamed B.named
  have hlocks := B.notSynchronized
  subst hsz
  have hD := hD0.self (sz := s.heap.size)
  generalize hAe : va_A ([(aL, .inr (0, [.int md, .ref ea, .int (nI N)])), (ea, .inl (cO, ln, .inr (.inr (.inr (.inr fa))))), (aG, .inr (2, [.int (nI gn), .long gy, .int kb, .long gx, .int vb, .int la]))] ++ gr) s.heap.size = A at hD hG ⊢
  have hA : ∀ q : Nat, s.heap.size ≤ q → A q := fun q h => by rw [← hAe]; exact Or.inr h
  have hS : va_S A s.heap s.heap [] := va_S.rf
  have hP : va_P (dC, dI) vwCl ([(aL, .inr (0, [.int md, .ref ea, .int (nI N)])), (ea, .inl (cO, ln, .inr (.inr (.inr (.inr fa))))), (aG, .inr (2, [.int (nI gn), .long gy, .int kb, .long gx, .int vb, .int la]))] ++ gr) s.heap := hP
  have hl := lv_entry ([.ref aL, .ref aG]) (n := 2) (Nat.le_of_ble_eq_true rfl)
  rw [lg_entry_eq]
  generalize (lg_sl ([.ref aL, .ref aG]) ++ List.replicate (2 - (lg_sl ([.ref aL, .ref aG])).length) Slot.unset).toArray = ls at hl ⊢
  have hl : lv_has ls 2 [(0, .ref aL), (1, .ref aG)] := hl
  refine lv_aload_n hx hb dc_A_add_0 rfl (lv_at hl 0 rfl) ?_
  refine lv_dup hx hb dc_A_add_1 rfl ?_
  refine va_get (D := (dC, dI)) (ci := 0) (v := .int md) (C := rn_A) (T := ft_A) (N := 3) hx hb hts fw_A hown hK hP 0 rfl rfl 0 (by decide) (hts _ bw1_73) (u_same (hts _ bw1_74)) rfl dc_A_add_2 ?_
  refine lv_iconst (v := 1) hx hb dc_A_add_5 (by decide) ?_
  refine lv_iadd hx hb dc_A_add_6 ?_
  refine va_put (D := (dC, dI)) (ci := 0) (v := .int (md + 1)) (ty := .int) (C := rn_A) (T := ft_A) (N := 3) hx hb hts fw_A fy_A fo_A fn_A hown hK hP hD hS 0 rfl rfl 0 (by decide) (hts _ bw1_73) (u_same (hts _ bw1_74)) rfl (by decide +kernel) rfl rfl (Nat.le_of_ble_eq_true rfl) dc_A_add_7 (fun H locs hP hD hS => ?_)
  have hP : va_P (dC, dI) vwCl ([(aL, .inr (0, [.int (md + 1), .ref ea, .int (nI N)])), (ea, .inl (cO, ln, .inr (.inr (.inr (.inr fa))))), (aG, .inr (2, [.int (nI gn), .long gy, .int kb, .long gx, .int vb, .int la]))] ++ gr) H := hP
  have hD : va_D A ([(aL, .inr (0, [.int (md + 1), .ref ea, .int (nI N)])), (ea, .inl (cO, ln, .inr (.inr (.inr (.inr fa))))), (aG, .inr (2, [.int (nI gn), .long gy, .int kb, .long gx, .int vb, .int la]))] ++ gr) := hD
  refine lv_aload_n hx hb dc_A_add_10 rfl (lv_at hl 0 rfl) ?_
  refine lv_aload_n hx hb dc_A_add_11 rfl (lv_at hl 1 rfl) ?_
  refine lv_aload_n hx hb dc_A_add_12 rfl (lv_at hl 0 rfl) ?_
  refine va_get (D := (dC, dI)) (ci := 0) (v := .ref ea) (C := rn_A) (T := ft_A) (N := 3) hx hb hts fw_A hown hK hP 0 rfl rfl 1 (by decide) (hts _ bw1_70) (fun _ h9 => h9) rfl dc_A_add_13 ?_
  refine lv_aload_n hx hb dc_A_add_16 rfl (lv_at hl 0 rfl) ?_
  refine va_get (D := (dC, dI)) (ci := 0) (v := .int (nI N)) (C := rn_A) (T := ft_A) (N := 3) hx hb hts fw_A hown hK hP 0 rfl rfl 2 (by decide) (hts _ bw1_71) (fun _ h9 => h9) rfl dc_A_add_17 ?_
  refine kc_vP (X := [(aL, .inr (0, [.int (md + 1), .ref ea, .int (nI N)])), (ea, .inl (cO, ln, .inr (.inr (.inr (.inr fa))))), (aG, .inr (2, [.int (nI gn), .long gy, .int kb, .long gx, .int vb, .int la]))]) (cx := [(aL, .inr (0, [.int (md + 1), .ref ea, .int (nI N)])), (ea, .inl (cO, ln, .inr (.inr (.inr (.inr fa))))), (aG, .inr (2, [.int (nI gn), .long gy, .int kb, .long gx, .int vb, .int la]))]) (wr := []) (pl := gr) hP hD hS hA [0, 1, 2] [] rfl rfl (by decide) (by decide) (va_runV (As := [.ref aG, .ref ea, .int (nI N)]) (rest := []) ⟨hx, hb, hml, hown, hts⟩ (c_A_add1_full l dC dI _ aL (md + 1) ea N cO ln fa aG gn gy kb gx vb la gr (by omega) (by omega) (by omega) (hel)) (kw_V 3 hts bw2_182 bw2_184 bws_1 bw1_6 bw2_185 rfl rfl (by decide +kernel) ⟨Nat.le_of_ble_eq_true rfl, Nat.le_of_ble_eq_true rfl⟩) (kp_VP (cx := [(aL, .inr (0, [.int (md + 1), .ref ea, .int (nI N)])), (ea, .inl (cO, ln, .inr (.inr (.inr (.inr fa))))), (aG, .inr (2, [.int (nI gn), .long gy, .int kb, .long gx, .int vb, .int la]))]) (pl := gr) (tc := [(cO, .object "java/lang/Object")]) (As := [.ref aG, .ref ea, .int (nI N)]) hG hS hA hP hD hK [0, 1, 2] (by decide) rfl [0] rfl (ci := 0) (q0 := 0) rfl rfl) rfl rfl hl.1 rfl (lv_room (Nat.le_of_ble_eq_true rfl)) dc_A_add_20 ⟨by show _ ≤ 1; omega, by show _ ≤ ln + ln / 2; omega⟩) (fun q1_1 H locs hw hP hD hK1 hS => ?_)
  have hP : va_P (dC, dI) vwCl ([(aL, .inr (0, [.int (md + 1), .ref q1_1, .int (nI (N + 1))])), (q1_1, .inl (cO, ln + ln / 2, .inr (.inr (.inr (.inr (va_up (va_cpy fa (fun _ => none) 0 0 ln) N (some aG))))))), (aG, .inr (2, [.int (nI gn), .long gy, .int kb, .long gx, .int vb, .int la]))] ++ gr) H := hP
  have hD : va_D A ([(aL, .inr (0, [.int (md + 1), .ref q1_1, .int (nI (N + 1))])), (q1_1, .inl (cO, ln + ln / 2, .inr (.inr (.inr (.inr (va_up (va_cpy fa (fun _ => none) 0 0 ln) N (some aG))))))), (aG, .inr (2, [.int (nI gn), .long gy, .int kb, .long gx, .int vb, .int la]))] ++ gr) := hD
  refine lv_iconst (v := 1) hx hb dc_A_add_23 (by decide) ?_
  have hP9 : va_P (dC, dI) vwCl ([(aL, .inr (0, [.int (md + 1), .ref q1_1, .int (nI (N + 1))])), (q1_1, .inl (cO, ln + ln / 2, .inr (.inr (.inr (.inr (va_up (va_cpy fa (fun _ => none) 0 0 ln) N (some aG))))))), (aG, .inr (2, [.int (nI gn), .long gy, .int kb, .long gx, .int vb, .int la]))] ++ gr) H := hP.part (cx := [(aL, .inr (0, [.int (md + 1), .ref q1_1, .int (nI (N + 1))])), (q1_1, .inl (cO, ln + ln / 2, .inr (.inr (.inr (.inr (va_up (va_cpy fa (fun _ => none) 0 0 ln) N (some aG))))))), (aG, .inr (2, [.int (nI gn), .long gy, .int kb, .long gx, .int vb, .int la]))]) (pl := gr) [0, 1, 2] rfl
  have hD9 : va_D A ([(aL, .inr (0, [.int (md + 1), .ref q1_1, .int (nI (N + 1))])), (q1_1, .inl (cO, ln + ln / 2, .inr (.inr (.inr (.inr (va_up (va_cpy fa (fun _ => none) 0 0 ln) N (some aG))))))), (aG, .inr (2, [.int (nI gn), .long gy, .int kb, .long gx, .int vb, .int la]))] ++ gr) := hD.part (cx := [(aL, .inr (0, [.int (md + 1), .ref q1_1, .int (nI (N + 1))])), (q1_1, .inl (cO, ln + ln / 2, .inr (.inr (.inr (.inr (va_up (va_cpy fa (fun _ => none) 0 0 ln) N (some aG))))))), (aG, .inr (2, [.int (nI gn), .long gy, .int kb, .long gx, .int vb, .int la]))]) (pl := gr) [0, 1, 2] (by decide) rfl
  have hK9 := hK.sub (tys' := [(cO, .object "java/lang/Object")]) [0] rfl
  refine W.widen (k := 1) (n := ln + ln / 2) (by omega) (by omega) ?_
  exact W.zret (v := 1) hx hb hr (rfl) (fun t ht hW => ⟨⟨1, q1_1, rfl, rfl, by rw [ht]; exact hP9, va_K.moved hW.alike hK9, hD9⟩, hS.F ht⟩) hS.2.2 dc_A_add_24
