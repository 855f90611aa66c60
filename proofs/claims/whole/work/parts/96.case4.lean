set_option maxHeartbeats 8000000 in
set_option maxRecDepth 100000 in
theorem st_record {p : Program} {l : Launch} {e : Env} {s : State} {m : MethodId} {below : List Frame} {meth : Method} {c : Code} {b L : Nat} {xs : Nat → Int32} {A : Nat → Prop} {dC : Nat → ClassId} {dI : Nat → Nat → Nat} {eE : Nat} {cO : ClassId} {cJ : ClassId} {c1_ : ClassId} {c2_ : ClassId} {c3_ : ClassId} {c4_ : ClassId} {c5_ : ClassId} {c6_ : ClassId} {aB : Nat} {aT : Nat} {aF : Nat} {aQ : Nat} {aK : Nat} {aV : Nat} {aL : Nat} {aM : Nat} {a1 : Nat} {a2 : Nat} {a3 : Nat} {a4 : Nat} {a5 : Nat} {a6 : Nat} {aO : Nat} {Q : State → Prop} {H : Heap} {locs : List Loc} {ls : Array Slot} {i n ln : Nat} (hx : p.tables.exec = Jvm.exec) (hb : c.code = code) (hml : c.maxLocals = 8) (hown : s.vm.findClass rn_L = some m.cls) (hts : ∀ w ∈ bigT, w.before #[Value.ref b] s = true) (hX : va_X b L xs s s.heap) (hbl : b < s.heap.size) (hbA : ¬ A b) (hA : ∀ q, s.heap.size ≤ q → A q) (hG : GV A s s.heap) (hE : ZE eE A s s.heap) (hst : l.stackTraces = false) (hL : L ≤ 4608) (hi9 : i + 9 ≤ L) (hI : INV (dC, dI) A s eE cO cJ c1_ c2_ c3_ c4_ c5_ c6_ aB aT aF aQ aK aV aL aM a1 a2 a3 a4 a5 a6 aO n ln H) (hS : va_S A s.heap H locs) (hl : lv_has ls 8 [(4, .int (nI i)), (3, .ref aO), (2, .ref aM), (1, .ref aB), (0, .ref b)]) (KK : ∀ (n' ln' : Nat) (H' : Heap) (locs' : List Loc) (ls' : Array Slot), INV (dC, dI) A s eE cO cJ c1_ c2_ c3_ c4_ c5_ c6_ aB aT aF aQ aK aV aL aM a1 a2 a3 a4 a5 a6 aO n' ln' H' → va_S A s.heap H' locs' → lv_has ls' 8 [(4, .int (nI i)), (3, .ref aO), (2, .ref aM), (1, .ref aB), (0, .ref b)] → W p l e room_1 s m #[Value.ref b] below meth c H' locs' (CN (i + 9)) (SN (i + 9) n' ln') Q (F0 m 949 ls' [])) : W p l e room_1 s m #[Value.ref b] below meth c H locs (CN i) (SN i n ln) Q (F0 m 345 ls []) := by
  obtain ⟨aR, cA, f, k, ch, fk, fp, pl, en, so, sa, ti, kl, kp, vl, vp, dn, wt, lt, md, ea, N, gs, plt, co, xa, ri, fa, fq, bg, tm, ka, kb, va, vb, tp, gk, gkb, gv, gvb, gl, fo, r1, r2, r3, r4, r5, r6, r7, r8, hP, hD, hK⟩ := hI
  have hCN := cn_le (i := i) (by omega)
  have hSN := sn_le (i := i) (by omega) r2 r8
  by_cases hbad : xs (i + 1) < 1 ∨ ¬ xs (i + 1) ≤ 100 ∨ xs (i + 4) < -1 ∨ ¬ xs (i + 4) ≤ 8 ∨ xs (i + 7) < -1 ∨ ¬ xs (i + 7) ≤ 300 ∨ xs (i + 8) < 0 ∨ ¬ xs (i + 8) ≤ 1000000
  rotate_left
  rcases Nat.lt_or_ge 1000 (dn + (xs (i + 1)).toNatClampNeg) with hfull | hroom
  rotate_left
  rcases Nat.lt_or_ge 16000 (wt + gwN (xs (i + 4)) (xs (i + 7)) (xs (i + 8)) dn (xs (i + 1)).toNatClampNeg) with hhv | hlt
  · obtain ⟨⟨gn, hg1, hg2, hge⟩, hr1, hr2, hr3, hr4, hr5, hr6⟩ := rec_yes hbad
    obtain ⟨e1, e2, e3, e4, e5, e6, e7, e8, e9, e10⟩ := r6
    have hNd := gnum_ge e7
    rw [hge, nI_clamp (by omega)] at hroom hhv
    have hwg := wt_gw (kf := gkb) (vf := gvb) (df := gl) (kb := xs (i + 4)) (vb := xs (i + 7)) (la := xs (i + 8)) (dn := dn) gn
    rw [← e3] at hwg
    refine lv_aload_n hx hb dc_L_law_345 rfl (lv_at hl 3 rfl) ?_
    refine lv_aload_n hx hb dc_L_law_346 rfl (lv_at hl 4 rfl) ?_
    refine lv_iload hx hb dc_L_law_347 (lv_at hl 0 rfl) ?_
    refine lv_iconst (v := 1) hx hb dc_L_law_349 (by decide) ?_
    refine lv_iadd hx hb dc_L_law_350 ?_
    refine W.eq (g2 := F0 m 351 ls [.int (nI (i + 1)), .ref b, .ref aB]) (by rw [show nI i + 1 = nI (i + 1) from nI_add i 1]) ?_
    refine va_sld hx hb hX hbl hbA hS (vp_in_nI (by omega) (by omega)) dc_L_law_351 ?_
    rw [show (nI (i + 1)).toNatClampNeg = i + 1 from nI_clamp (by omega)]
    refine lv_aload_n hx hb dc_L_law_352 rfl (lv_at hl 4 rfl) ?_
    refine lv_iload hx hb dc_L_law_353 (lv_at hl 0 rfl) ?_
    refine lv_iconst (v := 2) hx hb dc_L_law_355 (by decide) ?_
    refine lv_iadd hx hb dc_L_law_356 ?_
    refine W.eq (g2 := F0 m 357 ls [.int (nI (i + 2)), .ref b, .int (xs (i + 1)), .ref aB]) (by rw [show nI i + 2 = nI (i + 2) from nI_add i 2]) ?_
    refine va_sld hx hb hX hbl hbA hS (vp_in_nI (by omega) (by omega)) dc_L_law_357 ?_
    rw [show (nI (i + 2)).toNatClampNeg = i + 2 from nI_clamp (by omega)]
    refine lv_i2l (v := (xs (i + 2)).toInt64) hx hb dc_L_law_358 rfl ?_
    refine lv_bipush (v := 32) hx hb dc_L_law_359 (by decide) ?_
    refine lv_lshl (v := ((xs (i + 2)).toInt64) <<< ((32 : Int32).toInt64 &&& 63)) hx hb dc_L_law_361 rfl ?_
    refine lv_aload_n hx hb dc_L_law_362 rfl (lv_at hl 4 rfl) ?_
    refine lv_iload hx hb dc_L_law_363 (lv_at hl 0 rfl) ?_
    refine lv_iconst (v := 3) hx hb dc_L_law_365 (by decide) ?_
    refine lv_iadd hx hb dc_L_law_366 ?_
    refine W.eq (g2 := F0 m 367 ls [.int (nI (i + 3)), .ref b, .long (((xs (i + 2)).toInt64) <<< ((32 : Int32).toInt64 &&& 63)), .int (xs (i + 1)), .ref aB]) (by rw [show nI i + 3 = nI (i + 3) from nI_add i 3]) ?_
    refine va_sld hx hb hX hbl hbA hS (vp_in_nI (by omega) (by omega)) dc_L_law_367 ?_
    rw [show (nI (i + 3)).toNatClampNeg = i + 3 from nI_clamp (by omega)]
    refine lv_i2l (v := (xs (i + 3)).toInt64) hx hb dc_L_law_368 rfl ?_
    refine lv_ldc2 (v := 4294967295) hx hb hown (hts _ bw4_114) dc_L_law_369 ?_
    refine lv_land hx hb dc_L_law_372 ?_
    refine lv_lor hx hb dc_L_law_373 ?_
    refine lv_aload_n hx hb dc_L_law_374 rfl (lv_at hl 4 rfl) ?_
    refine lv_iload hx hb dc_L_law_375 (lv_at hl 0 rfl) ?_
    refine lv_iconst (v := 4) hx hb dc_L_law_377 (by decide) ?_
    refine lv_iadd hx hb dc_L_law_378 ?_
    refine W.eq (g2 := F0 m 379 ls [.int (nI (i + 4)), .ref b, .long ((((xs (i + 2)).toInt64) <<< ((32 : Int32).toInt64 &&& 63)) ||| (((xs (i + 3)).toInt64) &&& 4294967295)), .int (xs (i + 1)), .ref aB]) (by rw [show nI i + 4 = nI (i + 4) from nI_add i 4]) ?_
    refine va_sld hx hb hX hbl hbA hS (vp_in_nI (by omega) (by omega)) dc_L_law_379 ?_
    rw [show (nI (i + 4)).toNatClampNeg = i + 4 from nI_clamp (by omega)]
    refine lv_aload_n hx hb dc_L_law_380 rfl (lv_at hl 4 rfl) ?_
    refine lv_iload hx hb dc_L_law_381 (lv_at hl 0 rfl) ?_
    refine lv_iconst (v := 5) hx hb dc_L_law_383 (by decide) ?_
    refine lv_iadd hx hb dc_L_law_384 ?_
    refine W.eq (g2 := F0 m 385 ls [.int (nI (i + 5)), .ref b, .int (xs (i + 4)), .long ((((xs (i + 2)).toInt64) <<< ((32 : Int32).toInt64 &&& 63)) ||| (((xs (i + 3)).toInt64) &&& 4294967295)), .int (xs (i + 1)), .ref aB]) (by rw [show nI i + 5 = nI (i + 5) from nI_add i 5]) ?_
    refine va_sld hx hb hX hbl hbA hS (vp_in_nI (by omega) (by omega)) dc_L_law_385 ?_
    rw [show (nI (i + 5)).toNatClampNeg = i + 5 from nI_clamp (by omega)]
    refine lv_i2l (v := (xs (i + 5)).toInt64) hx hb dc_L_law_386 rfl ?_
    refine lv_bipush (v := 32) hx hb dc_L_law_387 (by decide) ?_
    refine lv_lshl (v := ((xs (i + 5)).toInt64) <<< ((32 : Int32).toInt64 &&& 63)) hx hb dc_L_law_389 rfl ?_
    refine lv_aload_n hx hb dc_L_law_390 rfl (lv_at hl 4 rfl) ?_
    refine lv_iload hx hb dc_L_law_391 (lv_at hl 0 rfl) ?_
    refine lv_bipush (v := 6) hx hb dc_L_law_393 (by decide) ?_
    refine lv_iadd hx hb dc_L_law_395 ?_
    refine W.eq (g2 := F0 m 396 ls [.int (nI (i + 6)), .ref b, .long (((xs (i + 5)).toInt64) <<< ((32 : Int32).toInt64 &&& 63)), .int (xs (i + 4)), .long ((((xs (i + 2)).toInt64) <<< ((32 : Int32).toInt64 &&& 63)) ||| (((xs (i + 3)).toInt64) &&& 4294967295)), .int (xs (i + 1)), .ref aB]) (by rw [show nI i + 6 = nI (i + 6) from nI_add i 6]) ?_
    refine va_sld hx hb hX hbl hbA hS (vp_in_nI (by omega) (by omega)) dc_L_law_396 ?_
    rw [show (nI (i + 6)).toNatClampNeg = i + 6 from nI_clamp (by omega)]
    refine lv_i2l (v := (xs (i + 6)).toInt64) hx hb dc_L_law_397 rfl ?_
    refine lv_ldc2 (v := 4294967295) hx hb hown (hts _ bw4_114) dc_L_law_398 ?_
    refine lv_land hx hb dc_L_law_401 ?_
    refine lv_lor hx hb dc_L_law_402 ?_
    refine lv_aload_n hx hb dc_L_law_403 rfl (lv_at hl 4 rfl) ?_
    refine lv_iload hx hb dc_L_law_404 (lv_at hl 0 rfl) ?_
    refine lv_bipush (v := 7) hx hb dc_L_law_406 (by decide) ?_
    refine lv_iadd hx hb dc_L_law_408 ?_
    refine W.eq (g2 := F0 m 409 ls [.int (nI (i + 7)), .ref b, .long ((((xs (i + 5)).toInt64) <<< ((32 : Int32).toInt64 &&& 63)) ||| (((xs (i + 6)).toInt64) &&& 4294967295)), .int (xs (i + 4)), .long ((((xs (i + 2)).toInt64) <<< ((32 : Int32).toInt64 &&& 63)) ||| (((xs (i + 3)).toInt64) &&& 4294967295)), .int (xs (i + 1)), .ref aB]) (by rw [show nI i + 7 = nI (i + 7) from nI_add i 7]) ?_
    refine va_sld hx hb hX hbl hbA hS (vp_in_nI (by omega) (by omega)) dc_L_law_409 ?_
    rw [show (nI (i + 7)).toNatClampNeg = i + 7 from nI_clamp (by omega)]
    refine lv_aload_n hx hb dc_L_law_410 rfl (lv_at hl 4 rfl) ?_
    refine lv_iload hx hb dc_L_law_411 (lv_at hl 0 rfl) ?_
    refine lv_bipush (v := 8) hx hb dc_L_law_413 (by decide) ?_
    refine lv_iadd hx hb dc_L_law_415 ?_
    refine W.eq (g2 := F0 m 416 ls [.int (nI (i + 8)), .ref b, .int (xs (i + 7)), .long ((((xs (i + 5)).toInt64) <<< ((32 : Int32).toInt64 &&& 63)) ||| (((xs (i + 6)).toInt64) &&& 4294967295)), .int (xs (i + 4)), .long ((((xs (i + 2)).toInt64) <<< ((32 : Int32).toInt64 &&& 63)) ||| (((xs (i + 3)).toInt64) &&& 4294967295)), .int (xs (i + 1)), .ref aB]) (by rw [show nI i + 8 = nI (i + 8) from nI_add i 8]) ?_
    refine va_sld hx hb hX hbl hbA hS (vp_in_nI (by omega) (by omega)) dc_L_law_416 ?_
    rw [show (nI (i + 8)).toNatClampNeg = i + 8 from nI_clamp (by omega)]
    refine lv_aload_n hx hb dc_L_law_417 rfl (lv_at hl 1 rfl) ?_
    refine W.eq (g2 := F0 m 418 ls [.ref aO, .int (xs (i + 8)), .int (xs (i + 7)), .long ((((xs (i + 5)).toInt64) <<< ((32 : Int32).toInt64 &&& 63)) ||| (((xs (i + 6)).toInt64) &&& 4294967295)), .int (xs (i + 4)), .long ((((xs (i + 2)).toInt64) <<< ((32 : Int32).toInt64 &&& 63)) ||| (((xs (i + 3)).toInt64) &&& 4294967295)), .int (nI gn), .ref aB]) (by rw [show (xs (i + 1)) = (nI gn) by exact hge]) ?_
    refine kc_iQ (X := [(aB, .inr (6, [.ref aT, .ref aF, .ref aQ, .int fk, .int fp])), (aT, .inr (5, [.ref aR, .int (nI k), .int ch])), (aR, .inl (cA, n, .inl f)), (aF, .inr (1, [.ref aL, .int (nI dn), .int (nI wt), .int lt])), (aL, .inr (0, [.int md, .ref ea, .int (nI N)])), (aQ, .inr (4, [.ref aT, .ref aK, .ref aV, .int pl, .int en, .int so, .int sa, .long ti])), (aK, .inr (3, [.int kl, .int kp])), (aV, .inr (3, [.int vl, .int vp])), (aO, .inl (cJ, 1, .inr (.inl fo))), (aM, .inr (7, [.int co, .ref a1, .int (nI k), .int (nI dn), .ref a2, .ref a3, .ref a4, .ref a5, .ref a6, .int (nI xa), .int ri, .int fa, .int fq, .int bg, .long tm, .int ka, .long kb, .int va, .long vb])), (a1, .inl (c1_, 16384, .inl tp)), (a2, .inl (c2_, 1000, .inr (.inl gk))), (a3, .inl (c3_, 1000, .inl gkb)), (a4, .inl (c4_, 1000, .inr (.inl gv))), (a5, .inl (c5_, 1000, .inl gvb)), (a6, .inl (c6_, 1000, .inl gl))]) (cx := [(aB, .inr (6, [.ref aT, .ref aF, .ref aQ, .int fk, .int fp])), (aF, .inr (1, [.ref aL, .int (nI dn), .int (nI wt), .int lt])), (aO, .inl (cJ, 1, .inr (.inl fo)))]) (wr := [(aT, .inr (5, [.ref aR, .int (nI k), .int ch])), (aR, .inl (cA, n, .inl f)), (aL, .inr (0, [.int md, .ref ea, .int (nI N)])), (aQ, .inr (4, [.ref aT, .ref aK, .ref aV, .int pl, .int en, .int so, .int sa, .long ti])), (aK, .inr (3, [.int kl, .int kp])), (aV, .inr (3, [.int vl, .int vp])), (aM, .inr (7, [.int co, .ref a1, .int (nI k), .int (nI dn), .ref a2, .ref a3, .ref a4, .ref a5, .ref a6, .int (nI xa), .int ri, .int fa, .int fq, .int bg, .long tm, .int ka, .long kb, .int va, .long vb])), (a1, .inl (c1_, 16384, .inl tp)), (a2, .inl (c2_, 1000, .inr (.inl gk))), (a3, .inl (c3_, 1000, .inl gkb)), (a4, .inl (c4_, 1000, .inr (.inl gv))), (a5, .inl (c5_, 1000, .inl gvb)), (a6, .inl (c6_, 1000, .inl gl))]) (pl := plt) hP hD hS hA [0, 3, 8] [1, 2, 4, 5, 6, 7, 9, 10, 11, 12, 13, 14, 15] rfl rfl rfl (by decide) (by decide) (vx_runSW (As := [.ref aB, .int (nI gn), .long ((((xs (i + 2)).toInt64) <<< ((32 : Int32).toInt64 &&& 63)) ||| (((xs (i + 3)).toInt64) &&& 4294967295)), .int (xs (i + 4)), .long ((((xs (i + 5)).toInt64) <<< ((32 : Int32).toInt64 &&& 63)) ||| (((xs (i + 6)).toInt64) &&& 4294967295)), .int (xs (i + 7)), .int (xs (i + 8)), .ref aO]) (rest := []) ⟨hx, hb, hml, hown, hts⟩ (c_L_record_full l dC dI _ aB aT aF aQ fk fp aL dn wt lt gn ((((xs (i + 2)).toInt64) <<< ((32 : Int32).toInt64 &&& 63)) ||| (((xs (i + 3)).toInt64) &&& 4294967295)) (xs (i + 4)) ((((xs (i + 5)).toInt64) <<< ((32 : Int32).toInt64 &&& 63)) ||| (((xs (i + 6)).toInt64) &&& 4294967295)) (xs (i + 7)) (xs (i + 8)) aO cJ fo (hg1) (hg2) (hr1) (hr2) (hr3) (hr4) (hr5) (hr6) (e2) (e4) (Or.inr hhv) hst) (kw_SW 8 hts bw2_115 bw2_116 bw1_0 bw2_117 rfl rfl (by decide +kernel) ⟨Nat.le_of_ble_eq_true rfl, Nat.le_of_ble_eq_true rfl⟩) (kp_S (wc := [(aB, .inr (6, [.ref aT, .ref aF, .ref aQ, .int fk, .int fp])), (aF, .inr (1, [.ref aL, .int (nI dn), .int (nI wt), .int lt])), (aO, .inl (cJ, 1, .inr (.inl fo)))]) (tc := [(cJ, .long)]) (av := [.ref aB, .int (nI gn), .long ((((xs (i + 2)).toInt64) <<< ((32 : Int32).toInt64 &&& 63)) ||| (((xs (i + 3)).toInt64) &&& 4294967295)), .int (xs (i + 4)), .long ((((xs (i + 5)).toInt64) <<< ((32 : Int32).toInt64 &&& 63)) ||| (((xs (i + 6)).toInt64) &&& 4294967295)), .int (xs (i + 7)), .int (xs (i + 8)), .ref aO]) hG hS hA hP hD hK [0, 3, 8] rfl (by decide) rfl [2] rfl) rfl rfl hl.1 rfl (lv_room (Nat.le_of_ble_eq_true rfl)) dc_L_law_418 ⟨by show _ ≤ 601024; omega, by show _ ≤ 7293034; omega⟩) (fun r_1 _ H locs hw hP hD hK1 hS => ?_)
    have hw : 2 = r_1 := hw.symm
    subst hw
    have hP : va_P (dC, dI) vwCl ([(aT, .inr (5, [.ref aR, .int (nI k), .int ch])), (aR, .inl (cA, n, .inl f)), (aL, .inr (0, [.int md, .ref ea, .int (nI N)])), (aQ, .inr (4, [.ref aT, .ref aK, .ref aV, .int pl, .int en, .int so, .int sa, .long ti])), (aK, .inr (3, [.int kl, .int kp])), (aV, .inr (3, [.int vl, .int vp])), (aM, .inr (7, [.int co, .ref a1, .int (nI k), .int (nI dn), .ref a2, .ref a3, .ref a4, .ref a5, .ref a6, .int (nI xa), .int ri, .int fa, .int fq, .int bg, .long tm, .int ka, .long kb, .int va, .long vb])), (a1, .inl (c1_, 16384, .inl tp)), (a2, .inl (c2_, 1000, .inr (.inl gk))), (a3, .inl (c3_, 1000, .inl gkb)), (a4, .inl (c4_, 1000, .inr (.inl gv))), (a5, .inl (c5_, 1000, .inl gvb)), (a6, .inl (c6_, 1000, .inl gl)), (aB, .inr (6, [.ref aT, .ref aF, .ref aQ, .int fk, .int fp])), (aF, .inr (1, [.ref aL, .int (nI dn), .int (nI wt), .int lt])), (aO, .inl (cJ, 1, .inr (.inl fo)))] ++ plt) H := hP
    have hD : va_D A ([(aT, .inr (5, [.ref aR, .int (nI k), .int ch])), (aR, .inl (cA, n, .inl f)), (aL, .inr (0, [.int md, .ref ea, .int (nI N)])), (aQ, .inr (4, [.ref aT, .ref aK, .ref aV, .int pl, .int en, .int so, .int sa, .long ti])), (aK, .inr (3, [.int kl, .int kp])), (aV, .inr (3, [.int vl, .int vp])), (aM, .inr (7, [.int co, .ref a1, .int (nI k), .int (nI dn), .ref a2, .ref a3, .ref a4, .ref a5, .ref a6, .int (nI xa), .int ri, .int fa, .int fq, .int bg, .long tm, .int ka, .long kb, .int va, .long vb])), (a1, .inl (c1_, 16384, .inl tp)), (a2, .inl (c2_, 1000, .inr (.inl gk))), (a3, .inl (c3_, 1000, .inl gkb)), (a4, .inl (c4_, 1000, .inr (.inl gv))), (a5, .inl (c5_, 1000, .inl gvb)), (a6, .inl (c6_, 1000, .inl gl)), (aB, .inr (6, [.ref aT, .ref aF, .ref aQ, .int fk, .int fp])), (aF, .inr (1, [.ref aL, .int (nI dn), .int (nI wt), .int lt])), (aO, .inl (cJ, 1, .inr (.inl fo)))] ++ plt) := hD
    refine lv_istore (lv' := [(5, .int 2), (4, .int (nI i)), (3, .ref aO), (2, .ref aM), (1, .ref aB), (0, .ref b)]) hx hb dc_L_law_421 hl (by decide) rfl (fun ls hl => ?_)
    refine lv_aload_n hx hb dc_L_law_423 rfl (lv_at hl 3 rfl) ?_
    refine lv_aload_n hx hb dc_L_law_424 rfl (lv_at hl 5 rfl) ?_
    refine lv_iload hx hb dc_L_law_425 (lv_at hl 1 rfl) ?_
    refine lv_iconst (v := 1) hx hb dc_L_law_427 (by decide) ?_
    refine lv_iadd hx hb dc_L_law_428 ?_
    refine W.eq (g2 := F0 m 429 ls [.int (nI (i + 1)), .ref b, .ref aM]) (by rw [show nI i + 1 = nI (i + 1) from nI_add i 1]) ?_
    refine va_sld hx hb hX hbl hbA hS (vp_in_nI (by omega) (by omega)) dc_L_law_429 ?_
    rw [show (nI (i + 1)).toNatClampNeg = i + 1 from nI_clamp (by omega)]
    refine lv_aload_n hx hb dc_L_law_430 rfl (lv_at hl 5 rfl) ?_
    refine lv_iload hx hb dc_L_law_431 (lv_at hl 1 rfl) ?_
    refine lv_iconst (v := 2) hx hb dc_L_law_433 (by decide) ?_
    refine lv_iadd hx hb dc_L_law_434 ?_
    refine W.eq (g2 := F0 m 435 ls [.int (nI (i + 2)), .ref b, .int (xs (i + 1)), .ref aM]) (by rw [show nI i + 2 = nI (i + 2) from nI_add i 2]) ?_
    refine va_sld hx hb hX hbl hbA hS (vp_in_nI (by omega) (by omega)) dc_L_law_435 ?_
    rw [show (nI (i + 2)).toNatClampNeg = i + 2 from nI_clamp (by omega)]
    refine lv_i2l (v := (xs (i + 2)).toInt64) hx hb dc_L_law_436 rfl ?_
    refine lv_bipush (v := 32) hx hb dc_L_law_437 (by decide) ?_
    refine lv_lshl (v := ((xs (i + 2)).toInt64) <<< ((32 : Int32).toInt64 &&& 63)) hx hb dc_L_law_439 rfl ?_
    refine lv_aload_n hx hb dc_L_law_440 rfl (lv_at hl 5 rfl) ?_
    refine lv_iload hx hb dc_L_law_441 (lv_at hl 1 rfl) ?_
    refine lv_iconst (v := 3) hx hb dc_L_law_443 (by decide) ?_
    refine lv_iadd hx hb dc_L_law_444 ?_
    refine W.eq (g2 := F0 m 445 ls [.int (nI (i + 3)), .ref b, .long (((xs (i + 2)).toInt64) <<< ((32 : Int32).toInt64 &&& 63)), .int (xs (i + 1)), .ref aM]) (by rw [show nI i + 3 = nI (i + 3) from nI_add i 3]) ?_
    refine va_sld hx hb hX hbl hbA hS (vp_in_nI (by omega) (by omega)) dc_L_law_445 ?_
    rw [show (nI (i + 3)).toNatClampNeg = i + 3 from nI_clamp (by omega)]
    refine lv_i2l (v := (xs (i + 3)).toInt64) hx hb dc_L_law_446 rfl ?_
    refine lv_ldc2 (v := 4294967295) hx hb hown (hts _ bw4_114) dc_L_law_447 ?_
    refine lv_land hx hb dc_L_law_450 ?_
    refine lv_lor hx hb dc_L_law_451 ?_
    refine lv_aload_n hx hb dc_L_law_452 rfl (lv_at hl 5 rfl) ?_
    refine lv_iload hx hb dc_L_law_453 (lv_at hl 1 rfl) ?_
    refine lv_iconst (v := 4) hx hb dc_L_law_455 (by decide) ?_
    refine lv_iadd hx hb dc_L_law_456 ?_
    refine W.eq (g2 := F0 m 457 ls [.int (nI (i + 4)), .ref b, .long ((((xs (i + 2)).toInt64) <<< ((32 : Int32).toInt64 &&& 63)) ||| (((xs (i + 3)).toInt64) &&& 4294967295)), .int (xs (i + 1)), .ref aM]) (by rw [show nI i + 4 = nI (i + 4) from nI_add i 4]) ?_
    refine va_sld hx hb hX hbl hbA hS (vp_in_nI (by omega) (by omega)) dc_L_law_457 ?_
    rw [show (nI (i + 4)).toNatClampNeg = i + 4 from nI_clamp (by omega)]
    refine lv_aload_n hx hb dc_L_law_458 rfl (lv_at hl 5 rfl) ?_
    refine lv_iload hx hb dc_L_law_459 (lv_at hl 1 rfl) ?_
    refine lv_iconst (v := 5) hx hb dc_L_law_461 (by decide) ?_
    refine lv_iadd hx hb dc_L_law_462 ?_
    refine W.eq (g2 := F0 m 463 ls [.int (nI (i + 5)), .ref b, .int (xs (i + 4)), .long ((((xs (i + 2)).toInt64) <<< ((32 : Int32).toInt64 &&& 63)) ||| (((xs (i + 3)).toInt64) &&& 4294967295)), .int (xs (i + 1)), .ref aM]) (by rw [show nI i + 5 = nI (i + 5) from nI_add i 5]) ?_
    refine va_sld hx hb hX hbl hbA hS (vp_in_nI (by omega) (by omega)) dc_L_law_463 ?_
    rw [show (nI (i + 5)).toNatClampNeg = i + 5 from nI_clamp (by omega)]
    refine lv_i2l (v := (xs (i + 5)).toInt64) hx hb dc_L_law_464 rfl ?_
    refine lv_bipush (v := 32) hx hb dc_L_law_465 (by decide) ?_
    refine lv_lshl (v := ((xs (i + 5)).toInt64) <<< ((32 : Int32).toInt64 &&& 63)) hx hb dc_L_law_467 rfl ?_
    refine lv_aload_n hx hb dc_L_law_468 rfl (lv_at hl 5 rfl) ?_
    refine lv_iload hx hb dc_L_law_469 (lv_at hl 1 rfl) ?_
    refine lv_bipush (v := 6) hx hb dc_L_law_471 (by decide) ?_
    refine lv_iadd hx hb dc_L_law_473 ?_
    refine W.eq (g2 := F0 m 474 ls [.int (nI (i + 6)), .ref b, .long (((xs (i + 5)).toInt64) <<< ((32 : Int32).toInt64 &&& 63)), .int (xs (i + 4)), .long ((((xs (i + 2)).toInt64) <<< ((32 : Int32).toInt64 &&& 63)) ||| (((xs (i + 3)).toInt64) &&& 4294967295)), .int (xs (i + 1)), .ref aM]) (by rw [show nI i + 6 = nI (i + 6) from nI_add i 6]) ?_
    refine va_sld hx hb hX hbl hbA hS (vp_in_nI (by omega) (by omega)) dc_L_law_474 ?_
    rw [show (nI (i + 6)).toNatClampNeg = i + 6 from nI_clamp (by omega)]
    refine lv_i2l (v := (xs (i + 6)).toInt64) hx hb dc_L_law_475 rfl ?_
    refine lv_ldc2 (v := 4294967295) hx hb hown (hts _ bw4_114) dc_L_law_476 ?_
    refine lv_land hx hb dc_L_law_479 ?_
    refine lv_lor hx hb dc_L_law_480 ?_
    refine lv_aload_n hx hb dc_L_law_481 rfl (lv_at hl 5 rfl) ?_
    refine lv_iload hx hb dc_L_law_482 (lv_at hl 1 rfl) ?_
    refine lv_bipush (v := 7) hx hb dc_L_law_484 (by decide) ?_
    refine lv_iadd hx hb dc_L_law_486 ?_
    refine W.eq (g2 := F0 m 487 ls [.int (nI (i + 7)), .ref b, .long ((((xs (i + 5)).toInt64) <<< ((32 : Int32).toInt64 &&& 63)) ||| (((xs (i + 6)).toInt64) &&& 4294967295)), .int (xs (i + 4)), .long ((((xs (i + 2)).toInt64) <<< ((32 : Int32).toInt64 &&& 63)) ||| (((xs (i + 3)).toInt64) &&& 4294967295)), .int (xs (i + 1)), .ref aM]) (by rw [show nI i + 7 = nI (i + 7) from nI_add i 7]) ?_
    refine va_sld hx hb hX hbl hbA hS (vp_in_nI (by omega) (by omega)) dc_L_law_487 ?_
    rw [show (nI (i + 7)).toNatClampNeg = i + 7 from nI_clamp (by omega)]
    refine lv_aload_n hx hb dc_L_law_488 rfl (lv_at hl 5 rfl) ?_
    refine lv_iload hx hb dc_L_law_489 (lv_at hl 1 rfl) ?_
    refine lv_bipush (v := 8) hx hb dc_L_law_491 (by decide) ?_
    refine lv_iadd hx hb dc_L_law_493 ?_
    refine W.eq (g2 := F0 m 494 ls [.int (nI (i + 8)), .ref b, .int (xs (i + 7)), .long ((((xs (i + 5)).toInt64) <<< ((32 : Int32).toInt64 &&& 63)) ||| (((xs (i + 6)).toInt64) &&& 4294967295)), .int (xs (i + 4)), .long ((((xs (i + 2)).toInt64) <<< ((32 : Int32).toInt64 &&& 63)) ||| (((xs (i + 3)).toInt64) &&& 4294967295)), .int (xs (i + 1)), .ref aM]) (by rw [show nI i + 8 = nI (i + 8) from nI_add i 8]) ?_
    refine va_sld hx hb hX hbl hbA hS (vp_in_nI (by omega) (by omega)) dc_L_law_494 ?_
    rw [show (nI (i + 8)).toNatClampNeg = i + 8 from nI_clamp (by omega)]
    refine W.eq (g2 := F0 m 495 ls [.int (xs (i + 8)), .int (xs (i + 7)), .long ((((xs (i + 5)).toInt64) <<< ((32 : Int32).toInt64 &&& 63)) ||| (((xs (i + 6)).toInt64) &&& 4294967295)), .int (xs (i + 4)), .long ((((xs (i + 2)).toInt64) <<< ((32 : Int32).toInt64 &&& 63)) ||| (((xs (i + 3)).toInt64) &&& 4294967295)), .int (nI gn), .ref aM]) (by rw [show (xs (i + 1)) = (nI gn) by exact hge]) ?_
    refine kc_iQ (X := [(aT, .inr (5, [.ref aR, .int (nI k), .int ch])), (aR, .inl (cA, n, .inl f)), (aL, .inr (0, [.int md, .ref ea, .int (nI N)])), (aQ, .inr (4, [.ref aT, .ref aK, .ref aV, .int pl, .int en, .int so, .int sa, .long ti])), (aK, .inr (3, [.int kl, .int kp])), (aV, .inr (3, [.int vl, .int vp])), (aM, .inr (7, [.int co, .ref a1, .int (nI k), .int (nI dn), .ref a2, .ref a3, .ref a4, .ref a5, .ref a6, .int (nI xa), .int ri, .int fa, .int fq, .int bg, .long tm, .int ka, .long kb, .int va, .long vb])), (a1, .inl (c1_, 16384, .inl tp)), (a2, .inl (c2_, 1000, .inr (.inl gk))), (a3, .inl (c3_, 1000, .inl gkb)), (a4, .inl (c4_, 1000, .inr (.inl gv))), (a5, .inl (c5_, 1000, .inl gvb)), (a6, .inl (c6_, 1000, .inl gl)), (aB, .inr (6, [.ref aT, .ref aF, .ref aQ, .int fk, .int fp])), (aF, .inr (1, [.ref aL, .int (nI dn), .int (nI wt), .int lt])), (aO, .inl (cJ, 1, .inr (.inl fo)))]) (cx := [(aM, .inr (7, [.int co, .ref a1, .int (nI k), .int (nI dn), .ref a2, .ref a3, .ref a4, .ref a5, .ref a6, .int (nI xa), .int ri, .int fa, .int fq, .int bg, .long tm, .int ka, .long kb, .int va, .long vb])), (a2, .inl (c2_, 1000, .inr (.inl gk))), (a3, .inl (c3_, 1000, .inl gkb)), (a4, .inl (c4_, 1000, .inr (.inl gv))), (a5, .inl (c5_, 1000, .inl gvb)), (a6, .inl (c6_, 1000, .inl gl))]) (wr := [(aT, .inr (5, [.ref aR, .int (nI k), .int ch])), (aR, .inl (cA, n, .inl f)), (aL, .inr (0, [.int md, .ref ea, .int (nI N)])), (aQ, .inr (4, [.ref aT, .ref aK, .ref aV, .int pl, .int en, .int so, .int sa, .long ti])), (aK, .inr (3, [.int kl, .int kp])), (aV, .inr (3, [.int vl, .int vp])), (a1, .inl (c1_, 16384, .inl tp)), (aB, .inr (6, [.ref aT, .ref aF, .ref aQ, .int fk, .int fp])), (aF, .inr (1, [.ref aL, .int (nI dn), .int (nI wt), .int lt])), (aO, .inl (cJ, 1, .inr (.inl fo)))]) (pl := plt) hP hD hS hA [6, 8, 9, 10, 11, 12] [0, 1, 2, 3, 4, 5, 7, 13, 14, 15] rfl rfl rfl (by decide) (by decide) (va_runV (As := [.int (nI gn), .long ((((xs (i + 2)).toInt64) <<< ((32 : Int32).toInt64 &&& 63)) ||| (((xs (i + 3)).toInt64) &&& 4294967295)), .int (xs (i + 4)), .long ((((xs (i + 5)).toInt64) <<< ((32 : Int32).toInt64 &&& 63)) ||| (((xs (i + 6)).toInt64) &&& 4294967295)), .int (xs (i + 7)), .int (xs (i + 8))]) (rest := []) ⟨hx, hb, hml, hown, hts⟩ (c_M_record_heavy l dC dI _ aM co a1 k dn a2 a3 a4 a5 a6 xa ri fa fq bg tm ka kb va vb c2_ c3_ c4_ c5_ c6_ gk gkb gv gvb gl gn ((((xs (i + 2)).toInt64) <<< ((32 : Int32).toInt64 &&& 63)) ||| (((xs (i + 3)).toInt64) &&& 4294967295)) (xs (i + 4)) ((((xs (i + 5)).toInt64) <<< ((32 : Int32).toInt64 &&& 63)) ||| (((xs (i + 6)).toInt64) &&& 4294967295)) (xs (i + 7)) (xs (i + 8)) (hg1) (hg2) (hr1) (Int32.not_lt.mpr hr2) (hr3) (Int32.not_lt.mpr hr4) (hr5) (hr6) (hroom) (e6) (by rw [hwg]; exact hhv)) (kw_V 6 hts bw4_25 bw4_26 bw4_27 bw1_9 bw4_28 rfl rfl (by decide +kernel) ⟨Nat.le_of_ble_eq_true rfl, Nat.le_of_ble_eq_true rfl⟩) (kp_V (wc := [(aM, .inr (7, [.int co, .ref a1, .int (nI k), .int (nI dn), .ref a2, .ref a3, .ref a4, .ref a5, .ref a6, .int (nI xa), .int ri, .int fa, .int fq, .int bg, .long tm, .int ka, .long kb, .int va, .long vb])), (a2, .inl (c2_, 1000, .inr (.inl gk))), (a3, .inl (c3_, 1000, .inl gkb)), (a4, .inl (c4_, 1000, .inr (.inl gv))), (a5, .inl (c5_, 1000, .inl gvb)), (a6, .inl (c6_, 1000, .inl gl))]) (tc := [(c2_, .long), (c3_, .int), (c4_, .long), (c5_, .int), (c6_, .int)]) (As := [.int (nI gn), .long ((((xs (i + 2)).toInt64) <<< ((32 : Int32).toInt64 &&& 63)) ||| (((xs (i + 3)).toInt64) &&& 4294967295)), .int (xs (i + 4)), .long ((((xs (i + 5)).toInt64) <<< ((32 : Int32).toInt64 &&& 63)) ||| (((xs (i + 6)).toInt64) &&& 4294967295)), .int (xs (i + 7)), .int (xs (i + 8))]) hG hS hA hP hD hK [6, 8, 9, 10, 11, 12] rfl (by decide) rfl [4, 5, 6, 7, 8] rfl (ci := 7) (q0 := 6) rfl rfl) rfl rfl hl.1 rfl (lv_room (Nat.le_of_ble_eq_true rfl)) dc_L_law_495 ⟨by show _ ≤ 601024; omega, by show _ ≤ 7293034; omega⟩) (fun r_2 _ H locs hw hP hD hK1 hS => ?_)
    have hw : 0 = r_2 := hw.symm
    subst hw
    have hP : va_P (dC, dI) vwCl ([(aT, .inr (5, [.ref aR, .int (nI k), .int ch])), (aR, .inl (cA, n, .inl f)), (aL, .inr (0, [.int md, .ref ea, .int (nI N)])), (aQ, .inr (4, [.ref aT, .ref aK, .ref aV, .int pl, .int en, .int so, .int sa, .long ti])), (aK, .inr (3, [.int kl, .int kp])), (aV, .inr (3, [.int vl, .int vp])), (a1, .inl (c1_, 16384, .inl tp)), (aB, .inr (6, [.ref aT, .ref aF, .ref aQ, .int fk, .int fp])), (aF, .inr (1, [.ref aL, .int (nI dn), .int (nI wt), .int lt])), (aO, .inl (cJ, 1, .inr (.inl fo))), (aM, .inr (7, [.int 2, .ref a1, .int (nI k), .int (nI dn), .ref a2, .ref a3, .ref a4, .ref a5, .ref a6, .int (nI xa), .int ri, .int fa, .int fq, .int bg, .long tm, .int ka, .long kb, .int va, .long vb])), (a2, .inl (c2_, 1000, .inr (.inl (flL gk dn ((((xs (i + 2)).toInt64) <<< ((32 : Int32).toInt64 &&& 63)) ||| (((xs (i + 3)).toInt64) &&& 4294967295)) gn)))), (a3, .inl (c3_, 1000, .inl (flC gkb dn (xs (i + 4)) gn))), (a4, .inl (c4_, 1000, .inr (.inl (flL gv dn ((((xs (i + 5)).toInt64) <<< ((32 : Int32).toInt64 &&& 63)) ||| (((xs (i + 6)).toInt64) &&& 4294967295)) gn)))), (a5, .inl (c5_, 1000, .inl (flC gvb dn (xs (i + 7)) gn))), (a6, .inl (c6_, 1000, .inl (flP gl dn (xs (i + 8)) gn)))] ++ plt) H := hP
    have hD : va_D A ([(aT, .inr (5, [.ref aR, .int (nI k), .int ch])), (aR, .inl (cA, n, .inl f)), (aL, .inr (0, [.int md, .ref ea, .int (nI N)])), (aQ, .inr (4, [.ref aT, .ref aK, .ref aV, .int pl, .int en, .int so, .int sa, .long ti])), (aK, .inr (3, [.int kl, .int kp])), (aV, .inr (3, [.int vl, .int vp])), (a1, .inl (c1_, 16384, .inl tp)), (aB, .inr (6, [.ref aT, .ref aF, .ref aQ, .int fk, .int fp])), (aF, .inr (1, [.ref aL, .int (nI dn), .int (nI wt), .int lt])), (aO, .inl (cJ, 1, .inr (.inl fo))), (aM, .inr (7, [.int 2, .ref a1, .int (nI k), .int (nI dn), .ref a2, .ref a3, .ref a4, .ref a5, .ref a6, .int (nI xa), .int ri, .int fa, .int fq, .int bg, .long tm, .int ka, .long kb, .int va, .long vb])), (a2, .inl (c2_, 1000, .inr (.inl (flL gk dn ((((xs (i + 2)).toInt64) <<< ((32 : Int32).toInt64 &&& 63)) ||| (((xs (i + 3)).toInt64) &&& 4294967295)) gn)))), (a3, .inl (c3_, 1000, .inl (flC gkb dn (xs (i + 4)) gn))), (a4, .inl (c4_, 1000, .inr (.inl (flL gv dn ((((xs (i + 5)).toInt64) <<< ((32 : Int32).toInt64 &&& 63)) ||| (((xs (i + 6)).toInt64) &&& 4294967295)) gn)))), (a5, .inl (c5_, 1000, .inl (flC gvb dn (xs (i + 7)) gn))), (a6, .inl (c6_, 1000, .inl (flP gl dn (xs (i + 8)) gn)))] ++ plt) := hD
    refine lv_istore (lv' := [(6, .int 0), (5, .int 2), (4, .int (nI i)), (3, .ref aO), (2, .ref aM), (1, .ref aB), (0, .ref b)]) hx hb dc_L_law_498 hl (by decide) rfl (fun ls hl => ?_)
    refine lv_aload_n hx hb dc_L_law_500 rfl (lv_at hl 4 rfl) ?_
    refine kc_iQ (X := [(aT, .inr (5, [.ref aR, .int (nI k), .int ch])), (aR, .inl (cA, n, .inl f)), (aL, .inr (0, [.int md, .ref ea, .int (nI N)])), (aQ, .inr (4, [.ref aT, .ref aK, .ref aV, .int pl, .int en, .int so, .int sa, .long ti])), (aK, .inr (3, [.int kl, .int kp])), (aV, .inr (3, [.int vl, .int vp])), (a1, .inl (c1_, 16384, .inl tp)), (aB, .inr (6, [.ref aT, .ref aF, .ref aQ, .int fk, .int fp])), (aF, .inr (1, [.ref aL, .int (nI dn), .int (nI wt), .int lt])), (aO, .inl (cJ, 1, .inr (.inl fo))), (aM, .inr (7, [.int 2, .ref a1, .int (nI k), .int (nI dn), .ref a2, .ref a3, .ref a4, .ref a5, .ref a6, .int (nI xa), .int ri, .int fa, .int fq, .int bg, .long tm, .int ka, .long kb, .int va, .long vb])), (a2, .inl (c2_, 1000, .inr (.inl (flL gk dn ((((xs (i + 2)).toInt64) <<< ((32 : Int32).toInt64 &&& 63)) ||| (((xs (i + 3)).toInt64) &&& 4294967295)) gn)))), (a3, .inl (c3_, 1000, .inl (flC gkb dn (xs (i + 4)) gn))), (a4, .inl (c4_, 1000, .inr (.inl (flL gv dn ((((xs (i + 5)).toInt64) <<< ((32 : Int32).toInt64 &&& 63)) ||| (((xs (i + 6)).toInt64) &&& 4294967295)) gn)))), (a5, .inl (c5_, 1000, .inl (flC gvb dn (xs (i + 7)) gn))), (a6, .inl (c6_, 1000, .inl (flP gl dn (xs (i + 8)) gn)))]) (cx := [(aM, .inr (7, [.int 2, .ref a1, .int (nI k), .int (nI dn), .ref a2, .ref a3, .ref a4, .ref a5, .ref a6, .int (nI xa), .int ri, .int fa, .int fq, .int bg, .long tm, .int ka, .long kb, .int va, .long vb]))]) (wr := [(aT, .inr (5, [.ref aR, .int (nI k), .int ch])), (aR, .inl (cA, n, .inl f)), (aL, .inr (0, [.int md, .ref ea, .int (nI N)])), (aQ, .inr (4, [.ref aT, .ref aK, .ref aV, .int pl, .int en, .int so, .int sa, .long ti])), (aK, .inr (3, [.int kl, .int kp])), (aV, .inr (3, [.int vl, .int vp])), (a1, .inl (c1_, 16384, .inl tp)), (aB, .inr (6, [.ref aT, .ref aF, .ref aQ, .int fk, .int fp])), (aF, .inr (1, [.ref aL, .int (nI dn), .int (nI wt), .int lt])), (aO, .inl (cJ, 1, .inr (.inl fo))), (a2, .inl (c2_, 1000, .inr (.inl (flL gk dn ((((xs (i + 2)).toInt64) <<< ((32 : Int32).toInt64 &&& 63)) ||| (((xs (i + 3)).toInt64) &&& 4294967295)) gn)))), (a3, .inl (c3_, 1000, .inl (flC gkb dn (xs (i + 4)) gn))), (a4, .inl (c4_, 1000, .inr (.inl (flL gv dn ((((xs (i + 5)).toInt64) <<< ((32 : Int32).toInt64 &&& 63)) ||| (((xs (i + 6)).toInt64) &&& 4294967295)) gn)))), (a5, .inl (c5_, 1000, .inl (flC gvb dn (xs (i + 7)) gn))), (a6, .inl (c6_, 1000, .inl (flP gl dn (xs (i + 8)) gn)))]) (pl := plt) hP hD hS hA [10] [0, 1, 2, 3, 4, 5, 6, 7, 8, 9, 11, 12, 13, 14, 15] rfl rfl rfl (by decide) (by decide) (va_runV (As := []) (rest := []) ⟨hx, hb, hml, hown, hts⟩ (c_M_thrown l dC dI _ aM 2 a1 k dn a2 a3 a4 a5 a6 xa ri fa fq bg tm ka kb va vb ) (kw_V 0 hts bw3_219 bw3_220 bw3_221 bw1_9 bw3_222 rfl rfl (by decide +kernel) ⟨Nat.le_of_ble_eq_true rfl, Nat.le_of_ble_eq_true rfl⟩) (kp_V (wc := [(aM, .inr (7, [.int 2, .ref a1, .int (nI k), .int (nI dn), .ref a2, .ref a3, .ref a4, .ref a5, .ref a6, .int (nI xa), .int ri, .int fa, .int fq, .int bg, .long tm, .int ka, .long kb, .int va, .long vb]))]) (tc := []) (As := []) hG hS hA hP hD hK [10] rfl (by decide) rfl [] rfl (ci := 7) (q0 := 10) rfl rfl) rfl rfl hl.1 rfl (lv_room (Nat.le_of_ble_eq_true rfl)) dc_L_law_501 ⟨by show _ ≤ 601024; omega, by show _ ≤ 7293034; omega⟩) (fun r_3 _ H locs hw hP hD hK1 hS => ?_)
    have hw : 2 = r_3 := hw.symm
    subst hw
    have hP : va_P (dC, dI) vwCl ([(aT, .inr (5, [.ref aR, .int (nI k), .int ch])), (aR, .inl (cA, n, .inl f)), (aL, .inr (0, [.int md, .ref ea, .int (nI N)])), (aQ, .inr (4, [.ref aT, .ref aK, .ref aV, .int pl, .int en, .int so, .int sa, .long ti])), (aK, .inr (3, [.int kl, .int kp])), (aV, .inr (3, [.int vl, .int vp])), (a1, .inl (c1_, 16384, .inl tp)), (aB, .inr (6, [.ref aT, .ref aF, .ref aQ, .int fk, .int fp])), (aF, .inr (1, [.ref aL, .int (nI dn), .int (nI wt), .int lt])), (aO, .inl (cJ, 1, .inr (.inl fo))), (a2, .inl (c2_, 1000, .inr (.inl (flL gk dn ((((xs (i + 2)).toInt64) <<< ((32 : Int32).toInt64 &&& 63)) ||| (((xs (i + 3)).toInt64) &&& 4294967295)) gn)))), (a3, .inl (c3_, 1000, .inl (flC gkb dn (xs (i + 4)) gn))), (a4, .inl (c4_, 1000, .inr (.inl (flL gv dn ((((xs (i + 5)).toInt64) <<< ((32 : Int32).toInt64 &&& 63)) ||| (((xs (i + 6)).toInt64) &&& 4294967295)) gn)))), (a5, .inl (c5_, 1000, .inl (flC gvb dn (xs (i + 7)) gn))), (a6, .inl (c6_, 1000, .inl (flP gl dn (xs (i + 8)) gn))), (aM, .inr (7, [.int 2, .ref a1, .int (nI k), .int (nI dn), .ref a2, .ref a3, .ref a4, .ref a5, .ref a6, .int (nI xa), .int ri, .int fa, .int fq, .int bg, .long tm, .int ka, .long kb, .int va, .long vb]))] ++ plt) H := hP
    have hD : va_D A ([(aT, .inr (5, [.ref aR, .int (nI k), .int ch])), (aR, .inl (cA, n, .inl f)), (aL, .inr (0, [.int md, .ref ea, .int (nI N)])), (aQ, .inr (4, [.ref aT, .ref aK, .ref aV, .int pl, .int en, .int so, .int sa, .long ti])), (aK, .inr (3, [.int kl, .int kp])), (aV, .inr (3, [.int vl, .int vp])), (a1, .inl (c1_, 16384, .inl tp)), (aB, .inr (6, [.ref aT, .ref aF, .ref aQ, .int fk, .int fp])), (aF, .inr (1, [.ref aL, .int (nI dn), .int (nI wt), .int lt])), (aO, .inl (cJ, 1, .inr (.inl fo))), (a2, .inl (c2_, 1000, .inr (.inl (flL gk dn ((((xs (i + 2)).toInt64) <<< ((32 : Int32).toInt64 &&& 63)) ||| (((xs (i + 3)).toInt64) &&& 4294967295)) gn)))), (a3, .inl (c3_, 1000, .inl (flC gkb dn (xs (i + 4)) gn))), (a4, .inl (c4_, 1000, .inr (.inl (flL gv dn ((((xs (i + 5)).toInt64) <<< ((32 : Int32).toInt64 &&& 63)) ||| (((xs (i + 6)).toInt64) &&& 4294967295)) gn)))), (a5, .inl (c5_, 1000, .inl (flC gvb dn (xs (i + 7)) gn))), (a6, .inl (c6_, 1000, .inl (flP gl dn (xs (i + 8)) gn))), (aM, .inr (7, [.int 2, .ref a1, .int (nI k), .int (nI dn), .ref a2, .ref a3, .ref a4, .ref a5, .ref a6, .int (nI xa), .int ri, .int fa, .int fq, .int bg, .long tm, .int ka, .long kb, .int va, .long vb]))] ++ plt) := hD
    refine lv_iload hx hb dc_L_law_504 (lv_at hl 1 rfl) ?_
    refine lv_icmp_eq (tgt := 511) hx hb dc_L_law_506 (by decide) (fun c_4 => ?_) (fun c_4 => ?_)
    · refine lv_iload hx hb dc_L_law_511 (lv_at hl 1 rfl) ?_
      refine lv_if_ne (tgt := 528) hx hb dc_L_law_513 (by decide) (fun c_5 => ?_) (fun c_5 => ?_)
      · refine lv_goto (tgt := 949) hx hb dc_L_law_528 (by decide) ?_
        have hP9 := hP.part (cx := [(aB, .inr (6, [.ref aT, .ref aF, .ref aQ, .int fk, .int fp])), (aT, .inr (5, [.ref aR, .int (nI k), .int ch])), (aR, .inl (cA, n, .inl f)), (aF, .inr (1, [.ref aL, .int (nI dn), .int (nI wt), .int lt])), (aL, .inr (0, [.int md, .ref ea, .int (nI N)])), (aQ, .inr (4, [.ref aT, .ref aK, .ref aV, .int pl, .int en, .int so, .int sa, .long ti])), (aK, .inr (3, [.int kl, .int kp])), (aV, .inr (3, [.int vl, .int vp])), (aO, .inl (cJ, 1, .inr (.inl fo))), (aM, .inr (7, [.int 2, .ref a1, .int (nI k), .int (nI dn), .ref a2, .ref a3, .ref a4, .ref a5, .ref a6, .int (nI xa), .int ri, .int fa, .int fq, .int bg, .long tm, .int ka, .long kb, .int va, .long vb])), (a1, .inl (c1_, 16384, .inl tp)), (a2, .inl (c2_, 1000, .inr (.inl (flL gk dn ((((xs (i + 2)).toInt64) <<< ((32 : Int32).toInt64 &&& 63)) ||| (((xs (i + 3)).toInt64) &&& 4294967295)) gn)))), (a3, .inl (c3_, 1000, .inl (flC gkb dn (xs (i + 4)) gn))), (a4, .inl (c4_, 1000, .inr (.inl (flL gv dn ((((xs (i + 5)).toInt64) <<< ((32 : Int32).toInt64 &&& 63)) ||| (((xs (i + 6)).toInt64) &&& 4294967295)) gn)))), (a5, .inl (c5_, 1000, .inl (flC gvb dn (xs (i + 7)) gn))), (a6, .inl (c6_, 1000, .inl (flP gl dn (xs (i + 8)) gn)))]) (pl := plt) [7, 0, 1, 8, 2, 3, 4, 5, 9, 15, 6, 10, 11, 12, 13, 14] rfl
        have hD9 := hD.part (cx := [(aB, .inr (6, [.ref aT, .ref aF, .ref aQ, .int fk, .int fp])), (aT, .inr (5, [.ref aR, .int (nI k), .int ch])), (aR, .inl (cA, n, .inl f)), (aF, .inr (1, [.ref aL, .int (nI dn), .int (nI wt), .int lt])), (aL, .inr (0, [.int md, .ref ea, .int (nI N)])), (aQ, .inr (4, [.ref aT, .ref aK, .ref aV, .int pl, .int en, .int so, .int sa, .long ti])), (aK, .inr (3, [.int kl, .int kp])), (aV, .inr (3, [.int vl, .int vp])), (aO, .inl (cJ, 1, .inr (.inl fo))), (aM, .inr (7, [.int 2, .ref a1, .int (nI k), .int (nI dn), .ref a2, .ref a3, .ref a4, .ref a5, .ref a6, .int (nI xa), .int ri, .int fa, .int fq, .int bg, .long tm, .int ka, .long kb, .int va, .long vb])), (a1, .inl (c1_, 16384, .inl tp)), (a2, .inl (c2_, 1000, .inr (.inl (flL gk dn ((((xs (i + 2)).toInt64) <<< ((32 : Int32).toInt64 &&& 63)) ||| (((xs (i + 3)).toInt64) &&& 4294967295)) gn)))), (a3, .inl (c3_, 1000, .inl (flC gkb dn (xs (i + 4)) gn))), (a4, .inl (c4_, 1000, .inr (.inl (flL gv dn ((((xs (i + 5)).toInt64) <<< ((32 : Int32).toInt64 &&& 63)) ||| (((xs (i + 6)).toInt64) &&& 4294967295)) gn)))), (a5, .inl (c5_, 1000, .inl (flC gvb dn (xs (i + 7)) gn))), (a6, .inl (c6_, 1000, .inl (flP gl dn (xs (i + 8)) gn)))]) (pl := plt) [7, 0, 1, 8, 2, 3, 4, 5, 9, 15, 6, 10, 11, 12, 13, 14] (by decide) rfl
        have hK9 := hK.sub (tys' := [(cA, .byte), (cO, .object "java/lang/Object"), (cJ, .long), (c1_, .int), (c2_, .long), (c3_, .int), (c4_, .long), (c5_, .int), (c6_, .int)]) [0, 1, 2, 3, 4, 5, 6, 7, 8] rfl
        exact W.widen (k := CN (i + 9)) (n := SN (i + 9) n ln) (by unfold CN; omega) (by unfold SN; omega) (KK n ln _ _ _ (INV_mk hP9 hD9 hK9 (r1) (r2) (r3) (r4) (r5) (rd_cong ⟨e1, e2, e3, e4, e5, e6, e7, e8, e9, e10⟩ (fun q hq => flC_old hq _) (fun q hq => flC_old hq _) (fun q hq => flP_old hq _) (fun q hq => flL_old hq _) (fun q hq => flL_old hq _)) (r7) (r8)) hS (lv_sub hl [2, 3, 4, 5, 6] rfl))
      · exact absurd c_5 (by decide)
    · exact absurd (by decide) c_4
  · obtain ⟨⟨gn, hg1, hg2, hge⟩, hr1, hr2, hr3, hr4, hr5, hr6⟩ := rec_yes hbad
    obtain ⟨e1, e2, e3, e4, e5, e6, e7, e8, e9, e10⟩ := r6
    have hNd := gnum_ge e7
    rw [hge, nI_clamp (by omega)] at hroom hlt
    have hwg := wt_gw (kf := gkb) (vf := gvb) (df := gl) (kb := xs (i + 4)) (vb := xs (i + 7)) (la := xs (i + 8)) (dn := dn) gn
    rw [← e3] at hwg
    obtain ⟨q1, q2⟩ := ls_cap r7
    obtain ⟨l1, l2, l3, l4⟩ := lg_ph q1 q2 (by omega) r8
    refine lv_aload_n hx hb dc_L_law_345 rfl (lv_at hl 3 rfl) ?_
    refine lv_aload_n hx hb dc_L_law_346 rfl (lv_at hl 4 rfl) ?_
    refine lv_iload hx hb dc_L_law_347 (lv_at hl 0 rfl) ?_
    refine lv_iconst (v := 1) hx hb dc_L_law_349 (by decide) ?_
    refine lv_iadd hx hb dc_L_law_350 ?_
    refine W.eq (g2 := F0 m 351 ls [.int (nI (i + 1)), .ref b, .ref aB]) (by rw [show nI i + 1 = nI (i + 1) from nI_add i 1]) ?_
    refine va_sld hx hb hX hbl hbA hS (vp_in_nI (by omega) (by omega)) dc_L_law_351 ?_
    rw [show (nI (i + 1)).toNatClampNeg = i + 1 from nI_clamp (by omega)]
    refine lv_aload_n hx hb dc_L_law_352 rfl (lv_at hl 4 rfl) ?_
    refine lv_iload hx hb dc_L_law_353 (lv_at hl 0 rfl) ?_
    refine lv_iconst (v := 2) hx hb dc_L_law_355 (by decide) ?_
    refine lv_iadd hx hb dc_L_law_356 ?_
    refine W.eq (g2 := F0 m 357 ls [.int (nI (i + 2)), .ref b, .int (xs (i + 1)), .ref aB]) (by rw [show nI i + 2 = nI (i + 2) from nI_add i 2]) ?_
    refine va_sld hx hb hX hbl hbA hS (vp_in_nI (by omega) (by omega)) dc_L_law_357 ?_
    rw [show (nI (i + 2)).toNatClampNeg = i + 2 from nI_clamp (by omega)]
    refine lv_i2l (v := (xs (i + 2)).toInt64) hx hb dc_L_law_358 rfl ?_
    refine lv_bipush (v := 32) hx hb dc_L_law_359 (by decide) ?_
    refine lv_lshl (v := ((xs (i + 2)).toInt64) <<< ((32 : Int32).toInt64 &&& 63)) hx hb dc_L_law_361 rfl ?_
    refine lv_aload_n hx hb dc_L_law_362 rfl (lv_at hl 4 rfl) ?_
    refine lv_iload hx hb dc_L_law_363 (lv_at hl 0 rfl) ?_
    refine lv_iconst (v := 3) hx hb dc_L_law_365 (by decide) ?_
    refine lv_iadd hx hb dc_L_law_366 ?_
    refine W.eq (g2 := F0 m 367 ls [.int (nI (i + 3)), .ref b, .long (((xs (i + 2)).toInt64) <<< ((32 : Int32).toInt64 &&& 63)), .int (xs (i + 1)), .ref aB]) (by rw [show nI i + 3 = nI (i + 3) from nI_add i 3]) ?_
    refine va_sld hx hb hX hbl hbA hS (vp_in_nI (by omega) (by omega)) dc_L_law_367 ?_
    rw [show (nI (i + 3)).toNatClampNeg = i + 3 from nI_clamp (by omega)]
    refine lv_i2l (v := (xs (i + 3)).toInt64) hx hb dc_L_law_368 rfl ?_
    refine lv_ldc2 (v := 4294967295) hx hb hown (hts _ bw4_114) dc_L_law_369 ?_
    refine lv_land hx hb dc_L_law_372 ?_
    refine lv_lor hx hb dc_L_law_373 ?_
    refine lv_aload_n hx hb dc_L_law_374 rfl (lv_at hl 4 rfl) ?_
    refine lv_iload hx hb dc_L_law_375 (lv_at hl 0 rfl) ?_
    refine lv_iconst (v := 4) hx hb dc_L_law_377 (by decide) ?_
    refine lv_iadd hx hb dc_L_law_378 ?_
    refine W.eq (g2 := F0 m 379 ls [.int (nI (i + 4)), .ref b, .long ((((xs (i + 2)).toInt64) <<< ((32 : Int32).toInt64 &&& 63)) ||| (((xs (i + 3)).toInt64) &&& 4294967295)), .int (xs (i + 1)), .ref aB]) (by rw [show nI i + 4 = nI (i + 4) from nI_add i 4]) ?_
    refine va_sld hx hb hX hbl hbA hS (vp_in_nI (by omega) (by omega)) dc_L_law_379 ?_
    rw [show (nI (i + 4)).toNatClampNeg = i + 4 from nI_clamp (by omega)]
    refine lv_aload_n hx hb dc_L_law_380 rfl (lv_at hl 4 rfl) ?_
    refine lv_iload hx hb dc_L_law_381 (lv_at hl 0 rfl) ?_
    refine lv_iconst (v := 5) hx hb dc_L_law_383 (by decide) ?_
    refine lv_iadd hx hb dc_L_law_384 ?_
    refine W.eq (g2 := F0 m 385 ls [.int (nI (i + 5)), .ref b, .int (xs (i + 4)), .long ((((xs (i + 2)).toInt64) <<< ((32 : Int32).toInt64 &&& 63)) ||| (((xs (i + 3)).toInt64) &&& 4294967295)), .int (xs (i + 1)), .ref aB]) (by rw [show nI i + 5 = nI (i + 5) from nI_add i 5]) ?_
    refine va_sld hx hb hX hbl hbA hS (vp_in_nI (by omega) (by omega)) dc_L_law_385 ?_
    rw [show (nI (i + 5)).toNatClampNeg = i + 5 from nI_clamp (by omega)]
    refine lv_i2l (v := (xs (i + 5)).toInt64) hx hb dc_L_law_386 rfl ?_
    refine lv_bipush (v := 32) hx hb dc_L_law_387 (by decide) ?_
    refine lv_lshl (v := ((xs (i + 5)).toInt64) <<< ((32 : Int32).toInt64 &&& 63)) hx hb dc_L_law_389 rfl ?_
    refine lv_aload_n hx hb dc_L_law_390 rfl (lv_at hl 4 rfl) ?_
    refine lv_iload hx hb dc_L_law_391 (lv_at hl 0 rfl) ?_
    refine lv_bipush (v := 6) hx hb dc_L_law_393 (by decide) ?_
    refine lv_iadd hx hb dc_L_law_395 ?_
    refine W.eq (g2 := F0 m 396 ls [.int (nI (i + 6)), .ref b, .long (((xs (i + 5)).toInt64) <<< ((32 : Int32).toInt64 &&& 63)), .int (xs (i + 4)), .long ((((xs (i + 2)).toInt64) <<< ((32 : Int32).toInt64 &&& 63)) ||| (((xs (i + 3)).toInt64) &&& 4294967295)), .int (xs (i + 1)), .ref aB]) (by rw [show nI i + 6 = nI (i + 6) from nI_add i 6]) ?_
    refine va_sld hx hb hX hbl hbA hS (vp_in_nI (by omega) (by omega)) dc_L_law_396 ?_
    rw [show (nI (i + 6)).toNatClampNeg = i + 6 from nI_clamp (by omega)]
    refine lv_i2l (v := (xs (i + 6)).toInt64) hx hb dc_L_law_397 rfl ?_
    refine lv_ldc2 (v := 4294967295) hx hb hown (hts _ bw4_114) dc_L_law_398 ?_
    refine lv_land hx hb dc_L_law_401 ?_
    refine lv_lor hx hb dc_L_law_402 ?_
    refine lv_aload_n hx hb dc_L_law_403 rfl (lv_at hl 4 rfl) ?_
    refine lv_iload hx hb dc_L_law_404 (lv_at hl 0 rfl) ?_
    refine lv_bipush (v := 7) hx hb dc_L_law_406 (by decide) ?_
    refine lv_iadd hx hb dc_L_law_408 ?_
    refine W.eq (g2 := F0 m 409 ls [.int (nI (i + 7)), .ref b, .long ((((xs (i + 5)).toInt64) <<< ((32 : Int32).toInt64 &&& 63)) ||| (((xs (i + 6)).toInt64) &&& 4294967295)), .int (xs (i + 4)), .long ((((xs (i + 2)).toInt64) <<< ((32 : Int32).toInt64 &&& 63)) ||| (((xs (i + 3)).toInt64) &&& 4294967295)), .int (xs (i + 1)), .ref aB]) (by rw [show nI i + 7 = nI (i + 7) from nI_add i 7]) ?_
    refine va_sld hx hb hX hbl hbA hS (vp_in_nI (by omega) (by omega)) dc_L_law_409 ?_
    rw [show (nI (i + 7)).toNatClampNeg = i + 7 from nI_clamp (by omega)]
    refine lv_aload_n hx hb dc_L_law_410 rfl (lv_at hl 4 rfl) ?_
    refine lv_iload hx hb dc_L_law_411 (lv_at hl 0 rfl) ?_
    refine lv_bipush (v := 8) hx hb dc_L_law_413 (by decide) ?_
    refine lv_iadd hx hb dc_L_law_415 ?_
    refine W.eq (g2 := F0 m 416 ls [.int (nI (i + 8)), .ref b, .int (xs (i + 7)), .long ((((xs (i + 5)).toInt64) <<< ((32 : Int32).toInt64 &&& 63)) ||| (((xs (i + 6)).toInt64) &&& 4294967295)), .int (xs (i + 4)), .long ((((xs (i + 2)).toInt64) <<< ((32 : Int32).toInt64 &&& 63)) ||| (((xs (i + 3)).toInt64) &&& 4294967295)), .int (xs (i + 1)), .ref aB]) (by rw [show nI i + 8 = nI (i + 8) from nI_add i 8]) ?_
    refine va_sld hx hb hX hbl hbA hS (vp_in_nI (by omega) (by omega)) dc_L_law_416 ?_
    rw [show (nI (i + 8)).toNatClampNeg = i + 8 from nI_clamp (by omega)]
    refine lv_aload_n hx hb dc_L_law_417 rfl (lv_at hl 1 rfl) ?_
    refine W.eq (g2 := F0 m 418 ls [.ref aO, .int (xs (i + 8)), .int (xs (i + 7)), .long ((((xs (i + 5)).toInt64) <<< ((32 : Int32).toInt64 &&& 63)) ||| (((xs (i + 6)).toInt64) &&& 4294967295)), .int (xs (i + 4)), .long ((((xs (i + 2)).toInt64) <<< ((32 : Int32).toInt64 &&& 63)) ||| (((xs (i + 3)).toInt64) &&& 4294967295)), .int (nI gn), .ref aB]) (by rw [show (xs (i + 1)) = (nI gn) by exact hge]) ?_
    refine kc_iP (X := [(aB, .inr (6, [.ref aT, .ref aF, .ref aQ, .int fk, .int fp])), (aT, .inr (5, [.ref aR, .int (nI k), .int ch])), (aR, .inl (cA, n, .inl f)), (aF, .inr (1, [.ref aL, .int (nI dn), .int (nI wt), .int lt])), (aL, .inr (0, [.int md, .ref ea, .int (nI N)])), (aQ, .inr (4, [.ref aT, .ref aK, .ref aV, .int pl, .int en, .int so, .int sa, .long ti])), (aK, .inr (3, [.int kl, .int kp])), (aV, .inr (3, [.int vl, .int vp])), (aO, .inl (cJ, 1, .inr (.inl fo))), (aM, .inr (7, [.int co, .ref a1, .int (nI k), .int (nI dn), .ref a2, .ref a3, .ref a4, .ref a5, .ref a6, .int (nI xa), .int ri, .int fa, .int fq, .int bg, .long tm, .int ka, .long kb, .int va, .long vb])), (a1, .inl (c1_, 16384, .inl tp)), (a2, .inl (c2_, 1000, .inr (.inl gk))), (a3, .inl (c3_, 1000, .inl gkb)), (a4, .inl (c4_, 1000, .inr (.inl gv))), (a5, .inl (c5_, 1000, .inl gvb)), (a6, .inl (c6_, 1000, .inl gl))]) (cx := [(aB, .inr (6, [.ref aT, .ref aF, .ref aQ, .int fk, .int fp])), (aF, .inr (1, [.ref aL, .int (nI dn), .int (nI wt), .int lt])), (aL, .inr (0, [.int md, .ref ea, .int (nI N)])), (aO, .inl (cJ, 1, .inr (.inl fo)))]) (wr := [(aT, .inr (5, [.ref aR, .int (nI k), .int ch])), (aR, .inl (cA, n, .inl f)), (aQ, .inr (4, [.ref aT, .ref aK, .ref aV, .int pl, .int en, .int so, .int sa, .long ti])), (aK, .inr (3, [.int kl, .int kp])), (aV, .inr (3, [.int vl, .int vp])), (aM, .inr (7, [.int co, .ref a1, .int (nI k), .int (nI dn), .ref a2, .ref a3, .ref a4, .ref a5, .ref a6, .int (nI xa), .int ri, .int fa, .int fq, .int bg, .long tm, .int ka, .long kb, .int va, .long vb])), (a1, .inl (c1_, 16384, .inl tp)), (a2, .inl (c2_, 1000, .inr (.inl gk))), (a3, .inl (c3_, 1000, .inl gkb)), (a4, .inl (c4_, 1000, .inr (.inl gv))), (a5, .inl (c5_, 1000, .inl gvb)), (a6, .inl (c6_, 1000, .inl gl))]) (pl := plt) hP hD hS hA [0, 3, 4, 8] [1, 2, 5, 6, 7, 9, 10, 11, 12, 13, 14, 15] rfl rfl (by decide) (by decide) (vx_runSW (As := [.ref aB, .int (nI gn), .long ((((xs (i + 2)).toInt64) <<< ((32 : Int32).toInt64 &&& 63)) ||| (((xs (i + 3)).toInt64) &&& 4294967295)), .int (xs (i + 4)), .long ((((xs (i + 5)).toInt64) <<< ((32 : Int32).toInt64 &&& 63)) ||| (((xs (i + 6)).toInt64) &&& 4294967295)), .int (xs (i + 7)), .int (xs (i + 8)), .ref aO]) (rest := []) ⟨hx, hb, hml, hown, hts⟩ (c_L_record_ok l dC dI _ eE aB aT aQ fk fp aF aL dn wt lt md ea N cO ln gs plt gn ((((xs (i + 2)).toInt64) <<< ((32 : Int32).toInt64 &&& 63)) ||| (((xs (i + 3)).toInt64) &&& 4294967295)) (xs (i + 4)) ((((xs (i + 5)).toInt64) <<< ((32 : Int32).toInt64 &&& 63)) ||| (((xs (i + 6)).toInt64) &&& 4294967295)) (xs (i + 7)) (xs (i + 8)) aO cJ fo (hg1) (hg2) (hr1) (hr2) (hr3) (hr4) (hr5) (hr6) (hroom) (hlt) (r7) (by omega)) (kw_SW 8 hts bw2_115 bw2_116 bw1_0 bw2_117 rfl rfl (by decide +kernel) ⟨Nat.le_of_ble_eq_true rfl, Nat.le_of_ble_eq_true rfl⟩) (kp_SPE (cx := [(aB, .inr (6, [.ref aT, .ref aF, .ref aQ, .int fk, .int fp])), (aF, .inr (1, [.ref aL, .int (nI dn), .int (nI wt), .int lt])), (aL, .inr (0, [.int md, .ref ea, .int (nI N)])), (aO, .inl (cJ, 1, .inr (.inl fo)))]) (pl := plt) (tc := [(cO, .object "java/lang/Object"), (cJ, .long)]) (av := [.ref aB, .int (nI gn), .long ((((xs (i + 2)).toInt64) <<< ((32 : Int32).toInt64 &&& 63)) ||| (((xs (i + 3)).toInt64) &&& 4294967295)), .int (xs (i + 4)), .long ((((xs (i + 5)).toInt64) <<< ((32 : Int32).toInt64 &&& 63)) ||| (((xs (i + 6)).toInt64) &&& 4294967295)), .int (xs (i + 7)), .int (xs (i + 8)), .ref aO]) hE hG hS hA hP hD hK [0, 3, 4, 8] (by decide) rfl [1, 2] rfl) rfl rfl hl.1 rfl (lv_room (Nat.le_of_ble_eq_true rfl)) dc_L_law_418 ⟨by show _ ≤ 601024; omega, by show _ ≤ 7293034; omega⟩) (fun r_3 u_4 H locs hw hP hD hK1 hS => ?_)
    obtain ⟨pl1_1, ea1_2⟩ := u_4
    obtain ⟨rfl, h_5⟩ := hw
    have h_5 : LSx eE pl1_1 ea1_2 (N + 1) (lgN N ln) cO (va_up gs N (gn, ((((xs (i + 2)).toInt64) <<< ((32 : Int32).toInt64 &&& 63)) ||| (((xs (i + 3)).toInt64) &&& 4294967295)), (xs (i + 4)), ((((xs (i + 5)).toInt64) <<< ((32 : Int32).toInt64 &&& 63)) ||| (((xs (i + 6)).toInt64) &&& 4294967295)), (xs (i + 7)), (xs (i + 8)))) := h_5
    have hP : va_P (dC, dI) vwCl ([(aT, .inr (5, [.ref aR, .int (nI k), .int ch])), (aR, .inl (cA, n, .inl f)), (aQ, .inr (4, [.ref aT, .ref aK, .ref aV, .int pl, .int en, .int so, .int sa, .long ti])), (aK, .inr (3, [.int kl, .int kp])), (aV, .inr (3, [.int vl, .int vp])), (aM, .inr (7, [.int co, .ref a1, .int (nI k), .int (nI dn), .ref a2, .ref a3, .ref a4, .ref a5, .ref a6, .int (nI xa), .int ri, .int fa, .int fq, .int bg, .long tm, .int ka, .long kb, .int va, .long vb])), (a1, .inl (c1_, 16384, .inl tp)), (a2, .inl (c2_, 1000, .inr (.inl gk))), (a3, .inl (c3_, 1000, .inl gkb)), (a4, .inl (c4_, 1000, .inr (.inl gv))), (a5, .inl (c5_, 1000, .inl gvb)), (a6, .inl (c6_, 1000, .inl gl)), (aB, .inr (6, [.ref aT, .ref aF, .ref aQ, .int fk, .int fp])), (aF, .inr (1, [.ref aL, .int (nI (dn + gn)), .int (nI (wt + gwN (xs (i + 4)) (xs (i + 7)) (xs (i + 8)) dn gn)), .int (if lt < (xs (i + 8)) + nI gn - 1 then (xs (i + 8)) + nI gn - 1 else lt)])), (aL, .inr (0, [.int (md + 1), .ref ea1_2, .int (nI (N + 1))])), (aO, .inl (cJ, 1, .inr (.inl (vp_updL fo 0 ((nI (dn + gn)).toInt64)))))] ++ pl1_1) H := hP
    have hD : va_D A ([(aT, .inr (5, [.ref aR, .int (nI k), .int ch])), (aR, .inl (cA, n, .inl f)), (aQ, .inr (4, [.ref aT, .ref aK, .ref aV, .int pl, .int en, .int so, .int sa, .long ti])), (aK, .inr (3, [.int kl, .int kp])), (aV, .inr (3, [.int vl, .int vp])), (aM, .inr (7, [.int co, .ref a1, .int (nI k), .int (nI dn), .ref a2, .ref a3, .ref a4, .ref a5, .ref a6, .int (nI xa), .int ri, .int fa, .int fq, .int bg, .long tm, .int ka, .long kb, .int va, .long vb])), (a1, .inl (c1_, 16384, .inl tp)), (a2, .inl (c2_, 1000, .inr (.inl gk))), (a3, .inl (c3_, 1000, .inl gkb)), (a4, .inl (c4_, 1000, .inr (.inl gv))), (a5, .inl (c5_, 1000, .inl gvb)), (a6, .inl (c6_, 1000, .inl gl)), (aB, .inr (6, [.ref aT, .ref aF, .ref aQ, .int fk, .int fp])), (aF, .inr (1, [.ref aL, .int (nI (dn + gn)), .int (nI (wt + gwN (xs (i + 4)) (xs (i + 7)) (xs (i + 8)) dn gn)), .int (if lt < (xs (i + 8)) + nI gn - 1 then (xs (i + 8)) + nI gn - 1 else lt)])), (aL, .inr (0, [.int (md + 1), .ref ea1_2, .int (nI (N + 1))])), (aO, .inl (cJ, 1, .inr (.inl (vp_updL fo 0 ((nI (dn + gn)).toInt64)))))] ++ pl1_1) := hD
    refine lv_istore (lv' := [(5, .int 0), (4, .int (nI i)), (3, .ref aO), (2, .ref aM), (1, .ref aB), (0, .ref b)]) hx hb dc_L_law_421 hl (by decide) rfl (fun ls hl => ?_)
    refine lv_aload_n hx hb dc_L_law_423 rfl (lv_at hl 3 rfl) ?_
    refine lv_aload_n hx hb dc_L_law_424 rfl (lv_at hl 5 rfl) ?_
    refine lv_iload hx hb dc_L_law_425 (lv_at hl 1 rfl) ?_
    refine lv_iconst (v := 1) hx hb dc_L_law_427 (by decide) ?_
    refine lv_iadd hx hb dc_L_law_428 ?_
    refine W.eq (g2 := F0 m 429 ls [.int (nI (i + 1)), .ref b, .ref aM]) (by rw [show nI i + 1 = nI (i + 1) from nI_add i 1]) ?_
    refine va_sld hx hb hX hbl hbA hS (vp_in_nI (by omega) (by omega)) dc_L_law_429 ?_
    rw [show (nI (i + 1)).toNatClampNeg = i + 1 from nI_clamp (by omega)]
    refine lv_aload_n hx hb dc_L_law_430 rfl (lv_at hl 5 rfl) ?_
    refine lv_iload hx hb dc_L_law_431 (lv_at hl 1 rfl) ?_
    refine lv_iconst (v := 2) hx hb dc_L_law_433 (by decide) ?_
    refine lv_iadd hx hb dc_L_law_434 ?_
    refine W.eq (g2 := F0 m 435 ls [.int (nI (i + 2)), .ref b, .int (xs (i + 1)), .ref aM]) (by rw [show nI i + 2 = nI (i + 2) from nI_add i 2]) ?_
    refine va_sld hx hb hX hbl hbA hS (vp_in_nI (by omega) (by omega)) dc_L_law_435 ?_
    rw [show (nI (i + 2)).toNatClampNeg = i + 2 from nI_clamp (by omega)]
    refine lv_i2l (v := (xs (i + 2)).toInt64) hx hb dc_L_law_436 rfl ?_
    refine lv_bipush (v := 32) hx hb dc_L_law_437 (by decide) ?_
    refine lv_lshl (v := ((xs (i + 2)).toInt64) <<< ((32 : Int32).toInt64 &&& 63)) hx hb dc_L_law_439 rfl ?_
    refine lv_aload_n hx hb dc_L_law_440 rfl (lv_at hl 5 rfl) ?_
    refine lv_iload hx hb dc_L_law_441 (lv_at hl 1 rfl) ?_
    refine lv_iconst (v := 3) hx hb dc_L_law_443 (by decide) ?_
    refine lv_iadd hx hb dc_L_law_444 ?_
    refine W.eq (g2 := F0 m 445 ls [.int (nI (i + 3)), .ref b, .long (((xs (i + 2)).toInt64) <<< ((32 : Int32).toInt64 &&& 63)), .int (xs (i + 1)), .ref aM]) (by rw [show nI i + 3 = nI (i + 3) from nI_add i 3]) ?_
    refine va_sld hx hb hX hbl hbA hS (vp_in_nI (by omega) (by omega)) dc_L_law_445 ?_
    rw [show (nI (i + 3)).toNatClampNeg = i + 3 from nI_clamp (by omega)]
    refine lv_i2l (v := (xs (i + 3)).toInt64) hx hb dc_L_law_446 rfl ?_
    refine lv_ldc2 (v := 4294967295) hx hb hown (hts _ bw4_114) dc_L_law_447 ?_
    refine lv_land hx hb dc_L_law_450 ?_
    refine lv_lor hx hb dc_L_law_451 ?_
    refine lv_aload_n hx hb dc_L_law_452 rfl (lv_at hl 5 rfl) ?_
    refine lv_iload hx hb dc_L_law_453 (lv_at hl 1 rfl) ?_
    refine lv_iconst (v := 4) hx hb dc_L_law_455 (by decide) ?_
    refine lv_iadd hx hb dc_L_law_456 ?_
    refine W.eq (g2 := F0 m 457 ls [.int (nI (i + 4)), .ref b, .long ((((xs (i + 2)).toInt64) <<< ((32 : Int32).toInt64 &&& 63)) ||| (((xs (i + 3)).toInt64) &&& 4294967295)), .int (xs (i + 1)), .ref aM]) (by rw [show nI i + 4 = nI (i + 4) from nI_add i 4]) ?_
    refine va_sld hx hb hX hbl hbA hS (vp_in_nI (by omega) (by omega)) dc_L_law_457 ?_
    rw [show (nI (i + 4)).toNatClampNeg = i + 4 from nI_clamp (by omega)]
    refine lv_aload_n hx hb dc_L_law_458 rfl (lv_at hl 5 rfl) ?_
    refine lv_iload hx hb dc_L_law_459 (lv_at hl 1 rfl) ?_
    refine lv_iconst (v := 5) hx hb dc_L_law_461 (by decide) ?_
    refine lv_iadd hx hb dc_L_law_462 ?_
    refine W.eq (g2 := F0 m 463 ls [.int (nI (i + 5)), .ref b, .int (xs (i + 4)), .long ((((xs (i + 2)).toInt64) <<< ((32 : Int32).toInt64 &&& 63)) ||| (((xs (i + 3)).toInt64) &&& 4294967295)), .int (xs (i + 1)), .ref aM]) (by rw [show nI i + 5 = nI (i + 5) from nI_add i 5]) ?_
    refine va_sld hx hb hX hbl hbA hS (vp_in_nI (by omega) (by omega)) dc_L_law_463 ?_
    rw [show (nI (i + 5)).toNatClampNeg = i + 5 from nI_clamp (by omega)]
    refine lv_i2l (v := (xs (i + 5)).toInt64) hx hb dc_L_law_464 rfl ?_
    refine lv_bipush (v := 32) hx hb dc_L_law_465 (by decide) ?_
    refine lv_lshl (v := ((xs (i + 5)).toInt64) <<< ((32 : Int32).toInt64 &&& 63)) hx hb dc_L_law_467 rfl ?_
    refine lv_aload_n hx hb dc_L_law_468 rfl (lv_at hl 5 rfl) ?_
    refine lv_iload hx hb dc_L_law_469 (lv_at hl 1 rfl) ?_
    refine lv_bipush (v := 6) hx hb dc_L_law_471 (by decide) ?_
    refine lv_iadd hx hb dc_L_law_473 ?_
    refine W.eq (g2 := F0 m 474 ls [.int (nI (i + 6)), .ref b, .long (((xs (i + 5)).toInt64) <<< ((32 : Int32).toInt64 &&& 63)), .int (xs (i + 4)), .long ((((xs (i + 2)).toInt64) <<< ((32 : Int32).toInt64 &&& 63)) ||| (((xs (i + 3)).toInt64) &&& 4294967295)), .int (xs (i + 1)), .ref aM]) (by rw [show nI i + 6 = nI (i + 6) from nI_add i 6]) ?_
    refine va_sld hx hb hX hbl hbA hS (vp_in_nI (by omega) (by omega)) dc_L_law_474 ?_
    rw [show (nI (i + 6)).toNatClampNeg = i + 6 from nI_clamp (by omega)]
    refine lv_i2l (v := (xs (i + 6)).toInt64) hx hb dc_L_law_475 rfl ?_
    refine lv_ldc2 (v := 4294967295) hx hb hown (hts _ bw4_114) dc_L_law_476 ?_
    refine lv_land hx hb dc_L_law_479 ?_
    refine lv_lor hx hb dc_L_law_480 ?_
    refine lv_aload_n hx hb dc_L_law_481 rfl (lv_at hl 5 rfl) ?_
    refine lv_iload hx hb dc_L_law_482 (lv_at hl 1 rfl) ?_
    refine lv_bipush (v := 7) hx hb dc_L_law_484 (by decide) ?_
    refine lv_iadd hx hb dc_L_law_486 ?_
    refine W.eq (g2 := F0 m 487 ls [.int (nI (i + 7)), .ref b, .long ((((xs (i + 5)).toInt64) <<< ((32 : Int32).toInt64 &&& 63)) ||| (((xs (i + 6)).toInt64) &&& 4294967295)), .int (xs (i + 4)), .long ((((xs (i + 2)).toInt64) <<< ((32 : Int32).toInt64 &&& 63)) ||| (((xs (i + 3)).toInt64) &&& 4294967295)), .int (xs (i + 1)), .ref aM]) (by rw [show nI i + 7 = nI (i + 7) from nI_add i 7]) ?_
    refine va_sld hx hb hX hbl hbA hS (vp_in_nI (by omega) (by omega)) dc_L_law_487 ?_
    rw [show (nI (i + 7)).toNatClampNeg = i + 7 from nI_clamp (by omega)]
    refine lv_aload_n hx hb dc_L_law_488 rfl (lv_at hl 5 rfl) ?_
    refine lv_iload hx hb dc_L_law_489 (lv_at hl 1 rfl) ?_
    refine lv_bipush (v := 8) hx hb dc_L_law_491 (by decide) ?_
    refine lv_iadd hx hb dc_L_law_493 ?_
    refine W.eq (g2 := F0 m 494 ls [.int (nI (i + 8)), .ref b, .int (xs (i + 7)), .long ((((xs (i + 5)).toInt64) <<< ((32 : Int32).toInt64 &&& 63)) ||| (((xs (i + 6)).toInt64) &&& 4294967295)), .int (xs (i + 4)), .long ((((xs (i + 2)).toInt64) <<< ((32 : Int32).toInt64 &&& 63)) ||| (((xs (i + 3)).toInt64) &&& 4294967295)), .int (xs (i + 1)), .ref aM]) (by rw [show nI i + 8 = nI (i + 8) from nI_add i 8]) ?_
    refine va_sld hx hb hX hbl hbA hS (vp_in_nI (by omega) (by omega)) dc_L_law_494 ?_
    rw [show (nI (i + 8)).toNatClampNeg = i + 8 from nI_clamp (by omega)]
    refine W.eq (g2 := F0 m 495 ls [.int (xs (i + 8)), .int (xs (i + 7)), .long ((((xs (i + 5)).toInt64) <<< ((32 : Int32).toInt64 &&& 63)) ||| (((xs (i + 6)).toInt64) &&& 4294967295)), .int (xs (i + 4)), .long ((((xs (i + 2)).toInt64) <<< ((32 : Int32).toInt64 &&& 63)) ||| (((xs (i + 3)).toInt64) &&& 4294967295)), .int (nI gn), .ref aM]) (by rw [show (xs (i + 1)) = (nI gn) by exact hge]) ?_
    refine kc_iQ (X := [(aT, .inr (5, [.ref aR, .int (nI k), .int ch])), (aR, .inl (cA, n, .inl f)), (aQ, .inr (4, [.ref aT, .ref aK, .ref aV, .int pl, .int en, .int so, .int sa, .long ti])), (aK, .inr (3, [.int kl, .int kp])), (aV, .inr (3, [.int vl, .int vp])), (aM, .inr (7, [.int co, .ref a1, .int (nI k), .int (nI dn), .ref a2, .ref a3, .ref a4, .ref a5, .ref a6, .int (nI xa), .int ri, .int fa, .int fq, .int bg, .long tm, .int ka, .long kb, .int va, .long vb])), (a1, .inl (c1_, 16384, .inl tp)), (a2, .inl (c2_, 1000, .inr (.inl gk))), (a3, .inl (c3_, 1000, .inl gkb)), (a4, .inl (c4_, 1000, .inr (.inl gv))), (a5, .inl (c5_, 1000, .inl gvb)), (a6, .inl (c6_, 1000, .inl gl)), (aB, .inr (6, [.ref aT, .ref aF, .ref aQ, .int fk, .int fp])), (aF, .inr (1, [.ref aL, .int (nI (dn + gn)), .int (nI (wt + gwN (xs (i + 4)) (xs (i + 7)) (xs (i + 8)) dn gn)), .int (if lt < (xs (i + 8)) + nI gn - 1 then (xs (i + 8)) + nI gn - 1 else lt)])), (aL, .inr (0, [.int (md + 1), .ref ea1_2, .int (nI (N + 1))])), (aO, .inl (cJ, 1, .inr (.inl (vp_updL fo 0 ((nI (dn + gn)).toInt64)))))]) (cx := [(aM, .inr (7, [.int co, .ref a1, .int (nI k), .int (nI dn), .ref a2, .ref a3, .ref a4, .ref a5, .ref a6, .int (nI xa), .int ri, .int fa, .int fq, .int bg, .long tm, .int ka, .long kb, .int va, .long vb])), (a2, .inl (c2_, 1000, .inr (.inl gk))), (a3, .inl (c3_, 1000, .inl gkb)), (a4, .inl (c4_, 1000, .inr (.inl gv))), (a5, .inl (c5_, 1000, .inl gvb)), (a6, .inl (c6_, 1000, .inl gl))]) (wr := [(aT, .inr (5, [.ref aR, .int (nI k), .int ch])), (aR, .inl (cA, n, .inl f)), (aQ, .inr (4, [.ref aT, .ref aK, .ref aV, .int pl, .int en, .int so, .int sa, .long ti])), (aK, .inr (3, [.int kl, .int kp])), (aV, .inr (3, [.int vl, .int vp])), (a1, .inl (c1_, 16384, .inl tp)), (aB, .inr (6, [.ref aT, .ref aF, .ref aQ, .int fk, .int fp])), (aF, .inr (1, [.ref aL, .int (nI (dn + gn)), .int (nI (wt + gwN (xs (i + 4)) (xs (i + 7)) (xs (i + 8)) dn gn)), .int (if lt < (xs (i + 8)) + nI gn - 1 then (xs (i + 8)) + nI gn - 1 else lt)])), (aL, .inr (0, [.int (md + 1), .ref ea1_2, .int (nI (N + 1))])), (aO, .inl (cJ, 1, .inr (.inl (vp_updL fo 0 ((nI (dn + gn)).toInt64)))))]) (pl := pl1_1) hP hD hS hA [5, 7, 8, 9, 10, 11] [0, 1, 2, 3, 4, 6, 12, 13, 14, 15] rfl rfl rfl (by decide) (by decide) (va_runV (As := [.int (nI gn), .long ((((xs (i + 2)).toInt64) <<< ((32 : Int32).toInt64 &&& 63)) ||| (((xs (i + 3)).toInt64) &&& 4294967295)), .int (xs (i + 4)), .long ((((xs (i + 5)).toInt64) <<< ((32 : Int32).toInt64 &&& 63)) ||| (((xs (i + 6)).toInt64) &&& 4294967295)), .int (xs (i + 7)), .int (xs (i + 8))]) (rest := []) ⟨hx, hb, hml, hown, hts⟩ (c_M_record_ok l dC dI _ aM co a1 k dn a2 a3 a4 a5 a6 xa ri fa fq bg tm ka kb va vb c2_ c3_ c4_ c5_ c6_ gk gkb gv gvb gl gn ((((xs (i + 2)).toInt64) <<< ((32 : Int32).toInt64 &&& 63)) ||| (((xs (i + 3)).toInt64) &&& 4294967295)) (xs (i + 4)) ((((xs (i + 5)).toInt64) <<< ((32 : Int32).toInt64 &&& 63)) ||| (((xs (i + 6)).toInt64) &&& 4294967295)) (xs (i + 7)) (xs (i + 8)) (hg1) (hg2) (hr1) (Int32.not_lt.mpr hr2) (hr3) (Int32.not_lt.mpr hr4) (hr5) (hr6) (hroom) (e6) (by rw [hwg]; exact hlt)) (kw_V 6 hts bw4_25 bw4_26 bw4_27 bw1_9 bw4_28 rfl rfl (by decide +kernel) ⟨Nat.le_of_ble_eq_true rfl, Nat.le_of_ble_eq_true rfl⟩) (kp_V (wc := [(aM, .inr (7, [.int co, .ref a1, .int (nI k), .int (nI dn), .ref a2, .ref a3, .ref a4, .ref a5, .ref a6, .int (nI xa), .int ri, .int fa, .int fq, .int bg, .long tm, .int ka, .long kb, .int va, .long vb])), (a2, .inl (c2_, 1000, .inr (.inl gk))), (a3, .inl (c3_, 1000, .inl gkb)), (a4, .inl (c4_, 1000, .inr (.inl gv))), (a5, .inl (c5_, 1000, .inl gvb)), (a6, .inl (c6_, 1000, .inl gl))]) (tc := [(c2_, .long), (c3_, .int), (c4_, .long), (c5_, .int), (c6_, .int)]) (As := [.int (nI gn), .long ((((xs (i + 2)).toInt64) <<< ((32 : Int32).toInt64 &&& 63)) ||| (((xs (i + 3)).toInt64) &&& 4294967295)), .int (xs (i + 4)), .long ((((xs (i + 5)).toInt64) <<< ((32 : Int32).toInt64 &&& 63)) ||| (((xs (i + 6)).toInt64) &&& 4294967295)), .int (xs (i + 7)), .int (xs (i + 8))]) hG hS hA hP hD hK [5, 7, 8, 9, 10, 11] rfl (by decide) rfl [4, 5, 6, 7, 8] rfl (ci := 7) (q0 := 5) rfl rfl) rfl rfl hl.1 rfl (lv_room (Nat.le_of_ble_eq_true rfl)) dc_L_law_495 ⟨by show _ ≤ 601024; omega, by show _ ≤ 7293034; omega⟩) (fun r_6 _ H locs hw hP hD hK1 hS => ?_)
    have hw : nI (dn + gn) = r_6 := hw.symm
    subst hw
    have hP : va_P (dC, dI) vwCl ([(aT, .inr (5, [.ref aR, .int (nI k), .int ch])), (aR, .inl (cA, n, .inl f)), (aQ, .inr (4, [.ref aT, .ref aK, .ref aV, .int pl, .int en, .int so, .int sa, .long ti])), (aK, .inr (3, [.int kl, .int kp])), (aV, .inr (3, [.int vl, .int vp])), (a1, .inl (c1_, 16384, .inl tp)), (aB, .inr (6, [.ref aT, .ref aF, .ref aQ, .int fk, .int fp])), (aF, .inr (1, [.ref aL, .int (nI (dn + gn)), .int (nI (wt + gwN (xs (i + 4)) (xs (i + 7)) (xs (i + 8)) dn gn)), .int (if lt < (xs (i + 8)) + nI gn - 1 then (xs (i + 8)) + nI gn - 1 else lt)])), (aL, .inr (0, [.int (md + 1), .ref ea1_2, .int (nI (N + 1))])), (aO, .inl (cJ, 1, .inr (.inl (vp_updL fo 0 ((nI (dn + gn)).toInt64))))), (aM, .inr (7, [.int 0, .ref a1, .int (nI k), .int (nI (dn + gn)), .ref a2, .ref a3, .ref a4, .ref a5, .ref a6, .int (nI xa), .int ri, .int fa, .int fq, .int bg, .long tm, .int ka, .long kb, .int va, .long vb])), (a2, .inl (c2_, 1000, .inr (.inl (flL gk dn ((((xs (i + 2)).toInt64) <<< ((32 : Int32).toInt64 &&& 63)) ||| (((xs (i + 3)).toInt64) &&& 4294967295)) gn)))), (a3, .inl (c3_, 1000, .inl (flC gkb dn (xs (i + 4)) gn))), (a4, .inl (c4_, 1000, .inr (.inl (flL gv dn ((((xs (i + 5)).toInt64) <<< ((32 : Int32).toInt64 &&& 63)) ||| (((xs (i + 6)).toInt64) &&& 4294967295)) gn)))), (a5, .inl (c5_, 1000, .inl (flC gvb dn (xs (i + 7)) gn))), (a6, .inl (c6_, 1000, .inl (flP gl dn (xs (i + 8)) gn)))] ++ pl1_1) H := hP
    have hD : va_D A ([(aT, .inr (5, [.ref aR, .int (nI k), .int ch])), (aR, .inl (cA, n, .inl f)), (aQ, .inr (4, [.ref aT, .ref aK, .ref aV, .int pl, .int en, .int so, .int sa, .long ti])), (aK, .inr (3, [.int kl, .int kp])), (aV, .inr (3, [.int vl, .int vp])), (a1, .inl (c1_, 16384, .inl tp)), (aB, .inr (6, [.ref aT, .ref aF, .ref aQ, .int fk, .int fp])), (aF, .inr (1, [.ref aL, .int (nI (dn + gn)), .int (nI (wt + gwN (xs (i + 4)) (xs (i + 7)) (xs (i + 8)) dn gn)), .int (if lt < (xs (i + 8)) + nI gn - 1 then (xs (i + 8)) + nI gn - 1 else lt)])), (aL, .inr (0, [.int (md + 1), .ref ea1_2, .int (nI (N + 1))])), (aO, .inl (cJ, 1, .inr (.inl (vp_updL fo 0 ((nI (dn + gn)).toInt64))))), (aM, .inr (7, [.int 0, .ref a1, .int (nI k), .int (nI (dn + gn)), .ref a2, .ref a3, .ref a4, .ref a5, .ref a6, .int (nI xa), .int ri, .int fa, .int fq, .int bg, .long tm, .int ka, .long kb, .int va, .long vb])), (a2, .inl (c2_, 1000, .inr (.inl (flL gk dn ((((xs (i + 2)).toInt64) <<< ((32 : Int32).toInt64 &&& 63)) ||| (((xs (i + 3)).toInt64) &&& 4294967295)) gn)))), (a3, .inl (c3_, 1000, .inl (flC gkb dn (xs (i + 4)) gn))), (a4, .inl (c4_, 1000, .inr (.inl (flL gv dn ((((xs (i + 5)).toInt64) <<< ((32 : Int32).toInt64 &&& 63)) ||| (((xs (i + 6)).toInt64) &&& 4294967295)) gn)))), (a5, .inl (c5_, 1000, .inl (flC gvb dn (xs (i + 7)) gn))), (a6, .inl (c6_, 1000, .inl (flP gl dn (xs (i + 8)) gn)))] ++ pl1_1) := hD
    refine lv_istore (lv' := [(6, .int (nI (dn + gn))), (5, .int 0), (4, .int (nI i)), (3, .ref aO), (2, .ref aM), (1, .ref aB), (0, .ref b)]) hx hb dc_L_law_498 hl (by decide) rfl (fun ls hl => ?_)
    refine lv_aload_n hx hb dc_L_law_500 rfl (lv_at hl 4 rfl) ?_
    refine kc_iQ (X := [(aT, .inr (5, [.ref aR, .int (nI k), .int ch])), (aR, .inl (cA, n, .inl f)), (aQ, .inr (4, [.ref aT, .ref aK, .ref aV, .int pl, .int en, .int so, .int sa, .long ti])), (aK, .inr (3, [.int kl, .int kp])), (aV, .inr (3, [.int vl, .int vp])), (a1, .inl (c1_, 16384, .inl tp)), (aB, .inr (6, [.ref aT, .ref aF, .ref aQ, .int fk, .int fp])), (aF, .inr (1, [.ref aL, .int (nI (dn + gn)), .int (nI (wt + gwN (xs (i + 4)) (xs (i + 7)) (xs (i + 8)) dn gn)), .int (if lt < (xs (i + 8)) + nI gn - 1 then (xs (i + 8)) + nI gn - 1 else lt)])), (aL, .inr (0, [.int (md + 1), .ref ea1_2, .int (nI (N + 1))])), (aO, .inl (cJ, 1, .inr (.inl (vp_updL fo 0 ((nI (dn + gn)).toInt64))))), (aM, .inr (7, [.int 0, .ref a1, .int (nI k), .int (nI (dn + gn)), .ref a2, .ref a3, .ref a4, .ref a5, .ref a6, .int (nI xa), .int ri, .int fa, .int fq, .int bg, .long tm, .int ka, .long kb, .int va, .long vb])), (a2, .inl (c2_, 1000, .inr (.inl (flL gk dn ((((xs (i + 2)).toInt64) <<< ((32 : Int32).toInt64 &&& 63)) ||| (((xs (i + 3)).toInt64) &&& 4294967295)) gn)))), (a3, .inl (c3_, 1000, .inl (flC gkb dn (xs (i + 4)) gn))), (a4, .inl (c4_, 1000, .inr (.inl (flL gv dn ((((xs (i + 5)).toInt64) <<< ((32 : Int32).toInt64 &&& 63)) ||| (((xs (i + 6)).toInt64) &&& 4294967295)) gn)))), (a5, .inl (c5_, 1000, .inl (flC gvb dn (xs (i + 7)) gn))), (a6, .inl (c6_, 1000, .inl (flP gl dn (xs (i + 8)) gn)))]) (cx := [(aM, .inr (7, [.int 0, .ref a1, .int (nI k), .int (nI (dn + gn)), .ref a2, .ref a3, .ref a4, .ref a5, .ref a6, .int (nI xa), .int ri, .int fa, .int fq, .int bg, .long tm, .int ka, .long kb, .int va, .long vb]))]) (wr := [(aT, .inr (5, [.ref aR, .int (nI k), .int ch])), (aR, .inl (cA, n, .inl f)), (aQ, .inr (4, [.ref aT, .ref aK, .ref aV, .int pl, .int en, .int so, .int sa, .long ti])), (aK, .inr (3, [.int kl, .int kp])), (aV, .inr (3, [.int vl, .int vp])), (a1, .inl (c1_, 16384, .inl tp)), (aB, .inr (6, [.ref aT, .ref aF, .ref aQ, .int fk, .int fp])), (aF, .inr (1, [.ref aL, .int (nI (dn + gn)), .int (nI (wt + gwN (xs (i + 4)) (xs (i + 7)) (xs (i + 8)) dn gn)), .int (if lt < (xs (i + 8)) + nI gn - 1 then (xs (i + 8)) + nI gn - 1 else lt)])), (aL, .inr (0, [.int (md + 1), .ref ea1_2, .int (nI (N + 1))])), (aO, .inl (cJ, 1, .inr (.inl (vp_updL fo 0 ((nI (dn + gn)).toInt64))))), (a2, .inl (c2_, 1000, .inr (.inl (flL gk dn ((((xs (i + 2)).toInt64) <<< ((32 : Int32).toInt64 &&& 63)) ||| (((xs (i + 3)).toInt64) &&& 4294967295)) gn)))), (a3, .inl (c3_, 1000, .inl (flC gkb dn (xs (i + 4)) gn))), (a4, .inl (c4_, 1000, .inr (.inl (flL gv dn ((((xs (i + 5)).toInt64) <<< ((32 : Int32).toInt64 &&& 63)) ||| (((xs (i + 6)).toInt64) &&& 4294967295)) gn)))), (a5, .inl (c5_, 1000, .inl (flC gvb dn (xs (i + 7)) gn))), (a6, .inl (c6_, 1000, .inl (flP gl dn (xs (i + 8)) gn)))]) (pl := pl1_1) hP hD hS hA [10] [0, 1, 2, 3, 4, 5, 6, 7, 8, 9, 11, 12, 13, 14, 15] rfl rfl rfl (by decide) (by decide) (va_runV (As := []) (rest := []) ⟨hx, hb, hml, hown, hts⟩ (c_M_thrown l dC dI _ aM 0 a1 k (dn + gn) a2 a3 a4 a5 a6 xa ri fa fq bg tm ka kb va vb ) (kw_V 0 hts bw3_219 bw3_220 bw3_221 bw1_9 bw3_222 rfl rfl (by decide +kernel) ⟨Nat.le_of_ble_eq_true rfl, Nat.le_of_ble_eq_true rfl⟩) (kp_V (wc := [(aM, .inr (7, [.int 0, .ref a1, .int (nI k), .int (nI (dn + gn)), .ref a2, .ref a3, .ref a4, .ref a5, .ref a6, .int (nI xa), .int ri, .int fa, .int fq, .int bg, .long tm, .int ka, .long kb, .int va, .long vb]))]) (tc := []) (As := []) hG hS hA hP hD hK [10] rfl (by decide) rfl [] rfl (ci := 7) (q0 := 10) rfl rfl) rfl rfl hl.1 rfl (lv_room (Nat.le_of_ble_eq_true rfl)) dc_L_law_501 ⟨by show _ ≤ 601024; omega, by show _ ≤ 7293034; omega⟩) (fun r_7 _ H locs hw hP hD hK1 hS => ?_)
    have hw : 0 = r_7 := hw.symm
    subst hw
    have hP : va_P (dC, dI) vwCl ([(aT, .inr (5, [.ref aR, .int (nI k), .int ch])), (aR, .inl (cA, n, .inl f)), (aQ, .inr (4, [.ref aT, .ref aK, .ref aV, .int pl, .int en, .int so, .int sa, .long ti])), (aK, .inr (3, [.int kl, .int kp])), (aV, .inr (3, [.int vl, .int vp])), (a1, .inl (c1_, 16384, .inl tp)), (aB, .inr (6, [.ref aT, .ref aF, .ref aQ, .int fk, .int fp])), (aF, .inr (1, [.ref aL, .int (nI (dn + gn)), .int (nI (wt + gwN (xs (i + 4)) (xs (i + 7)) (xs (i + 8)) dn gn)), .int (if lt < (xs (i + 8)) + nI gn - 1 then (xs (i + 8)) + nI gn - 1 else lt)])), (aL, .inr (0, [.int (md + 1), .ref ea1_2, .int (nI (N + 1))])), (aO, .inl (cJ, 1, .inr (.inl (vp_updL fo 0 ((nI (dn + gn)).toInt64))))), (a2, .inl (c2_, 1000, .inr (.inl (flL gk dn ((((xs (i + 2)).toInt64) <<< ((32 : Int32).toInt64 &&& 63)) ||| (((xs (i + 3)).toInt64) &&& 4294967295)) gn)))), (a3, .inl (c3_, 1000, .inl (flC gkb dn (xs (i + 4)) gn))), (a4, .inl (c4_, 1000, .inr (.inl (flL gv dn ((((xs (i + 5)).toInt64) <<< ((32 : Int32).toInt64 &&& 63)) ||| (((xs (i + 6)).toInt64) &&& 4294967295)) gn)))), (a5, .inl (c5_, 1000, .inl (flC gvb dn (xs (i + 7)) gn))), (a6, .inl (c6_, 1000, .inl (flP gl dn (xs (i + 8)) gn))), (aM, .inr (7, [.int 0, .ref a1, .int (nI k), .int (nI (dn + gn)), .ref a2, .ref a3, .ref a4, .ref a5, .ref a6, .int (nI xa), .int ri, .int fa, .int fq, .int bg, .long tm, .int ka, .long kb, .int va, .long vb]))] ++ pl1_1) H := hP
    have hD : va_D A ([(aT, .inr (5, [.ref aR, .int (nI k), .int ch])), (aR, .inl (cA, n, .inl f)), (aQ, .inr (4, [.ref aT, .ref aK, .ref aV, .int pl, .int en, .int so, .int sa, .long ti])), (aK, .inr (3, [.int kl, .int kp])), (aV, .inr (3, [.int vl, .int vp])), (a1, .inl (c1_, 16384, .inl tp)), (aB, .inr (6, [.ref aT, .ref aF, .ref aQ, .int fk, .int fp])), (aF, .inr (1, [.ref aL, .int (nI (dn + gn)), .int (nI (wt + gwN (xs (i + 4)) (xs (i + 7)) (xs (i + 8)) dn gn)), .int (if lt < (xs (i + 8)) + nI gn - 1 then (xs (i + 8)) + nI gn - 1 else lt)])), (aL, .inr (0, [.int (md + 1), .ref ea1_2, .int (nI (N + 1))])), (aO, .inl (cJ, 1, .inr (.inl (vp_updL fo 0 ((nI (dn + gn)).toInt64))))), (a2, .inl (c2_, 1000, .inr (.inl (flL gk dn ((((xs (i + 2)).toInt64) <<< ((32 : Int32).toInt64 &&& 63)) ||| (((xs (i + 3)).toInt64) &&& 4294967295)) gn)))), (a3, .inl (c3_, 1000, .inl (flC gkb dn (xs (i + 4)) gn))), (a4, .inl (c4_, 1000, .inr (.inl (flL gv dn ((((xs (i + 5)).toInt64) <<< ((32 : Int32).toInt64 &&& 63)) ||| (((xs (i + 6)).toInt64) &&& 4294967295)) gn)))), (a5, .inl (c5_, 1000, .inl (flC gvb dn (xs (i + 7)) gn))), (a6, .inl (c6_, 1000, .inl (flP gl dn (xs (i + 8)) gn))), (aM, .inr (7, [.int 0, .ref a1, .int (nI k), .int (nI (dn + gn)), .ref a2, .ref a3, .ref a4, .ref a5, .ref a6, .int (nI xa), .int ri, .int fa, .int fq, .int bg, .long tm, .int ka, .long kb, .int va, .long vb]))] ++ pl1_1) := hD
    refine lv_iload hx hb dc_L_law_504 (lv_at hl 1 rfl) ?_
    refine lv_icmp_eq (tgt := 511) hx hb dc_L_law_506 (by decide) (fun c_8 => ?_) (fun c_8 => ?_)
    · refine lv_iload hx hb dc_L_law_511 (lv_at hl 1 rfl) ?_
      refine lv_if_ne (tgt := 528) hx hb dc_L_law_513 (by decide) (fun c_9 => ?_) (fun c_9 => ?_)
      · exact absurd (by decide) c_9
      · refine lv_aload_n hx hb dc_L_law_516 rfl (lv_at hl 3 rfl) ?_
        refine lv_iconst (v := 0) hx hb dc_L_law_517 (by decide) ?_
        rw [show (0 : Int32) = nI 0 from rfl]
        refine va_lald hx hb hK hP 9 2 rfl rfl (vp_in_nI (by omega) (by omega)) dc_L_law_518 ?_
        rw [show (nI 0).toNatClampNeg = 0 from nI_clamp (by omega)]
        refine W.eq (g2 := F0 m 519 ls [.long ((nI (dn + gn)).toInt64)]) (by rw [show ((vp_updL fo 0 ((nI (dn + gn)).toInt64)) 0) = ((nI (dn + gn)).toInt64) by exact pk_uLs]) ?_
        refine lv_iload hx hb dc_L_law_519 (lv_at hl 0 rfl) ?_
        refine lv_i2l (v := (nI (dn + gn)).toInt64) hx hb dc_L_law_521 rfl ?_
        refine W.lcmp hx hb dc_L_law_522 ?_
        refine lv_if_eq (tgt := 528) hx hb dc_L_law_523 (by decide) (fun c_10 => ?_) (fun c_10 => ?_)
        · have c_10 : ((nI (dn + gn)).toInt64) = ((nI (dn + gn)).toInt64) := (lg_cmp_eq _ _).mp c_10
          refine lv_goto (tgt := 949) hx hb dc_L_law_528 (by decide) ?_
          have hP9 := hP.part (cx := [(aB, .inr (6, [.ref aT, .ref aF, .ref aQ, .int fk, .int fp])), (aT, .inr (5, [.ref aR, .int (nI k), .int ch])), (aR, .inl (cA, n, .inl f)), (aF, .inr (1, [.ref aL, .int (nI (dn + gn)), .int (nI (wt + gwN (xs (i + 4)) (xs (i + 7)) (xs (i + 8)) dn gn)), .int (if lt < (xs (i + 8)) + nI gn - 1 then (xs (i + 8)) + nI gn - 1 else lt)])), (aL, .inr (0, [.int (md + 1), .ref ea1_2, .int (nI (N + 1))])), (aQ, .inr (4, [.ref aT, .ref aK, .ref aV, .int pl, .int en, .int so, .int sa, .long ti])), (aK, .inr (3, [.int kl, .int kp])), (aV, .inr (3, [.int vl, .int vp])), (aO, .inl (cJ, 1, .inr (.inl (vp_updL fo 0 ((nI (dn + gn)).toInt64))))), (aM, .inr (7, [.int 0, .ref a1, .int (nI k), .int (nI (dn + gn)), .ref a2, .ref a3, .ref a4, .ref a5, .ref a6, .int (nI xa), .int ri, .int fa, .int fq, .int bg, .long tm, .int ka, .long kb, .int va, .long vb])), (a1, .inl (c1_, 16384, .inl tp)), (a2, .inl (c2_, 1000, .inr (.inl (flL gk dn ((((xs (i + 2)).toInt64) <<< ((32 : Int32).toInt64 &&& 63)) ||| (((xs (i + 3)).toInt64) &&& 4294967295)) gn)))), (a3, .inl (c3_, 1000, .inl (flC gkb dn (xs (i + 4)) gn))), (a4, .inl (c4_, 1000, .inr (.inl (flL gv dn ((((xs (i + 5)).toInt64) <<< ((32 : Int32).toInt64 &&& 63)) ||| (((xs (i + 6)).toInt64) &&& 4294967295)) gn)))), (a5, .inl (c5_, 1000, .inl (flC gvb dn (xs (i + 7)) gn))), (a6, .inl (c6_, 1000, .inl (flP gl dn (xs (i + 8)) gn)))]) (pl := pl1_1) [6, 0, 1, 7, 8, 2, 3, 4, 9, 15, 5, 10, 11, 12, 13, 14] rfl
          have hD9 := hD.part (cx := [(aB, .inr (6, [.ref aT, .ref aF, .ref aQ, .int fk, .int fp])), (aT, .inr (5, [.ref aR, .int (nI k), .int ch])), (aR, .inl (cA, n, .inl f)), (aF, .inr (1, [.ref aL, .int (nI (dn + gn)), .int (nI (wt + gwN (xs (i + 4)) (xs (i + 7)) (xs (i + 8)) dn gn)), .int (if lt < (xs (i + 8)) + nI gn - 1 then (xs (i + 8)) + nI gn - 1 else lt)])), (aL, .inr (0, [.int (md + 1), .ref ea1_2, .int (nI (N + 1))])), (aQ, .inr (4, [.ref aT, .ref aK, .ref aV, .int pl, .int en, .int so, .int sa, .long ti])), (aK, .inr (3, [.int kl, .int kp])), (aV, .inr (3, [.int vl, .int vp])), (aO, .inl (cJ, 1, .inr (.inl (vp_updL fo 0 ((nI (dn + gn)).toInt64))))), (aM, .inr (7, [.int 0, .ref a1, .int (nI k), .int (nI (dn + gn)), .ref a2, .ref a3, .ref a4, .ref a5, .ref a6, .int (nI xa), .int ri, .int fa, .int fq, .int bg, .long tm, .int ka, .long kb, .int va, .long vb])), (a1, .inl (c1_, 16384, .inl tp)), (a2, .inl (c2_, 1000, .inr (.inl (flL gk dn ((((xs (i + 2)).toInt64) <<< ((32 : Int32).toInt64 &&& 63)) ||| (((xs (i + 3)).toInt64) &&& 4294967295)) gn)))), (a3, .inl (c3_, 1000, .inl (flC gkb dn (xs (i + 4)) gn))), (a4, .inl (c4_, 1000, .inr (.inl (flL gv dn ((((xs (i + 5)).toInt64) <<< ((32 : Int32).toInt64 &&& 63)) ||| (((xs (i + 6)).toInt64) &&& 4294967295)) gn)))), (a5, .inl (c5_, 1000, .inl (flC gvb dn (xs (i + 7)) gn))), (a6, .inl (c6_, 1000, .inl (flP gl dn (xs (i + 8)) gn)))]) (pl := pl1_1) [6, 0, 1, 7, 8, 2, 3, 4, 9, 15, 5, 10, 11, 12, 13, 14] (by decide) rfl
          have hK9 := hK.sub (tys' := [(cA, .byte), (cO, .object "java/lang/Object"), (cJ, .long), (c1_, .int), (c2_, .long), (c3_, .int), (c4_, .long), (c5_, .int), (c6_, .int)]) [0, 1, 2, 3, 4, 5, 6, 7, 8] rfl
          exact W.widen (k := CN (i + 9)) (n := SN (i + 9) n (lgN N ln)) (by unfold CN; omega) (by unfold SN; omega) (KK n (lgN N ln) _ _ _ (INV_mk hP9 hD9 hK9 (r1) (r2) (r3) (r4) (r5) (rd_new ⟨e1, e2, e3, e4, e5, e6, e7, e8, e9, e10⟩ hr1 hr2 hr3 hr4 hr5 hr6 hg1 hg2 hroom hlt) (h_5) (l4)) hS (lv_sub hl [2, 3, 4, 5, 6] rfl))
        · have c_10 : ¬ (((nI (dn + gn)).toInt64) = ((nI (dn + gn)).toInt64)) := fun h => c_10 ((lg_cmp_eq _ _).mpr h)
          exact absurd (rfl) c_10
    · exact absurd (by decide) c_8
  · have hb2 := rec_no hbad
    refine lv_aload_n hx hb dc_L_law_345 rfl (lv_at hl 3 rfl) ?_
    refine lv_aload_n hx hb dc_L_law_346 rfl (lv_at hl 4 rfl) ?_
    refine lv_iload hx hb dc_L_law_347 (lv_at hl 0 rfl) ?_
    refine lv_iconst (v := 1) hx hb dc_L_law_349 (by decide) ?_
    refine lv_iadd hx hb dc_L_law_350 ?_
    refine W.eq (g2 := F0 m 351 ls [.int (nI (i + 1)), .ref b, .ref aB]) (by rw [show nI i + 1 = nI (i + 1) from nI_add i 1]) ?_
    refine va_sld hx hb hX hbl hbA hS (vp_in_nI (by omega) (by omega)) dc_L_law_351 ?_
    rw [show (nI (i + 1)).toNatClampNeg = i + 1 from nI_clamp (by omega)]
    refine lv_aload_n hx hb dc_L_law_352 rfl (lv_at hl 4 rfl) ?_
    refine lv_iload hx hb dc_L_law_353 (lv_at hl 0 rfl) ?_
    refine lv_iconst (v := 2) hx hb dc_L_law_355 (by decide) ?_
    refine lv_iadd hx hb dc_L_law_356 ?_
    refine W.eq (g2 := F0 m 357 ls [.int (nI (i + 2)), .ref b, .int (xs (i + 1)), .ref aB]) (by rw [show nI i + 2 = nI (i + 2) from nI_add i 2]) ?_
    refine va_sld hx hb hX hbl hbA hS (vp_in_nI (by omega) (by omega)) dc_L_law_357 ?_
    rw [show (nI (i + 2)).toNatClampNeg = i + 2 from nI_clamp (by omega)]
    refine lv_i2l (v := (xs (i + 2)).toInt64) hx hb dc_L_law_358 rfl ?_
    refine lv_bipush (v := 32) hx hb dc_L_law_359 (by decide) ?_
    refine lv_lshl (v := ((xs (i + 2)).toInt64) <<< ((32 : Int32).toInt64 &&& 63)) hx hb dc_L_law_361 rfl ?_
    refine lv_aload_n hx hb dc_L_law_362 rfl (lv_at hl 4 rfl) ?_
    refine lv_iload hx hb dc_L_law_363 (lv_at hl 0 rfl) ?_
    refine lv_iconst (v := 3) hx hb dc_L_law_365 (by decide) ?_
    refine lv_iadd hx hb dc_L_law_366 ?_
    refine W.eq (g2 := F0 m 367 ls [.int (nI (i + 3)), .ref b, .long (((xs (i + 2)).toInt64) <<< ((32 : Int32).toInt64 &&& 63)), .int (xs (i + 1)), .ref aB]) (by rw [show nI i + 3 = nI (i + 3) from nI_add i 3]) ?_
    refine va_sld hx hb hX hbl hbA hS (vp_in_nI (by omega) (by omega)) dc_L_law_367 ?_
    rw [show (nI (i + 3)).toNatClampNeg = i + 3 from nI_clamp (by omega)]
    refine lv_i2l (v := (xs (i + 3)).toInt64) hx hb dc_L_law_368 rfl ?_
    refine lv_ldc2 (v := 4294967295) hx hb hown (hts _ bw4_114) dc_L_law_369 ?_
    refine lv_land hx hb dc_L_law_372 ?_
    refine lv_lor hx hb dc_L_law_373 ?_
    refine lv_aload_n hx hb dc_L_law_374 rfl (lv_at hl 4 rfl) ?_
    refine lv_iload hx hb dc_L_law_375 (lv_at hl 0 rfl) ?_
    refine lv_iconst (v := 4) hx hb dc_L_law_377 (by decide) ?_
    refine lv_iadd hx hb dc_L_law_378 ?_
    refine W.eq (g2 := F0 m 379 ls [.int (nI (i + 4)), .ref b, .long ((((xs (i + 2)).toInt64) <<< ((32 : Int32).toInt64 &&& 63)) ||| (((xs (i + 3)).toInt64) &&& 4294967295)), .int (xs (i + 1)), .ref aB]) (by rw [show nI i + 4 = nI (i + 4) from nI_add i 4]) ?_
    refine va_sld hx hb hX hbl hbA hS (vp_in_nI (by omega) (by omega)) dc_L_law_379 ?_
    rw [show (nI (i + 4)).toNatClampNeg = i + 4 from nI_clamp (by omega)]
    refine lv_aload_n hx hb dc_L_law_380 rfl (lv_at hl 4 rfl) ?_
    refine lv_iload hx hb dc_L_law_381 (lv_at hl 0 rfl) ?_
    refine lv_iconst (v := 5) hx hb dc_L_law_383 (by decide) ?_
    refine lv_iadd hx hb dc_L_law_384 ?_
    refine W.eq (g2 := F0 m 385 ls [.int (nI (i + 5)), .ref b, .int (xs (i + 4)), .long ((((xs (i + 2)).toInt64) <<< ((32 : Int32).toInt64 &&& 63)) ||| (((xs (i + 3)).toInt64) &&& 4294967295)), .int (xs (i + 1)), .ref aB]) (by rw [show nI i + 5 = nI (i + 5) from nI_add i 5]) ?_
    refine va_sld hx hb hX hbl hbA hS (vp_in_nI (by omega) (by omega)) dc_L_law_385 ?_
    rw [show (nI (i + 5)).toNatClampNeg = i + 5 from nI_clamp (by omega)]
    refine lv_i2l (v := (xs (i + 5)).toInt64) hx hb dc_L_law_386 rfl ?_
    refine lv_bipush (v := 32) hx hb dc_L_law_387 (by decide) ?_
    refine lv_lshl (v := ((xs (i + 5)).toInt64) <<< ((32 : Int32).toInt64 &&& 63)) hx hb dc_L_law_389 rfl ?_
    refine lv_aload_n hx hb dc_L_law_390 rfl (lv_at hl 4 rfl) ?_
    refine lv_iload hx hb dc_L_law_391 (lv_at hl 0 rfl) ?_
    refine lv_bipush (v := 6) hx hb dc_L_law_393 (by decide) ?_
    refine lv_iadd hx hb dc_L_law_395 ?_
    refine W.eq (g2 := F0 m 396 ls [.int (nI (i + 6)), .ref b, .long (((xs (i + 5)).toInt64) <<< ((32 : Int32).toInt64 &&& 63)), .int (xs (i + 4)), .long ((((xs (i + 2)).toInt64) <<< ((32 : Int32).toInt64 &&& 63)) ||| (((xs (i + 3)).toInt64) &&& 4294967295)), .int (xs (i + 1)), .ref aB]) (by rw [show nI i + 6 = nI (i + 6) from nI_add i 6]) ?_
    refine va_sld hx hb hX hbl hbA hS (vp_in_nI (by omega) (by omega)) dc_L_law_396 ?_
    rw [show (nI (i + 6)).toNatClampNeg = i + 6 from nI_clamp (by omega)]
    refine lv_i2l (v := (xs (i + 6)).toInt64) hx hb dc_L_law_397 rfl ?_
    refine lv_ldc2 (v := 4294967295) hx hb hown (hts _ bw4_114) dc_L_law_398 ?_
    refine lv_land hx hb dc_L_law_401 ?_
    refine lv_lor hx hb dc_L_law_402 ?_
    refine lv_aload_n hx hb dc_L_law_403 rfl (lv_at hl 4 rfl) ?_
    refine lv_iload hx hb dc_L_law_404 (lv_at hl 0 rfl) ?_
    refine lv_bipush (v := 7) hx hb dc_L_law_406 (by decide) ?_
    refine lv_iadd hx hb dc_L_law_408 ?_
    refine W.eq (g2 := F0 m 409 ls [.int (nI (i + 7)), .ref b, .long ((((xs (i + 5)).toInt64) <<< ((32 : Int32).toInt64 &&& 63)) ||| (((xs (i + 6)).toInt64) &&& 4294967295)), .int (xs (i + 4)), .long ((((xs (i + 2)).toInt64) <<< ((32 : Int32).toInt64 &&& 63)) ||| (((xs (i + 3)).toInt64) &&& 4294967295)), .int (xs (i + 1)), .ref aB]) (by rw [show nI i + 7 = nI (i + 7) from nI_add i 7]) ?_
    refine va_sld hx hb hX hbl hbA hS (vp_in_nI (by omega) (by omega)) dc_L_law_409 ?_
    rw [show (nI (i + 7)).toNatClampNeg = i + 7 from nI_clamp (by omega)]
    refine lv_aload_n hx hb dc_L_law_410 rfl (lv_at hl 4 rfl) ?_
    refine lv_iload hx hb dc_L_law_411 (lv_at hl 0 rfl) ?_
    refine lv_bipush (v := 8) hx hb dc_L_law_413 (by decide) ?_
    refine lv_iadd hx hb dc_L_law_415 ?_
    refine W.eq (g2 := F0 m 416 ls [.int (nI (i + 8)), .ref b, .int (xs (i + 7)), .long ((((xs (i + 5)).toInt64) <<< ((32 : Int32).toInt64 &&& 63)) ||| (((xs (i + 6)).toInt64) &&& 4294967295)), .int (xs (i + 4)), .long ((((xs (i + 2)).toInt64) <<< ((32 : Int32).toInt64 &&& 63)) ||| (((xs (i + 3)).toInt64) &&& 4294967295)), .int (xs (i + 1)), .ref aB]) (by rw [show nI i + 8 = nI (i + 8) from nI_add i 8]) ?_
    refine va_sld hx hb hX hbl hbA hS (vp_in_nI (by omega) (by omega)) dc_L_law_416 ?_
    rw [show (nI (i + 8)).toNatClampNeg = i + 8 from nI_clamp (by omega)]
    refine lv_aload_n hx hb dc_L_law_417 rfl (lv_at hl 1 rfl) ?_
    refine kc_iQ (X := [(aB, .inr (6, [.ref aT, .ref aF, .ref aQ, .int fk, .int fp])), (aT, .inr (5, [.ref aR, .int (nI k), .int ch])), (aR, .inl (cA, n, .inl f)), (aF, .inr (1, [.ref aL, .int (nI dn), .int (nI wt), .int lt])), (aL, .inr (0, [.int md, .ref ea, .int (nI N)])), (aQ, .inr (4, [.ref aT, .ref aK, .ref aV, .int pl, .int en, .int so, .int sa, .long ti])), (aK, .inr (3, [.int kl, .int kp])), (aV, .inr (3, [.int vl, .int vp])), (aO, .inl (cJ, 1, .inr (.inl fo))), (aM, .inr (7, [.int co, .ref a1, .int (nI k), .int (nI dn), .ref a2, .ref a3, .ref a4, .ref a5, .ref a6, .int (nI xa), .int ri, .int fa, .int fq, .int bg, .long tm, .int ka, .long kb, .int va, .long vb])), (a1, .inl (c1_, 16384, .inl tp)), (a2, .inl (c2_, 1000, .inr (.inl gk))), (a3, .inl (c3_, 1000, .inl gkb)), (a4, .inl (c4_, 1000, .inr (.inl gv))), (a5, .inl (c5_, 1000, .inl gvb)), (a6, .inl (c6_, 1000, .inl gl))]) (cx := [(aB, .inr (6, [.ref aT, .ref aF, .ref aQ, .int fk, .int fp])), (aO, .inl (cJ, 1, .inr (.inl fo)))]) (wr := [(aT, .inr (5, [.ref aR, .int (nI k), .int ch])), (aR, .inl (cA, n, .inl f)), (aF, .inr (1, [.ref aL, .int (nI dn), .int (nI wt), .int lt])), (aL, .inr (0, [.int md, .ref ea, .int (nI N)])), (aQ, .inr (4, [.ref aT, .ref aK, .ref aV, .int pl, .int en, .int so, .int sa, .long ti])), (aK, .inr (3, [.int kl, .int kp])), (aV, .inr (3, [.int vl, .int vp])), (aM, .inr (7, [.int co, .ref a1, .int (nI k), .int (nI dn), .ref a2, .ref a3, .ref a4, .ref a5, .ref a6, .int (nI xa), .int ri, .int fa, .int fq, .int bg, .long tm, .int ka, .long kb, .int va, .long vb])), (a1, .inl (c1_, 16384, .inl tp)), (a2, .inl (c2_, 1000, .inr (.inl gk))), (a3, .inl (c3_, 1000, .inl gkb)), (a4, .inl (c4_, 1000, .inr (.inl gv))), (a5, .inl (c5_, 1000, .inl gvb)), (a6, .inl (c6_, 1000, .inl gl))]) (pl := plt) hP hD hS hA [0, 8] [1, 2, 3, 4, 5, 6, 7, 9, 10, 11, 12, 13, 14, 15] rfl rfl rfl (by decide) (by decide) (vx_runSW (As := [.ref aB, .int (xs (i + 1)), .long ((((xs (i + 2)).toInt64) <<< ((32 : Int32).toInt64 &&& 63)) ||| (((xs (i + 3)).toInt64) &&& 4294967295)), .int (xs (i + 4)), .long ((((xs (i + 5)).toInt64) <<< ((32 : Int32).toInt64 &&& 63)) ||| (((xs (i + 6)).toInt64) &&& 4294967295)), .int (xs (i + 7)), .int (xs (i + 8)), .ref aO]) (rest := []) ⟨hx, hb, hml, hown, hts⟩ (c_L_record_arg l dC dI _ aB aT aF aQ fk fp (xs (i + 1)) ((((xs (i + 2)).toInt64) <<< ((32 : Int32).toInt64 &&& 63)) ||| (((xs (i + 3)).toInt64) &&& 4294967295)) (xs (i + 4)) ((((xs (i + 5)).toInt64) <<< ((32 : Int32).toInt64 &&& 63)) ||| (((xs (i + 6)).toInt64) &&& 4294967295)) (xs (i + 7)) (xs (i + 8)) aO cJ fo (hbad) hst) (kw_SW 8 hts bw2_115 bw2_116 bw1_0 bw2_117 rfl rfl (by decide +kernel) ⟨Nat.le_of_ble_eq_true rfl, Nat.le_of_ble_eq_true rfl⟩) (kp_S (wc := [(aB, .inr (6, [.ref aT, .ref aF, .ref aQ, .int fk, .int fp])), (aO, .inl (cJ, 1, .inr (.inl fo)))]) (tc := [(cJ, .long)]) (av := [.ref aB, .int (xs (i + 1)), .long ((((xs (i + 2)).toInt64) <<< ((32 : Int32).toInt64 &&& 63)) ||| (((xs (i + 3)).toInt64) &&& 4294967295)), .int (xs (i + 4)), .long ((((xs (i + 5)).toInt64) <<< ((32 : Int32).toInt64 &&& 63)) ||| (((xs (i + 6)).toInt64) &&& 4294967295)), .int (xs (i + 7)), .int (xs (i + 8)), .ref aO]) hG hS hA hP hD hK [0, 8] rfl (by decide) rfl [2] rfl) rfl rfl hl.1 rfl (lv_room (Nat.le_of_ble_eq_true rfl)) dc_L_law_418 ⟨by show _ ≤ 601024; omega, by show _ ≤ 7293034; omega⟩) (fun r_1 _ H locs hw hP hD hK1 hS => ?_)
    have hw : 1 = r_1 := hw.symm
    subst hw
    have hP : va_P (dC, dI) vwCl ([(aT, .inr (5, [.ref aR, .int (nI k), .int ch])), (aR, .inl (cA, n, .inl f)), (aF, .inr (1, [.ref aL, .int (nI dn), .int (nI wt), .int lt])), (aL, .inr (0, [.int md, .ref ea, .int (nI N)])), (aQ, .inr (4, [.ref aT, .ref aK, .ref aV, .int pl, .int en, .int so, .int sa, .long ti])), (aK, .inr (3, [.int kl, .int kp])), (aV, .inr (3, [.int vl, .int vp])), (aM, .inr (7, [.int co, .ref a1, .int (nI k), .int (nI dn), .ref a2, .ref a3, .ref a4, .ref a5, .ref a6, .int (nI xa), .int ri, .int fa, .int fq, .int bg, .long tm, .int ka, .long kb, .int va, .long vb])), (a1, .inl (c1_, 16384, .inl tp)), (a2, .inl (c2_, 1000, .inr (.inl gk))), (a3, .inl (c3_, 1000, .inl gkb)), (a4, .inl (c4_, 1000, .inr (.inl gv))), (a5, .inl (c5_, 1000, .inl gvb)), (a6, .inl (c6_, 1000, .inl gl)), (aB, .inr (6, [.ref aT, .ref aF, .ref aQ, .int fk, .int fp])), (aO, .inl (cJ, 1, .inr (.inl fo)))] ++ plt) H := hP
    have hD : va_D A ([(aT, .inr (5, [.ref aR, .int (nI k), .int ch])), (aR, .inl (cA, n, .inl f)), (aF, .inr (1, [.ref aL, .int (nI dn), .int (nI wt), .int lt])), (aL, .inr (0, [.int md, .ref ea, .int (nI N)])), (aQ, .inr (4, [.ref aT, .ref aK, .ref aV, .int pl, .int en, .int so, .int sa, .long ti])), (aK, .inr (3, [.int kl, .int kp])), (aV, .inr (3, [.int vl, .int vp])), (aM, .inr (7, [.int co, .ref a1, .int (nI k), .int (nI dn), .ref a2, .ref a3, .ref a4, .ref a5, .ref a6, .int (nI xa), .int ri, .int fa, .int fq, .int bg, .long tm, .int ka, .long kb, .int va, .long vb])), (a1, .inl (c1_, 16384, .inl tp)), (a2, .inl (c2_, 1000, .inr (.inl gk))), (a3, .inl (c3_, 1000, .inl gkb)), (a4, .inl (c4_, 1000, .inr (.inl gv))), (a5, .inl (c5_, 1000, .inl gvb)), (a6, .inl (c6_, 1000, .inl gl)), (aB, .inr (6, [.ref aT, .ref aF, .ref aQ, .int fk, .int fp])), (aO, .inl (cJ, 1, .inr (.inl fo)))] ++ plt) := hD
    refine lv_istore (lv' := [(5, .int 1), (4, .int (nI i)), (3, .ref aO), (2, .ref aM), (1, .ref aB), (0, .ref b)]) hx hb dc_L_law_421 hl (by decide) rfl (fun ls hl => ?_)
    refine lv_aload_n hx hb dc_L_law_423 rfl (lv_at hl 3 rfl) ?_
    refine lv_aload_n hx hb dc_L_law_424 rfl (lv_at hl 5 rfl) ?_
    refine lv_iload hx hb dc_L_law_425 (lv_at hl 1 rfl) ?_
    refine lv_iconst (v := 1) hx hb dc_L_law_427 (by decide) ?_
    refine lv_iadd hx hb dc_L_law_428 ?_
    refine W.eq (g2 := F0 m 429 ls [.int (nI (i + 1)), .ref b, .ref aM]) (by rw [show nI i + 1 = nI (i + 1) from nI_add i 1]) ?_
    refine va_sld hx hb hX hbl hbA hS (vp_in_nI (by omega) (by omega)) dc_L_law_429 ?_
    rw [show (nI (i + 1)).toNatClampNeg = i + 1 from nI_clamp (by omega)]
    refine lv_aload_n hx hb dc_L_law_430 rfl (lv_at hl 5 rfl) ?_
    refine lv_iload hx hb dc_L_law_431 (lv_at hl 1 rfl) ?_
    refine lv_iconst (v := 2) hx hb dc_L_law_433 (by decide) ?_
    refine lv_iadd hx hb dc_L_law_434 ?_
    refine W.eq (g2 := F0 m 435 ls [.int (nI (i + 2)), .ref b, .int (xs (i + 1)), .ref aM]) (by rw [show nI i + 2 = nI (i + 2) from nI_add i 2]) ?_
    refine va_sld hx hb hX hbl hbA hS (vp_in_nI (by omega) (by omega)) dc_L_law_435 ?_
    rw [show (nI (i + 2)).toNatClampNeg = i + 2 from nI_clamp (by omega)]
    refine lv_i2l (v := (xs (i + 2)).toInt64) hx hb dc_L_law_436 rfl ?_
    refine lv_bipush (v := 32) hx hb dc_L_law_437 (by decide) ?_
    refine lv_lshl (v := ((xs (i + 2)).toInt64) <<< ((32 : Int32).toInt64 &&& 63)) hx hb dc_L_law_439 rfl ?_
    refine lv_aload_n hx hb dc_L_law_440 rfl (lv_at hl 5 rfl) ?_
    refine lv_iload hx hb dc_L_law_441 (lv_at hl 1 rfl) ?_
    refine lv_iconst (v := 3) hx hb dc_L_law_443 (by decide) ?_
    refine lv_iadd hx hb dc_L_law_444 ?_
    refine W.eq (g2 := F0 m 445 ls [.int (nI (i + 3)), .ref b, .long (((xs (i + 2)).toInt64) <<< ((32 : Int32).toInt64 &&& 63)), .int (xs (i + 1)), .ref aM]) (by rw [show nI i + 3 = nI (i + 3) from nI_add i 3]) ?_
    refine va_sld hx hb hX hbl hbA hS (vp_in_nI (by omega) (by omega)) dc_L_law_445 ?_
    rw [show (nI (i + 3)).toNatClampNeg = i + 3 from nI_clamp (by omega)]
    refine lv_i2l (v := (xs (i + 3)).toInt64) hx hb dc_L_law_446 rfl ?_
    refine lv_ldc2 (v := 4294967295) hx hb hown (hts _ bw4_114) dc_L_law_447 ?_
    refine lv_land hx hb dc_L_law_450 ?_
    refine lv_lor hx hb dc_L_law_451 ?_
    refine lv_aload_n hx hb dc_L_law_452 rfl (lv_at hl 5 rfl) ?_
    refine lv_iload hx hb dc_L_law_453 (lv_at hl 1 rfl) ?_
    refine lv_iconst (v := 4) hx hb dc_L_law_455 (by decide) ?_
    refine lv_iadd hx hb dc_L_law_456 ?_
    refine W.eq (g2 := F0 m 457 ls [.int (nI (i + 4)), .ref b, .long ((((xs (i + 2)).toInt64) <<< ((32 : Int32).toInt64 &&& 63)) ||| (((xs (i + 3)).toInt64) &&& 4294967295)), .int (xs (i + 1)), .ref aM]) (by rw [show nI i + 4 = nI (i + 4) from nI_add i 4]) ?_
    refine va_sld hx hb hX hbl hbA hS (vp_in_nI (by omega) (by omega)) dc_L_law_457 ?_
    rw [show (nI (i + 4)).toNatClampNeg = i + 4 from nI_clamp (by omega)]
    refine lv_aload_n hx hb dc_L_law_458 rfl (lv_at hl 5 rfl) ?_
    refine lv_iload hx hb dc_L_law_459 (lv_at hl 1 rfl) ?_
    refine lv_iconst (v := 5) hx hb dc_L_law_461 (by decide) ?_
    refine lv_iadd hx hb dc_L_law_462 ?_
    refine W.eq (g2 := F0 m 463 ls [.int (nI (i + 5)), .ref b, .int (xs (i + 4)), .long ((((xs (i + 2)).toInt64) <<< ((32 : Int32).toInt64 &&& 63)) ||| (((xs (i + 3)).toInt64) &&& 4294967295)), .int (xs (i + 1)), .ref aM]) (by rw [show nI i + 5 = nI (i + 5) from nI_add i 5]) ?_
    refine va_sld hx hb hX hbl hbA hS (vp_in_nI (by omega) (by omega)) dc_L_law_463 ?_
    rw [show (nI (i + 5)).toNatClampNeg = i + 5 from nI_clamp (by omega)]
    refine lv_i2l (v := (xs (i + 5)).toInt64) hx hb dc_L_law_464 rfl ?_
    refine lv_bipush (v := 32) hx hb dc_L_law_465 (by decide) ?_
    refine lv_lshl (v := ((xs (i + 5)).toInt64) <<< ((32 : Int32).toInt64 &&& 63)) hx hb dc_L_law_467 rfl ?_
    refine lv_aload_n hx hb dc_L_law_468 rfl (lv_at hl 5 rfl) ?_
    refine lv_iload hx hb dc_L_law_469 (lv_at hl 1 rfl) ?_
    refine lv_bipush (v := 6) hx hb dc_L_law_471 (by decide) ?_
    refine lv_iadd hx hb dc_L_law_473 ?_
    refine W.eq (g2 := F0 m 474 ls [.int (nI (i + 6)), .ref b, .long (((xs (i + 5)).toInt64) <<< ((32 : Int32).toInt64 &&& 63)), .int (xs (i + 4)), .long ((((xs (i + 2)).toInt64) <<< ((32 : Int32).toInt64 &&& 63)) ||| (((xs (i + 3)).toInt64) &&& 4294967295)), .int (xs (i + 1)), .ref aM]) (by rw [show nI i + 6 = nI (i + 6) from nI_add i 6]) ?_
    refine va_sld hx hb hX hbl hbA hS (vp_in_nI (by omega) (by omega)) dc_L_law_474 ?_
    rw [show (nI (i + 6)).toNatClampNeg = i + 6 from nI_clamp (by omega)]
    refine lv_i2l (v := (xs (i + 6)).toInt64) hx hb dc_L_law_475 rfl ?_
    refine lv_ldc2 (v := 4294967295) hx hb hown (hts _ bw4_114) dc_L_law_476 ?_
    refine lv_land hx hb dc_L_law_479 ?_
    refine lv_lor hx hb dc_L_law_480 ?_
    refine lv_aload_n hx hb dc_L_law_481 rfl (lv_at hl 5 rfl) ?_
    refine lv_iload hx hb dc_L_law_482 (lv_at hl 1 rfl) ?_
    refine lv_bipush (v := 7) hx hb dc_L_law_484 (by decide) ?_
    refine lv_iadd hx hb dc_L_law_486 ?_
    refine W.eq (g2 := F0 m 487 ls [.int (nI (i + 7)), .ref b, .long ((((xs (i + 5)).toInt64) <<< ((32 : Int32).toInt64 &&& 63)) ||| (((xs (i + 6)).toInt64) &&& 4294967295)), .int (xs (i + 4)), .long ((((xs (i + 2)).toInt64) <<< ((32 : Int32).toInt64 &&& 63)) ||| (((xs (i + 3)).toInt64) &&& 4294967295)), .int (xs (i + 1)), .ref aM]) (by rw [show nI i + 7 = nI (i + 7) from nI_add i 7]) ?_
    refine va_sld hx hb hX hbl hbA hS (vp_in_nI (by omega) (by omega)) dc_L_law_487 ?_
    rw [show (nI (i + 7)).toNatClampNeg = i + 7 from nI_clamp (by omega)]
    refine lv_aload_n hx hb dc_L_law_488 rfl (lv_at hl 5 rfl) ?_
    refine lv_iload hx hb dc_L_law_489 (lv_at hl 1 rfl) ?_
    refine lv_bipush (v := 8) hx hb dc_L_law_491 (by decide) ?_
    refine lv_iadd hx hb dc_L_law_493 ?_
    refine W.eq (g2 := F0 m 494 ls [.int (nI (i + 8)), .ref b, .int (xs (i + 7)), .long ((((xs (i + 5)).toInt64) <<< ((32 : Int32).toInt64 &&& 63)) ||| (((xs (i + 6)).toInt64) &&& 4294967295)), .int (xs (i + 4)), .long ((((xs (i + 2)).toInt64) <<< ((32 : Int32).toInt64 &&& 63)) ||| (((xs (i + 3)).toInt64) &&& 4294967295)), .int (xs (i + 1)), .ref aM]) (by rw [show nI i + 8 = nI (i + 8) from nI_add i 8]) ?_
    refine va_sld hx hb hX hbl hbA hS (vp_in_nI (by omega) (by omega)) dc_L_law_494 ?_
    rw [show (nI (i + 8)).toNatClampNeg = i + 8 from nI_clamp (by omega)]
    refine kc_iQ (X := [(aT, .inr (5, [.ref aR, .int (nI k), .int ch])), (aR, .inl (cA, n, .inl f)), (aF, .inr (1, [.ref aL, .int (nI dn), .int (nI wt), .int lt])), (aL, .inr (0, [.int md, .ref ea, .int (nI N)])), (aQ, .inr (4, [.ref aT, .ref aK, .ref aV, .int pl, .int en, .int so, .int sa, .long ti])), (aK, .inr (3, [.int kl, .int kp])), (aV, .inr (3, [.int vl, .int vp])), (aM, .inr (7, [.int co, .ref a1, .int (nI k), .int (nI dn), .ref a2, .ref a3, .ref a4, .ref a5, .ref a6, .int (nI xa), .int ri, .int fa, .int fq, .int bg, .long tm, .int ka, .long kb, .int va, .long vb])), (a1, .inl (c1_, 16384, .inl tp)), (a2, .inl (c2_, 1000, .inr (.inl gk))), (a3, .inl (c3_, 1000, .inl gkb)), (a4, .inl (c4_, 1000, .inr (.inl gv))), (a5, .inl (c5_, 1000, .inl gvb)), (a6, .inl (c6_, 1000, .inl gl)), (aB, .inr (6, [.ref aT, .ref aF, .ref aQ, .int fk, .int fp])), (aO, .inl (cJ, 1, .inr (.inl fo)))]) (cx := [(aM, .inr (7, [.int co, .ref a1, .int (nI k), .int (nI dn), .ref a2, .ref a3, .ref a4, .ref a5, .ref a6, .int (nI xa), .int ri, .int fa, .int fq, .int bg, .long tm, .int ka, .long kb, .int va, .long vb]))]) (wr := [(aT, .inr (5, [.ref aR, .int (nI k), .int ch])), (aR, .inl (cA, n, .inl f)), (aF, .inr (1, [.ref aL, .int (nI dn), .int (nI wt), .int lt])), (aL, .inr (0, [.int md, .ref ea, .int (nI N)])), (aQ, .inr (4, [.ref aT, .ref aK, .ref aV, .int pl, .int en, .int so, .int sa, .long ti])), (aK, .inr (3, [.int kl, .int kp])), (aV, .inr (3, [.int vl, .int vp])), (a1, .inl (c1_, 16384, .inl tp)), (a2, .inl (c2_, 1000, .inr (.inl gk))), (a3, .inl (c3_, 1000, .inl gkb)), (a4, .inl (c4_, 1000, .inr (.inl gv))), (a5, .inl (c5_, 1000, .inl gvb)), (a6, .inl (c6_, 1000, .inl gl)), (aB, .inr (6, [.ref aT, .ref aF, .ref aQ, .int fk, .int fp])), (aO, .inl (cJ, 1, .inr (.inl fo)))]) (pl := plt) hP hD hS hA [7] [0, 1, 2, 3, 4, 5, 6, 8, 9, 10, 11, 12, 13, 14, 15] rfl rfl rfl (by decide) (by decide) (va_runV (As := [.int (xs (i + 1)), .long ((((xs (i + 2)).toInt64) <<< ((32 : Int32).toInt64 &&& 63)) ||| (((xs (i + 3)).toInt64) &&& 4294967295)), .int (xs (i + 4)), .long ((((xs (i + 5)).toInt64) <<< ((32 : Int32).toInt64 &&& 63)) ||| (((xs (i + 6)).toInt64) &&& 4294967295)), .int (xs (i + 7)), .int (xs (i + 8))]) (rest := []) ⟨hx, hb, hml, hown, hts⟩ (c_M_record_bad l dC dI _ aM co a1 k dn a2 a3 a4 a5 a6 xa ri fa fq bg tm ka kb va vb (xs (i + 1)) ((((xs (i + 2)).toInt64) <<< ((32 : Int32).toInt64 &&& 63)) ||| (((xs (i + 3)).toInt64) &&& 4294967295)) (xs (i + 4)) ((((xs (i + 5)).toInt64) <<< ((32 : Int32).toInt64 &&& 63)) ||| (((xs (i + 6)).toInt64) &&& 4294967295)) (xs (i + 7)) (xs (i + 8)) (hb2)) (kw_V 6 hts bw4_25 bw4_26 bw4_27 bw1_9 bw4_28 rfl rfl (by decide +kernel) ⟨Nat.le_of_ble_eq_true rfl, Nat.le_of_ble_eq_true rfl⟩) (kp_V (wc := [(aM, .inr (7, [.int co, .ref a1, .int (nI k), .int (nI dn), .ref a2, .ref a3, .ref a4, .ref a5, .ref a6, .int (nI xa), .int ri, .int fa, .int fq, .int bg, .long tm, .int ka, .long kb, .int va, .long vb]))]) (tc := []) (As := [.int (xs (i + 1)), .long ((((xs (i + 2)).toInt64) <<< ((32 : Int32).toInt64 &&& 63)) ||| (((xs (i + 3)).toInt64) &&& 4294967295)), .int (xs (i + 4)), .long ((((xs (i + 5)).toInt64) <<< ((32 : Int32).toInt64 &&& 63)) ||| (((xs (i + 6)).toInt64) &&& 4294967295)), .int (xs (i + 7)), .int (xs (i + 8))]) hG hS hA hP hD hK [7] rfl (by decide) rfl [] rfl (ci := 7) (q0 := 7) rfl rfl) rfl rfl hl.1 rfl (lv_room (Nat.le_of_ble_eq_true rfl)) dc_L_law_495 ⟨by show _ ≤ 601024; omega, by show _ ≤ 7293034; omega⟩) (fun r_2 _ H locs hw hP hD hK1 hS => ?_)
    have hw : 0 = r_2 := hw.symm
    subst hw
    have hP : va_P (dC, dI) vwCl ([(aT, .inr (5, [.ref aR, .int (nI k), .int ch])), (aR, .inl (cA, n, .inl f)), (aF, .inr (1, [.ref aL, .int (nI dn), .int (nI wt), .int lt])), (aL, .inr (0, [.int md, .ref ea, .int (nI N)])), (aQ, .inr (4, [.ref aT, .ref aK, .ref aV, .int pl, .int en, .int so, .int sa, .long ti])), (aK, .inr (3, [.int kl, .int kp])), (aV, .inr (3, [.int vl, .int vp])), (a1, .inl (c1_, 16384, .inl tp)), (a2, .inl (c2_, 1000, .inr (.inl gk))), (a3, .inl (c3_, 1000, .inl gkb)), (a4, .inl (c4_, 1000, .inr (.inl gv))), (a5, .inl (c5_, 1000, .inl gvb)), (a6, .inl (c6_, 1000, .inl gl)), (aB, .inr (6, [.ref aT, .ref aF, .ref aQ, .int fk, .int fp])), (aO, .inl (cJ, 1, .inr (.inl fo))), (aM, .inr (7, [.int 1, .ref a1, .int (nI k), .int (nI dn), .ref a2, .ref a3, .ref a4, .ref a5, .ref a6, .int (nI xa), .int ri, .int fa, .int fq, .int bg, .long tm, .int ka, .long kb, .int va, .long vb]))] ++ plt) H := hP
    have hD : va_D A ([(aT, .inr (5, [.ref aR, .int (nI k), .int ch])), (aR, .inl (cA, n, .inl f)), (aF, .inr (1, [.ref aL, .int (nI dn), .int (nI wt), .int lt])), (aL, .inr (0, [.int md, .ref ea, .int (nI N)])), (aQ, .inr (4, [.ref aT, .ref aK, .ref aV, .int pl, .int en, .int so, .int sa, .long ti])), (aK, .inr (3, [.int kl, .int kp])), (aV, .inr (3, [.int vl, .int vp])), (a1, .inl (c1_, 16384, .inl tp)), (a2, .inl (c2_, 1000, .inr (.inl gk))), (a3, .inl (c3_, 1000, .inl gkb)), (a4, .inl (c4_, 1000, .inr (.inl gv))), (a5, .inl (c5_, 1000, .inl gvb)), (a6, .inl (c6_, 1000, .inl gl)), (aB, .inr (6, [.ref aT, .ref aF, .ref aQ, .int fk, .int fp])), (aO, .inl (cJ, 1, .inr (.inl fo))), (aM, .inr (7, [.int 1, .ref a1, .int (nI k), .int (nI dn), .ref a2, .ref a3, .ref a4, .ref a5, .ref a6, .int (nI xa), .int ri, .int fa, .int fq, .int bg, .long tm, .int ka, .long kb, .int va, .long vb]))] ++ plt) := hD
    refine lv_istore (lv' := [(6, .int 0), (5, .int 1), (4, .int (nI i)), (3, .ref aO), (2, .ref aM), (1, .ref aB), (0, .ref b)]) hx hb dc_L_law_498 hl (by decide) rfl (fun ls hl => ?_)
    refine lv_aload_n hx hb dc_L_law_500 rfl (lv_at hl 4 rfl) ?_
    refine kc_iQ (X := [(aT, .inr (5, [.ref aR, .int (nI k), .int ch])), (aR, .inl (cA, n, .inl f)), (aF, .inr (1, [.ref aL, .int (nI dn), .int (nI wt), .int lt])), (aL, .inr (0, [.int md, .ref ea, .int (nI N)])), (aQ, .inr (4, [.ref aT, .ref aK, .ref aV, .int pl, .int en, .int so, .int sa, .long ti])), (aK, .inr (3, [.int kl, .int kp])), (aV, .inr (3, [.int vl, .int vp])), (a1, .inl (c1_, 16384, .inl tp)), (a2, .inl (c2_, 1000, .inr (.inl gk))), (a3, .inl (c3_, 1000, .inl gkb)), (a4, .inl (c4_, 1000, .inr (.inl gv))), (a5, .inl (c5_, 1000, .inl gvb)), (a6, .inl (c6_, 1000, .inl gl)), (aB, .inr (6, [.ref aT, .ref aF, .ref aQ, .int fk, .int fp])), (aO, .inl (cJ, 1, .inr (.inl fo))), (aM, .inr (7, [.int 1, .ref a1, .int (nI k), .int (nI dn), .ref a2, .ref a3, .ref a4, .ref a5, .ref a6, .int (nI xa), .int ri, .int fa, .int fq, .int bg, .long tm, .int ka, .long kb, .int va, .long vb]))]) (cx := [(aM, .inr (7, [.int 1, .ref a1, .int (nI k), .int (nI dn), .ref a2, .ref a3, .ref a4, .ref a5, .ref a6, .int (nI xa), .int ri, .int fa, .int fq, .int bg, .long tm, .int ka, .long kb, .int va, .long vb]))]) (wr := [(aT, .inr (5, [.ref aR, .int (nI k), .int ch])), (aR, .inl (cA, n, .inl f)), (aF, .inr (1, [.ref aL, .int (nI dn), .int (nI wt), .int lt])), (aL, .inr (0, [.int md, .ref ea, .int (nI N)])), (aQ, .inr (4, [.ref aT, .ref aK, .ref aV, .int pl, .int en, .int so, .int sa, .long ti])), (aK, .inr (3, [.int kl, .int kp])), (aV, .inr (3, [.int vl, .int vp])), (a1, .inl (c1_, 16384, .inl tp)), (a2, .inl (c2_, 1000, .inr (.inl gk))), (a3, .inl (c3_, 1000, .inl gkb)), (a4, .inl (c4_, 1000, .inr (.inl gv))), (a5, .inl (c5_, 1000, .inl gvb)), (a6, .inl (c6_, 1000, .inl gl)), (aB, .inr (6, [.ref aT, .ref aF, .ref aQ, .int fk, .int fp])), (aO, .inl (cJ, 1, .inr (.inl fo)))]) (pl := plt) hP hD hS hA [15] [0, 1, 2, 3, 4, 5, 6, 7, 8, 9, 10, 11, 12, 13, 14] rfl rfl rfl (by decide) (by decide) (va_runV (As := []) (rest := []) ⟨hx, hb, hml, hown, hts⟩ (c_M_thrown l dC dI _ aM 1 a1 k dn a2 a3 a4 a5 a6 xa ri fa fq bg tm ka kb va vb ) (kw_V 0 hts bw3_219 bw3_220 bw3_221 bw1_9 bw3_222 rfl rfl (by decide +kernel) ⟨Nat.le_of_ble_eq_true rfl, Nat.le_of_ble_eq_true rfl⟩) (kp_V (wc := [(aM, .inr (7, [.int 1, .ref a1, .int (nI k), .int (nI dn), .ref a2, .ref a3, .ref a4, .ref a5, .ref a6, .int (nI xa), .int ri, .int fa, .int fq, .int bg, .long tm, .int ka, .long kb, .int va, .long vb]))]) (tc := []) (As := []) hG hS hA hP hD hK [15] rfl (by decide) rfl [] rfl (ci := 7) (q0 := 15) rfl rfl) rfl rfl hl.1 rfl (lv_room (Nat.le_of_ble_eq_true rfl)) dc_L_law_501 ⟨by show _ ≤ 601024; omega, by show _ ≤ 7293034; omega⟩) (fun r_3 _ H locs hw hP hD hK1 hS => ?_)
    have hw : 1 = r_3 := hw.symm
    subst hw
    have hP : va_P (dC, dI) vwCl ([(aT, .inr (5, [.ref aR, .int (nI k), .int ch])), (aR, .inl (cA, n, .inl f)), (aF, .inr (1, [.ref aL, .int (nI dn), .int (nI wt), .int lt])), (aL, .inr (0, [.int md, .ref ea, .int (nI N)])), (aQ, .inr (4, [.ref aT, .ref aK, .ref aV, .int pl, .int en, .int so, .int sa, .long ti])), (aK, .inr (3, [.int kl, .int kp])), (aV, .inr (3, [.int vl, .int vp])), (a1, .inl (c1_, 16384, .inl tp)), (a2, .inl (c2_, 1000, .inr (.inl gk))), (a3, .inl (c3_, 1000, .inl gkb)), (a4, .inl (c4_, 1000, .inr (.inl gv))), (a5, .inl (c5_, 1000, .inl gvb)), (a6, .inl (c6_, 1000, .inl gl)), (aB, .inr (6, [.ref aT, .ref aF, .ref aQ, .int fk, .int fp])), (aO, .inl (cJ, 1, .inr (.inl fo))), (aM, .inr (7, [.int 1, .ref a1, .int (nI k), .int (nI dn), .ref a2, .ref a3, .ref a4, .ref a5, .ref a6, .int (nI xa), .int ri, .int fa, .int fq, .int bg, .long tm, .int ka, .long kb, .int va, .long vb]))] ++ plt) H := hP
    have hD : va_D A ([(aT, .inr (5, [.ref aR, .int (nI k), .int ch])), (aR, .inl (cA, n, .inl f)), (aF, .inr (1, [.ref aL, .int (nI dn), .int (nI wt), .int lt])), (aL, .inr (0, [.int md, .ref ea, .int (nI N)])), (aQ, .inr (4, [.ref aT, .ref aK, .ref aV, .int pl, .int en, .int so, .int sa, .long ti])), (aK, .inr (3, [.int kl, .int kp])), (aV, .inr (3, [.int vl, .int vp])), (a1, .inl (c1_, 16384, .inl tp)), (a2, .inl (c2_, 1000, .inr (.inl gk))), (a3, .inl (c3_, 1000, .inl gkb)), (a4, .inl (c4_, 1000, .inr (.inl gv))), (a5, .inl (c5_, 1000, .inl gvb)), (a6, .inl (c6_, 1000, .inl gl)), (aB, .inr (6, [.ref aT, .ref aF, .ref aQ, .int fk, .int fp])), (aO, .inl (cJ, 1, .inr (.inl fo))), (aM, .inr (7, [.int 1, .ref a1, .int (nI k), .int (nI dn), .ref a2, .ref a3, .ref a4, .ref a5, .ref a6, .int (nI xa), .int ri, .int fa, .int fq, .int bg, .long tm, .int ka, .long kb, .int va, .long vb]))] ++ plt) := hD
    refine lv_iload hx hb dc_L_law_504 (lv_at hl 1 rfl) ?_
    refine lv_icmp_eq (tgt := 511) hx hb dc_L_law_506 (by decide) (fun c_4 => ?_) (fun c_4 => ?_)
    · refine lv_iload hx hb dc_L_law_511 (lv_at hl 1 rfl) ?_
      refine lv_if_ne (tgt := 528) hx hb dc_L_law_513 (by decide) (fun c_5 => ?_) (fun c_5 => ?_)
      · refine lv_goto (tgt := 949) hx hb dc_L_law_528 (by decide) ?_
        have hP9 := hP.part (cx := [(aB, .inr (6, [.ref aT, .ref aF, .ref aQ, .int fk, .int fp])), (aT, .inr (5, [.ref aR, .int (nI k), .int ch])), (aR, .inl (cA, n, .inl f)), (aF, .inr (1, [.ref aL, .int (nI dn), .int (nI wt), .int lt])), (aL, .inr (0, [.int md, .ref ea, .int (nI N)])), (aQ, .inr (4, [.ref aT, .ref aK, .ref aV, .int pl, .int en, .int so, .int sa, .long ti])), (aK, .inr (3, [.int kl, .int kp])), (aV, .inr (3, [.int vl, .int vp])), (aO, .inl (cJ, 1, .inr (.inl fo))), (aM, .inr (7, [.int 1, .ref a1, .int (nI k), .int (nI dn), .ref a2, .ref a3, .ref a4, .ref a5, .ref a6, .int (nI xa), .int ri, .int fa, .int fq, .int bg, .long tm, .int ka, .long kb, .int va, .long vb])), (a1, .inl (c1_, 16384, .inl tp)), (a2, .inl (c2_, 1000, .inr (.inl gk))), (a3, .inl (c3_, 1000, .inl gkb)), (a4, .inl (c4_, 1000, .inr (.inl gv))), (a5, .inl (c5_, 1000, .inl gvb)), (a6, .inl (c6_, 1000, .inl gl))]) (pl := plt) [13, 0, 1, 2, 3, 4, 5, 6, 14, 15, 7, 8, 9, 10, 11, 12] rfl
        have hD9 := hD.part (cx := [(aB, .inr (6, [.ref aT, .ref aF, .ref aQ, .int fk, .int fp])), (aT, .inr (5, [.ref aR, .int (nI k), .int ch])), (aR, .inl (cA, n, .inl f)), (aF, .inr (1, [.ref aL, .int (nI dn), .int (nI wt), .int lt])), (aL, .inr (0, [.int md, .ref ea, .int (nI N)])), (aQ, .inr (4, [.ref aT, .ref aK, .ref aV, .int pl, .int en, .int so, .int sa, .long ti])), (aK, .inr (3, [.int kl, .int kp])), (aV, .inr (3, [.int vl, .int vp])), (aO, .inl (cJ, 1, .inr (.inl fo))), (aM, .inr (7, [.int 1, .ref a1, .int (nI k), .int (nI dn), .ref a2, .ref a3, .ref a4, .ref a5, .ref a6, .int (nI xa), .int ri, .int fa, .int fq, .int bg, .long tm, .int ka, .long kb, .int va, .long vb])), (a1, .inl (c1_, 16384, .inl tp)), (a2, .inl (c2_, 1000, .inr (.inl gk))), (a3, .inl (c3_, 1000, .inl gkb)), (a4, .inl (c4_, 1000, .inr (.inl gv))), (a5, .inl (c5_, 1000, .inl gvb)), (a6, .inl (c6_, 1000, .inl gl))]) (pl := plt) [13, 0, 1, 2, 3, 4, 5, 6, 14, 15, 7, 8, 9, 10, 11, 12] (by decide) rfl
        have hK9 := hK.sub (tys' := [(cA, .byte), (cO, .object "java/lang/Object"), (cJ, .long), (c1_, .int), (c2_, .long), (c3_, .int), (c4_, .long), (c5_, .int), (c6_, .int)]) [0, 1, 2, 3, 4, 5, 6, 7, 8] rfl
        exact W.widen (k := CN (i + 9)) (n := SN (i + 9) n ln) (by unfold CN; omega) (by unfold SN; omega) (KK n ln _ _ _ (INV_mk hP9 hD9 hK9 (r1) (r2) (r3) (r4) (r5) (r6) (r7) (r8)) hS (lv_sub hl [2, 3, 4, 5, 6] rfl))
      · exact absurd c_5 (by decide)
    · exact absurd (by decide) c_4
  · obtain ⟨⟨gn, hg1, hg2, hge⟩, hr1, hr2, hr3, hr4, hr5, hr6⟩ := rec_yes hbad
    obtain ⟨e1, e2, e3, e4, e5, e6, e7, e8, e9, e10⟩ := r6
    have hNd := gnum_ge e7
    rw [hge, nI_clamp (by omega)] at hfull
    refine lv_aload_n hx hb dc_L_law_345 rfl (lv_at hl 3 rfl) ?_
    refine lv_aload_n hx hb dc_L_law_346 rfl (lv_at hl 4 rfl) ?_
    refine lv_iload hx hb dc_L_law_347 (lv_at hl 0 rfl) ?_
    refine lv_iconst (v := 1) hx hb dc_L_law_349 (by decide) ?_
    refine lv_iadd hx hb dc_L_law_350 ?_
    refine W.eq (g2 := F0 m 351 ls [.int (nI (i + 1)), .ref b, .ref aB]) (by rw [show nI i + 1 = nI (i + 1) from nI_add i 1]) ?_
    refine va_sld hx hb hX hbl hbA hS (vp_in_nI (by omega) (by omega)) dc_L_law_351 ?_
    rw [show (nI (i + 1)).toNatClampNeg = i + 1 from nI_clamp (by omega)]
    refine lv_aload_n hx hb dc_L_law_352 rfl (lv_at hl 4 rfl) ?_
    refine lv_iload hx hb dc_L_law_353 (lv_at hl 0 rfl) ?_
    refine lv_iconst (v := 2) hx hb dc_L_law_355 (by decide) ?_
    refine lv_iadd hx hb dc_L_law_356 ?_
    refine W.eq (g2 := F0 m 357 ls [.int (nI (i + 2)), .ref b, .int (xs (i + 1)), .ref aB]) (by rw [show nI i + 2 = nI (i + 2) from nI_add i 2]) ?_
    refine va_sld hx hb hX hbl hbA hS (vp_in_nI (by omega) (by omega)) dc_L_law_357 ?_
    rw [show (nI (i + 2)).toNatClampNeg = i + 2 from nI_clamp (by omega)]
    refine lv_i2l (v := (xs (i + 2)).toInt64) hx hb dc_L_law_358 rfl ?_
    refine lv_bipush (v := 32) hx hb dc_L_law_359 (by decide) ?_
    refine lv_lshl (v := ((xs (i + 2)).toInt64) <<< ((32 : Int32).toInt64 &&& 63)) hx hb dc_L_law_361 rfl ?_
    refine lv_aload_n hx hb dc_L_law_362 rfl (lv_at hl 4 rfl) ?_
    refine lv_iload hx hb dc_L_law_363 (lv_at hl 0 rfl) ?_
    refine lv_iconst (v := 3) hx hb dc_L_law_365 (by decide) ?_
    refine lv_iadd hx hb dc_L_law_366 ?_
    refine W.eq (g2 := F0 m 367 ls [.int (nI (i + 3)), .ref b, .long (((xs (i + 2)).toInt64) <<< ((32 : Int32).toInt64 &&& 63)), .int (xs (i + 1)), .ref aB]) (by rw [show nI i + 3 = nI (i + 3) from nI_add i 3]) ?_
    refine va_sld hx hb hX hbl hbA hS (vp_in_nI (by omega) (by omega)) dc_L_law_367 ?_
    rw [show (nI (i + 3)).toNatClampNeg = i + 3 from nI_clamp (by omega)]
    refine lv_i2l (v := (xs (i + 3)).toInt64) hx hb dc_L_law_368 rfl ?_
    refine lv_ldc2 (v := 4294967295) hx hb hown (hts _ bw4_114) dc_L_law_369 ?_
    refine lv_land hx hb dc_L_law_372 ?_
    refine lv_lor hx hb dc_L_law_373 ?_
    refine lv_aload_n hx hb dc_L_law_374 rfl (lv_at hl 4 rfl) ?_
    refine lv_iload hx hb dc_L_law_375 (lv_at hl 0 rfl) ?_
    refine lv_iconst (v := 4) hx hb dc_L_law_377 (by decide) ?_
    refine lv_iadd hx hb dc_L_law_378 ?_
    refine W.eq (g2 := F0 m 379 ls [.int (nI (i + 4)), .ref b, .long ((((xs (i + 2)).toInt64) <<< ((32 : Int32).toInt64 &&& 63)) ||| (((xs (i + 3)).toInt64) &&& 4294967295)), .int (xs (i + 1)), .ref aB]) (by rw [show nI i + 4 = nI (i + 4) from nI_add i 4]) ?_
    refine va_sld hx hb hX hbl hbA hS (vp_in_nI (by omega) (by omega)) dc_L_law_379 ?_
    rw [show (nI (i + 4)).toNatClampNeg = i + 4 from nI_clamp (by omega)]
    refine lv_aload_n hx hb dc_L_law_380 rfl (lv_at hl 4 rfl) ?_
    refine lv_iload hx hb dc_L_law_381 (lv_at hl 0 rfl) ?_
    refine lv_iconst (v := 5) hx hb dc_L_law_383 (by decide) ?_
    refine lv_iadd hx hb dc_L_law_384 ?_
    refine W.eq (g2 := F0 m 385 ls [.int (nI (i + 5)), .ref b, .int (xs (i + 4)), .long ((((xs (i + 2)).toInt64) <<< ((32 : Int32).toInt64 &&& 63)) ||| (((xs (i + 3)).toInt64) &&& 4294967295)), .int (xs (i + 1)), .ref aB]) (by rw [show nI i + 5 = nI (i + 5) from nI_add i 5]) ?_
    refine va_sld hx hb hX hbl hbA hS (vp_in_nI (by omega) (by omega)) dc_L_law_385 ?_
    rw [show (nI (i + 5)).toNatClampNeg = i + 5 from nI_clamp (by omega)]
    refine lv_i2l (v := (xs (i + 5)).toInt64) hx hb dc_L_law_386 rfl ?_
    refine lv_bipush (v := 32) hx hb dc_L_law_387 (by decide) ?_
    refine lv_lshl (v := ((xs (i + 5)).toInt64) <<< ((32 : Int32).toInt64 &&& 63)) hx hb dc_L_law_389 rfl ?_
    refine lv_aload_n hx hb dc_L_law_390 rfl (lv_at hl 4 rfl) ?_
    refine lv_iload hx hb dc_L_law_391 (lv_at hl 0 rfl) ?_
    refine lv_bipush (v := 6) hx hb dc_L_law_393 (by decide) ?_
    refine lv_iadd hx hb dc_L_law_395 ?_
    refine W.eq (g2 := F0 m 396 ls [.int (nI (i + 6)), .ref b, .long (((xs (i + 5)).toInt64) <<< ((32 : Int32).toInt64 &&& 63)), .int (xs (i + 4)), .long ((((xs (i + 2)).toInt64) <<< ((32 : Int32).toInt64 &&& 63)) ||| (((xs (i + 3)).toInt64) &&& 4294967295)), .int (xs (i + 1)), .ref aB]) (by rw [show nI i + 6 = nI (i + 6) from nI_add i 6]) ?_
    refine va_sld hx hb hX hbl hbA hS (vp_in_nI (by omega) (by omega)) dc_L_law_396 ?_
    rw [show (nI (i + 6)).toNatClampNeg = i + 6 from nI_clamp (by omega)]
    refine lv_i2l (v := (xs (i + 6)).toInt64) hx hb dc_L_law_397 rfl ?_
    refine lv_ldc2 (v := 4294967295) hx hb hown (hts _ bw4_114) dc_L_law_398 ?_
    refine lv_land hx hb dc_L_law_401 ?_
    refine lv_lor hx hb dc_L_law_402 ?_
    refine lv_aload_n hx hb dc_L_law_403 rfl (lv_at hl 4 rfl) ?_
    refine lv_iload hx hb dc_L_law_404 (lv_at hl 0 rfl) ?_
    refine lv_bipush (v := 7) hx hb dc_L_law_406 (by decide) ?_
    refine lv_iadd hx hb dc_L_law_408 ?_
    refine W.eq (g2 := F0 m 409 ls [.int (nI (i + 7)), .ref b, .long ((((xs (i + 5)).toInt64) <<< ((32 : Int32).toInt64 &&& 63)) ||| (((xs (i + 6)).toInt64) &&& 4294967295)), .int (xs (i + 4)), .long ((((xs (i + 2)).toInt64) <<< ((32 : Int32).toInt64 &&& 63)) ||| (((xs (i + 3)).toInt64) &&& 4294967295)), .int (xs (i + 1)), .ref aB]) (by rw [show nI i + 7 = nI (i + 7) from nI_add i 7]) ?_
    refine va_sld hx hb hX hbl hbA hS (vp_in_nI (by omega) (by omega)) dc_L_law_409 ?_
    rw [show (nI (i + 7)).toNatClampNeg = i + 7 from nI_clamp (by omega)]
    refine lv_aload_n hx hb dc_L_law_410 rfl (lv_at hl 4 rfl) ?_
    refine lv_iload hx hb dc_L_law_411 (lv_at hl 0 rfl) ?_
    refine lv_bipush (v := 8) hx hb dc_L_law_413 (by decide) ?_
    refine lv_iadd hx hb dc_L_law_415 ?_
    refine W.eq (g2 := F0 m 416 ls [.int (nI (i + 8)), .ref b, .int (xs (i + 7)), .long ((((xs (i + 5)).toInt64) <<< ((32 : Int32).toInt64 &&& 63)) ||| (((xs (i + 6)).toInt64) &&& 4294967295)), .int (xs (i + 4)), .long ((((xs (i + 2)).toInt64) <<< ((32 : Int32).toInt64 &&& 63)) ||| (((xs (i + 3)).toInt64) &&& 4294967295)), .int (xs (i + 1)), .ref aB]) (by rw [show nI i + 8 = nI (i + 8) from nI_add i 8]) ?_
    refine va_sld hx hb hX hbl hbA hS (vp_in_nI (by omega) (by omega)) dc_L_law_416 ?_
    rw [show (nI (i + 8)).toNatClampNeg = i + 8 from nI_clamp (by omega)]
    refine lv_aload_n hx hb dc_L_law_417 rfl (lv_at hl 1 rfl) ?_
    refine W.eq (g2 := F0 m 418 ls [.ref aO, .int (xs (i + 8)), .int (xs (i + 7)), .long ((((xs (i + 5)).toInt64) <<< ((32 : Int32).toInt64 &&& 63)) ||| (((xs (i + 6)).toInt64) &&& 4294967295)), .int (xs (i + 4)), .long ((((xs (i + 2)).toInt64) <<< ((32 : Int32).toInt64 &&& 63)) ||| (((xs (i + 3)).toInt64) &&& 4294967295)), .int (nI gn), .ref aB]) (by rw [show (xs (i + 1)) = (nI gn) by exact hge]) ?_
    refine kc_iQ (X := [(aB, .inr (6, [.ref aT, .ref aF, .ref aQ, .int fk, .int fp])), (aT, .inr (5, [.ref aR, .int (nI k), .int ch])), (aR, .inl (cA, n, .inl f)), (aF, .inr (1, [.ref aL, .int (nI dn), .int (nI wt), .int lt])), (aL, .inr (0, [.int md, .ref ea, .int (nI N)])), (aQ, .inr (4, [.ref aT, .ref aK, .ref aV, .int pl, .int en, .int so, .int sa, .long ti])), (aK, .inr (3, [.int kl, .int kp])), (aV, .inr (3, [.int vl, .int vp])), (aO, .inl (cJ, 1, .inr (.inl fo))), (aM, .inr (7, [.int co, .ref a1, .int (nI k), .int (nI dn), .ref a2, .ref a3, .ref a4, .ref a5, .ref a6, .int (nI xa), .int ri, .int fa, .int fq, .int bg, .long tm, .int ka, .long kb, .int va, .long vb])), (a1, .inl (c1_, 16384, .inl tp)), (a2, .inl (c2_, 1000, .inr (.inl gk))), (a3, .inl (c3_, 1000, .inl gkb)), (a4, .inl (c4_, 1000, .inr (.inl gv))), (a5, .inl (c5_, 1000, .inl gvb)), (a6, .inl (c6_, 1000, .inl gl))]) (cx := [(aB, .inr (6, [.ref aT, .ref aF, .ref aQ, .int fk, .int fp])), (aF, .inr (1, [.ref aL, .int (nI dn), .int (nI wt), .int lt])), (aO, .inl (cJ, 1, .inr (.inl fo)))]) (wr := [(aT, .inr (5, [.ref aR, .int (nI k), .int ch])), (aR, .inl (cA, n, .inl f)), (aL, .inr (0, [.int md, .ref ea, .int (nI N)])), (aQ, .inr (4, [.ref aT, .ref aK, .ref aV, .int pl, .int en, .int so, .int sa, .long ti])), (aK, .inr (3, [.int kl, .int kp])), (aV, .inr (3, [.int vl, .int vp])), (aM, .inr (7, [.int co, .ref a1, .int (nI k), .int (nI dn), .ref a2, .ref a3, .ref a4, .ref a5, .ref a6, .int (nI xa), .int ri, .int fa, .int fq, .int bg, .long tm, .int ka, .long kb, .int va, .long vb])), (a1, .inl (c1_, 16384, .inl tp)), (a2, .inl (c2_, 1000, .inr (.inl gk))), (a3, .inl (c3_, 1000, .inl gkb)), (a4, .inl (c4_, 1000, .inr (.inl gv))), (a5, .inl (c5_, 1000, .inl gvb)), (a6, .inl (c6_, 1000, .inl gl))]) (pl := plt) hP hD hS hA [0, 3, 8] [1, 2, 4, 5, 6, 7, 9, 10, 11, 12, 13, 14, 15] rfl rfl rfl (by decide) (by decide) (vx_runSW (As := [.ref aB, .int (nI gn), .long ((((xs (i + 2)).toInt64) <<< ((32 : Int32).toInt64 &&& 63)) ||| (((xs (i + 3)).toInt64) &&& 4294967295)), .int (xs (i + 4)), .long ((((xs (i + 5)).toInt64) <<< ((32 : Int32).toInt64 &&& 63)) ||| (((xs (i + 6)).toInt64) &&& 4294967295)), .int (xs (i + 7)), .int (xs (i + 8)), .ref aO]) (rest := []) ⟨hx, hb, hml, hown, hts⟩ (c_L_record_full l dC dI _ aB aT aF aQ fk fp aL dn wt lt gn ((((xs (i + 2)).toInt64) <<< ((32 : Int32).toInt64 &&& 63)) ||| (((xs (i + 3)).toInt64) &&& 4294967295)) (xs (i + 4)) ((((xs (i + 5)).toInt64) <<< ((32 : Int32).toInt64 &&& 63)) ||| (((xs (i + 6)).toInt64) &&& 4294967295)) (xs (i + 7)) (xs (i + 8)) aO cJ fo (hg1) (hg2) (hr1) (hr2) (hr3) (hr4) (hr5) (hr6) (e2) (e4) (Or.inl hfull) hst) (kw_SW 8 hts bw2_115 bw2_116 bw1_0 bw2_117 rfl rfl (by decide +kernel) ⟨Nat.le_of_ble_eq_true rfl, Nat.le_of_ble_eq_true rfl⟩) (kp_S (wc := [(aB, .inr (6, [.ref aT, .ref aF, .ref aQ, .int fk, .int fp])), (aF, .inr (1, [.ref aL, .int (nI dn), .int (nI wt), .int lt])), (aO, .inl (cJ, 1, .inr (.inl fo)))]) (tc := [(cJ, .long)]) (av := [.ref aB, .int (nI gn), .long ((((xs (i + 2)).toInt64) <<< ((32 : Int32).toInt64 &&& 63)) ||| (((xs (i + 3)).toInt64) &&& 4294967295)), .int (xs (i + 4)), .long ((((xs (i + 5)).toInt64) <<< ((32 : Int32).toInt64 &&& 63)) ||| (((xs (i + 6)).toInt64) &&& 4294967295)), .int (xs (i + 7)), .int (xs (i + 8)), .ref aO]) hG hS hA hP hD hK [0, 3, 8] rfl (by decide) rfl [2] rfl) rfl rfl hl.1 rfl (lv_room (Nat.le_of_ble_eq_true rfl)) dc_L_law_418 ⟨by show _ ≤ 601024; omega, by show _ ≤ 7293034; omega⟩) (fun r_1 _ H locs hw hP hD hK1 hS => ?_)
    have hw : 2 = r_1 := hw.symm
    subst hw
    have hP : va_P (dC, dI) vwCl ([(aT, .inr (5, [.ref aR, .int (nI k), .int ch])), (aR, .inl (cA, n, .inl f)), (aL, .inr (0, [.int md, .ref ea, .int (nI N)])), (aQ, .inr (4, [.ref aT, .ref aK, .ref aV, .int pl, .int en, .int so, .int sa, .long ti])), (aK, .inr (3, [.int kl, .int kp])), (aV, .inr (3, [.int vl, .int vp])), (aM, .inr (7, [.int co, .ref a1, .int (nI k), .int (nI dn), .ref a2, .ref a3, .ref a4, .ref a5, .ref a6, .int (nI xa), .int ri, .int fa, .int fq, .int bg, .long tm, .int ka, .long kb, .int va, .long vb])), (a1, .inl (c1_, 16384, .inl tp)), (a2, .inl (c2_, 1000, .inr (.inl gk))), (a3, .inl (c3_, 1000, .inl gkb)), (a4, .inl (c4_, 1000, .inr (.inl gv))), (a5, .inl (c5_, 1000, .inl gvb)), (a6, .inl (c6_, 1000, .inl gl)), (aB, .inr (6, [.ref aT, .ref aF, .ref aQ, .int fk, .int fp])), (aF, .inr (1, [.ref aL, .int (nI dn), .int (nI wt), .int lt])), (aO, .inl (cJ, 1, .inr (.inl fo)))] ++ plt) H := hP
    have hD : va_D A ([(aT, .inr (5, [.ref aR, .int (nI k), .int ch])), (aR, .inl (cA, n, .inl f)), (aL, .inr (0, [.int md, .ref ea, .int (nI N)])), (aQ, .inr (4, [.ref aT, .ref aK, .ref aV, .int pl, .int en, .int so, .int sa, .long ti])), (aK, .inr (3, [.int kl, .int kp])), (aV, .inr (3, [.int vl, .int vp])), (aM, .inr (7, [.int co, .ref a1, .int (nI k), .int (nI dn), .ref a2, .ref a3, .ref a4, .ref a5, .ref a6, .int (nI xa), .int ri, .int fa, .int fq, .int bg, .long tm, .int ka, .long kb, .int va, .long vb])), (a1, .inl (c1_, 16384, .inl tp)), (a2, .inl (c2_, 1000, .inr (.inl gk))), (a3, .inl (c3_, 1000, .inl gkb)), (a4, .inl (c4_, 1000, .inr (.inl gv))), (a5, .inl (c5_, 1000, .inl gvb)), (a6, .inl (c6_, 1000, .inl gl)), (aB, .inr (6, [.ref aT, .ref aF, .ref aQ, .int fk, .int fp])), (aF, .inr (1, [.ref aL, .int (nI dn), .int (nI wt), .int lt])), (aO, .inl (cJ, 1, .inr (.inl fo)))] ++ plt) := hD
    refine lv_istore (lv' := [(5, .int 2), (4, .int (nI i)), (3, .ref aO), (2, .ref aM), (1, .ref aB), (0, .ref b)]) hx hb dc_L_law_421 hl (by decide) rfl (fun ls hl => ?_)
    refine lv_aload_n hx hb dc_L_law_423 rfl (lv_at hl 3 rfl) ?_
    refine lv_aload_n hx hb dc_L_law_424 rfl (lv_at hl 5 rfl) ?_
    refine lv_iload hx hb dc_L_law_425 (lv_at hl 1 rfl) ?_
    refine lv_iconst (v := 1) hx hb dc_L_law_427 (by decide) ?_
    refine lv_iadd hx hb dc_L_law_428 ?_
    refine W.eq (g2 := F0 m 429 ls [.int (nI (i + 1)), .ref b, .ref aM]) (by rw [show nI i + 1 = nI (i + 1) from nI_add i 1]) ?_
    refine va_sld hx hb hX hbl hbA hS (vp_in_nI (by omega) (by omega)) dc_L_law_429 ?_
    rw [show (nI (i + 1)).toNatClampNeg = i + 1 from nI_clamp (by omega)]
    refine lv_aload_n hx hb dc_L_law_430 rfl (lv_at hl 5 rfl) ?_
    refine lv_iload hx hb dc_L_law_431 (lv_at hl 1 rfl) ?_
    refine lv_iconst (v := 2) hx hb dc_L_law_433 (by decide) ?_
    refine lv_iadd hx hb dc_L_law_434 ?_
    refine W.eq (g2 := F0 m 435 ls [.int (nI (i + 2)), .ref b, .int (xs (i + 1)), .ref aM]) (by rw [show nI i + 2 = nI (i + 2) from nI_add i 2]) ?_
    refine va_sld hx hb hX hbl hbA hS (vp_in_nI (by omega) (by omega)) dc_L_law_435 ?_
    rw [show (nI (i + 2)).toNatClampNeg = i + 2 from nI_clamp (by omega)]
    refine lv_i2l (v := (xs (i + 2)).toInt64) hx hb dc_L_law_436 rfl ?_
    refine lv_bipush (v := 32) hx hb dc_L_law_437 (by decide) ?_
    refine lv_lshl (v := ((xs (i + 2)).toInt64) <<< ((32 : Int32).toInt64 &&& 63)) hx hb dc_L_law_439 rfl ?_
    refine lv_aload_n hx hb dc_L_law_440 rfl (lv_at hl 5 rfl) ?_
    refine lv_iload hx hb dc_L_law_441 (lv_at hl 1 rfl) ?_
    refine lv_iconst (v := 3) hx hb dc_L_law_443 (by decide) ?_
    refine lv_iadd hx hb dc_L_law_444 ?_
    refine W.eq (g2 := F0 m 445 ls [.int (nI (i + 3)), .ref b, .long (((xs (i + 2)).toInt64) <<< ((32 : Int32).toInt64 &&& 63)), .int (xs (i + 1)), .ref aM]) (by rw [show nI i + 3 = nI (i + 3) from nI_add i 3]) ?_
    refine va_sld hx hb hX hbl hbA hS (vp_in_nI (by omega) (by omega)) dc_L_law_445 ?_
    rw [show (nI (i + 3)).toNatClampNeg = i + 3 from nI_clamp (by omega)]
    refine lv_i2l (v := (xs (i + 3)).toInt64) hx hb dc_L_law_446 rfl ?_
    refine lv_ldc2 (v := 4294967295) hx hb hown (hts _ bw4_114) dc_L_law_447 ?_
    refine lv_land hx hb dc_L_law_450 ?_
    refine lv_lor hx hb dc_L_law_451 ?_
    refine lv_aload_n hx hb dc_L_law_452 rfl (lv_at hl 5 rfl) ?_
    refine lv_iload hx hb dc_L_law_453 (lv_at hl 1 rfl) ?_
    refine lv_iconst (v := 4) hx hb dc_L_law_455 (by decide) ?_
    refine lv_iadd hx hb dc_L_law_456 ?_
    refine W.eq (g2 := F0 m 457 ls [.int (nI (i + 4)), .ref b, .long ((((xs (i + 2)).toInt64) <<< ((32 : Int32).toInt64 &&& 63)) ||| (((xs (i + 3)).toInt64) &&& 4294967295)), .int (xs (i + 1)), .ref aM]) (by rw [show nI i + 4 = nI (i + 4) from nI_add i 4]) ?_
    refine va_sld hx hb hX hbl hbA hS (vp_in_nI (by omega) (by omega)) dc_L_law_457 ?_
    rw [show (nI (i + 4)).toNatClampNeg = i + 4 from nI_clamp (by omega)]
    refine lv_aload_n hx hb dc_L_law_458 rfl (lv_at hl 5 rfl) ?_
    refine lv_iload hx hb dc_L_law_459 (lv_at hl 1 rfl) ?_
    refine lv_iconst (v := 5) hx hb dc_L_law_461 (by decide) ?_
    refine lv_iadd hx hb dc_L_law_462 ?_
    refine W.eq (g2 := F0 m 463 ls [.int (nI (i + 5)), .ref b, .int (xs (i + 4)), .long ((((xs (i + 2)).toInt64) <<< ((32 : Int32).toInt64 &&& 63)) ||| (((xs (i + 3)).toInt64) &&& 4294967295)), .int (xs (i + 1)), .ref aM]) (by rw [show nI i + 5 = nI (i + 5) from nI_add i 5]) ?_
    refine va_sld hx hb hX hbl hbA hS (vp_in_nI (by omega) (by omega)) dc_L_law_463 ?_
    rw [show (nI (i + 5)).toNatClampNeg = i + 5 from nI_clamp (by omega)]
    refine lv_i2l (v := (xs (i + 5)).toInt64) hx hb dc_L_law_464 rfl ?_
    refine lv_bipush (v := 32) hx hb dc_L_law_465 (by decide) ?_
    refine lv_lshl (v := ((xs (i + 5)).toInt64) <<< ((32 : Int32).toInt64 &&& 63)) hx hb dc_L_law_467 rfl ?_
    refine lv_aload_n hx hb dc_L_law_468 rfl (lv_at hl 5 rfl) ?_
    refine lv_iload hx hb dc_L_law_469 (lv_at hl 1 rfl) ?_
    refine lv_bipush (v := 6) hx hb dc_L_law_471 (by decide) ?_
    refine lv_iadd hx hb dc_L_law_473 ?_
    refine W.eq (g2 := F0 m 474 ls [.int (nI (i + 6)), .ref b, .long (((xs (i + 5)).toInt64) <<< ((32 : Int32).toInt64 &&& 63)), .int (xs (i + 4)), .long ((((xs (i + 2)).toInt64) <<< ((32 : Int32).toInt64 &&& 63)) ||| (((xs (i + 3)).toInt64) &&& 4294967295)), .int (xs (i + 1)), .ref aM]) (by rw [show nI i + 6 = nI (i + 6) from nI_add i 6]) ?_
    refine va_sld hx hb hX hbl hbA hS (vp_in_nI (by omega) (by omega)) dc_L_law_474 ?_
    rw [show (nI (i + 6)).toNatClampNeg = i + 6 from nI_clamp (by omega)]
    refine lv_i2l (v := (xs (i + 6)).toInt64) hx hb dc_L_law_475 rfl ?_
    refine lv_ldc2 (v := 4294967295) hx hb hown (hts _ bw4_114) dc_L_law_476 ?_
    refine lv_land hx hb dc_L_law_479 ?_
    refine lv_lor hx hb dc_L_law_480 ?_
    refine lv_aload_n hx hb dc_L_law_481 rfl (lv_at hl 5 rfl) ?_
    refine lv_iload hx hb dc_L_law_482 (lv_at hl 1 rfl) ?_
    refine lv_bipush (v := 7) hx hb dc_L_law_484 (by decide) ?_
    refine lv_iadd hx hb dc_L_law_486 ?_
    refine W.eq (g2 := F0 m 487 ls [.int (nI (i + 7)), .ref b, .long ((((xs (i + 5)).toInt64) <<< ((32 : Int32).toInt64 &&& 63)) ||| (((xs (i + 6)).toInt64) &&& 4294967295)), .int (xs (i + 4)), .long ((((xs (i + 2)).toInt64) <<< ((32 : Int32).toInt64 &&& 63)) ||| (((xs (i + 3)).toInt64) &&& 4294967295)), .int (xs (i + 1)), .ref aM]) (by rw [show nI i + 7 = nI (i + 7) from nI_add i 7]) ?_
    refine va_sld hx hb hX hbl hbA hS (vp_in_nI (by omega) (by omega)) dc_L_law_487 ?_
    rw [show (nI (i + 7)).toNatClampNeg = i + 7 from nI_clamp (by omega)]
    refine lv_aload_n hx hb dc_L_law_488 rfl (lv_at hl 5 rfl) ?_
    refine lv_iload hx hb dc_L_law_489 (lv_at hl 1 rfl) ?_
    refine lv_bipush (v := 8) hx hb dc_L_law_491 (by decide) ?_
    refine lv_iadd hx hb dc_L_law_493 ?_
    refine W.eq (g2 := F0 m 494 ls [.int (nI (i + 8)), .ref b, .int (xs (i + 7)), .long ((((xs (i + 5)).toInt64) <<< ((32 : Int32).toInt64 &&& 63)) ||| (((xs (i + 6)).toInt64) &&& 4294967295)), .int (xs (i + 4)), .long ((((xs (i + 2)).toInt64) <<< ((32 : Int32).toInt64 &&& 63)) ||| (((xs (i + 3)).toInt64) &&& 4294967295)), .int (xs (i + 1)), .ref aM]) (by rw [show nI i + 8 = nI (i + 8) from nI_add i 8]) ?_
    refine va_sld hx hb hX hbl hbA hS (vp_in_nI (by omega) (by omega)) dc_L_law_494 ?_
    rw [show (nI (i + 8)).toNatClampNeg = i + 8 from nI_clamp (by omega)]
    refine W.eq (g2 := F0 m 495 ls [.int (xs (i + 8)), .int (xs (i + 7)), .long ((((xs (i + 5)).toInt64) <<< ((32 : Int32).toInt64 &&& 63)) ||| (((xs (i + 6)).toInt64) &&& 4294967295)), .int (xs (i + 4)), .long ((((xs (i + 2)).toInt64) <<< ((32 : Int32).toInt64 &&& 63)) ||| (((xs (i + 3)).toInt64) &&& 4294967295)), .int (nI gn), .ref aM]) (by rw [show (xs (i + 1)) = (nI gn) by exact hge]) ?_
    refine kc_iQ (X := [(aT, .inr (5, [.ref aR, .int (nI k), .int ch])), (aR, .inl (cA, n, .inl f)), (aL, .inr (0, [.int md, .ref ea, .int (nI N)])), (aQ, .inr (4, [.ref aT, .ref aK, .ref aV, .int pl, .int en, .int so, .int sa, .long ti])), (aK, .inr (3, [.int kl, .int kp])), (aV, .inr (3, [.int vl, .int vp])), (aM, .inr (7, [.int co, .ref a1, .int (nI k), .int (nI dn), .ref a2, .ref a3, .ref a4, .ref a5, .ref a6, .int (nI xa), .int ri, .int fa, .int fq, .int bg, .long tm, .int ka, .long kb, .int va, .long vb])), (a1, .inl (c1_, 16384, .inl tp)), (a2, .inl (c2_, 1000, .inr (.inl gk))), (a3, .inl (c3_, 1000, .inl gkb)), (a4, .inl (c4_, 1000, .inr (.inl gv))), (a5, .inl (c5_, 1000, .inl gvb)), (a6, .inl (c6_, 1000, .inl gl)), (aB, .inr (6, [.ref aT, .ref aF, .ref aQ, .int fk, .int fp])), (aF, .inr (1, [.ref aL, .int (nI dn), .int (nI wt), .int lt])), (aO, .inl (cJ, 1, .inr (.inl fo)))]) (cx := [(aM, .inr (7, [.int co, .ref a1, .int (nI k), .int (nI dn), .ref a2, .ref a3, .ref a4, .ref a5, .ref a6, .int (nI xa), .int ri, .int fa, .int fq, .int bg, .long tm, .int ka, .long kb, .int va, .long vb]))]) (wr := [(aT, .inr (5, [.ref aR, .int (nI k), .int ch])), (aR, .inl (cA, n, .inl f)), (aL, .inr (0, [.int md, .ref ea, .int (nI N)])), (aQ, .inr (4, [.ref aT, .ref aK, .ref aV, .int pl, .int en, .int so, .int sa, .long ti])), (aK, .inr (3, [.int kl, .int kp])), (aV, .inr (3, [.int vl, .int vp])), (a1, .inl (c1_, 16384, .inl tp)), (a2, .inl (c2_, 1000, .inr (.inl gk))), (a3, .inl (c3_, 1000, .inl gkb)), (a4, .inl (c4_, 1000, .inr (.inl gv))), (a5, .inl (c5_, 1000, .inl gvb)), (a6, .inl (c6_, 1000, .inl gl)), (aB, .inr (6, [.ref aT, .ref aF, .ref aQ, .int fk, .int fp])), (aF, .inr (1, [.ref aL, .int (nI dn), .int (nI wt), .int lt])), (aO, .inl (cJ, 1, .inr (.inl fo)))]) (pl := plt) hP hD hS hA [6] [0, 1, 2, 3, 4, 5, 7, 8, 9, 10, 11, 12, 13, 14, 15] rfl rfl rfl (by decide) (by decide) (va_runV (As := [.int (nI gn), .long ((((xs (i + 2)).toInt64) <<< ((32 : Int32).toInt64 &&& 63)) ||| (((xs (i + 3)).toInt64) &&& 4294967295)), .int (xs (i + 4)), .long ((((xs (i + 5)).toInt64) <<< ((32 : Int32).toInt64 &&& 63)) ||| (((xs (i + 6)).toInt64) &&& 4294967295)), .int (xs (i + 7)), .int (xs (i + 8))]) (rest := []) ⟨hx, hb, hml, hown, hts⟩ (c_M_record_full l dC dI _ aM co a1 k dn a2 a3 a4 a5 a6 xa ri fa fq bg tm ka kb va vb gn ((((xs (i + 2)).toInt64) <<< ((32 : Int32).toInt64 &&& 63)) ||| (((xs (i + 3)).toInt64) &&& 4294967295)) (xs (i + 4)) ((((xs (i + 5)).toInt64) <<< ((32 : Int32).toInt64 &&& 63)) ||| (((xs (i + 6)).toInt64) &&& 4294967295)) (xs (i + 7)) (xs (i + 8)) (hg1) (hg2) (hr1) (Int32.not_lt.mpr hr2) (hr3) (Int32.not_lt.mpr hr4) (hr5) (hr6) (e2) (hfull)) (kw_V 6 hts bw4_25 bw4_26 bw4_27 bw1_9 bw4_28 rfl rfl (by decide +kernel) ⟨Nat.le_of_ble_eq_true rfl, Nat.le_of_ble_eq_true rfl⟩) (kp_V (wc := [(aM, .inr (7, [.int co, .ref a1, .int (nI k), .int (nI dn), .ref a2, .ref a3, .ref a4, .ref a5, .ref a6, .int (nI xa), .int ri, .int fa, .int fq, .int bg, .long tm, .int ka, .long kb, .int va, .long vb]))]) (tc := []) (As := [.int (nI gn), .long ((((xs (i + 2)).toInt64) <<< ((32 : Int32).toInt64 &&& 63)) ||| (((xs (i + 3)).toInt64) &&& 4294967295)), .int (xs (i + 4)), .long ((((xs (i + 5)).toInt64) <<< ((32 : Int32).toInt64 &&& 63)) ||| (((xs (i + 6)).toInt64) &&& 4294967295)), .int (xs (i + 7)), .int (xs (i + 8))]) hG hS hA hP hD hK [6] rfl (by decide) rfl [] rfl (ci := 7) (q0 := 6) rfl rfl) rfl rfl hl.1 rfl (lv_room (Nat.le_of_ble_eq_true rfl)) dc_L_law_495 ⟨by show _ ≤ 601024; omega, by show _ ≤ 7293034; omega⟩) (fun r_2 _ H locs hw hP hD hK1 hS => ?_)
    have hw : 0 = r_2 := hw.symm
    subst hw
    have hP : va_P (dC, dI) vwCl ([(aT, .inr (5, [.ref aR, .int (nI k), .int ch])), (aR, .inl (cA, n, .inl f)), (aL, .inr (0, [.int md, .ref ea, .int (nI N)])), (aQ, .inr (4, [.ref aT, .ref aK, .ref aV, .int pl, .int en, .int so, .int sa, .long ti])), (aK, .inr (3, [.int kl, .int kp])), (aV, .inr (3, [.int vl, .int vp])), (a1, .inl (c1_, 16384, .inl tp)), (a2, .inl (c2_, 1000, .inr (.inl gk))), (a3, .inl (c3_, 1000, .inl gkb)), (a4, .inl (c4_, 1000, .inr (.inl gv))), (a5, .inl (c5_, 1000, .inl gvb)), (a6, .inl (c6_, 1000, .inl gl)), (aB, .inr (6, [.ref aT, .ref aF, .ref aQ, .int fk, .int fp])), (aF, .inr (1, [.ref aL, .int (nI dn), .int (nI wt), .int lt])), (aO, .inl (cJ, 1, .inr (.inl fo))), (aM, .inr (7, [.int 2, .ref a1, .int (nI k), .int (nI dn), .ref a2, .ref a3, .ref a4, .ref a5, .ref a6, .int (nI xa), .int ri, .int fa, .int fq, .int bg, .long tm, .int ka, .long kb, .int va, .long vb]))] ++ plt) H := hP
    have hD : va_D A ([(aT, .inr (5, [.ref aR, .int (nI k), .int ch])), (aR, .inl (cA, n, .inl f)), (aL, .inr (0, [.int md, .ref ea, .int (nI N)])), (aQ, .inr (4, [.ref aT, .ref aK, .ref aV, .int pl, .int en, .int so, .int sa, .long ti])), (aK, .inr (3, [.int kl, .int kp])), (aV, .inr (3, [.int vl, .int vp])), (a1, .inl (c1_, 16384, .inl tp)), (a2, .inl (c2_, 1000, .inr (.inl gk))), (a3, .inl (c3_, 1000, .inl gkb)), (a4, .inl (c4_, 1000, .inr (.inl gv))), (a5, .inl (c5_, 1000, .inl gvb)), (a6, .inl (c6_, 1000, .inl gl)), (aB, .inr (6, [.ref aT, .ref aF, .ref aQ, .int fk, .int fp])), (aF, .inr (1, [.ref aL, .int (nI dn), .int (nI wt), .int lt])), (aO, .inl (cJ, 1, .inr (.inl fo))), (aM, .inr (7, [.int 2, .ref a1, .int (nI k), .int (nI dn), .ref a2, .ref a3, .ref a4, .ref a5, .ref a6, .int (nI xa), .int ri, .int fa, .int fq, .int bg, .long tm, .int ka, .long kb, .int va, .long vb]))] ++ plt) := hD
    refine lv_istore (lv' := [(6, .int 0), (5, .int 2), (4, .int (nI i)), (3, .ref aO), (2, .ref aM), (1, .ref aB), (0, .ref b)]) hx hb dc_L_law_498 hl (by decide) rfl (fun ls hl => ?_)
    refine lv_aload_n hx hb dc_L_law_500 rfl (lv_at hl 4 rfl) ?_
    refine kc_iQ (X := [(aT, .inr (5, [.ref aR, .int (nI k), .int ch])), (aR, .inl (cA, n, .inl f)), (aL, .inr (0, [.int md, .ref ea, .int (nI N)])), (aQ, .inr (4, [.ref aT, .ref aK, .ref aV, .int pl, .int en, .int so, .int sa, .long ti])), (aK, .inr (3, [.int kl, .int kp])), (aV, .inr (3, [.int vl, .int vp])), (a1, .inl (c1_, 16384, .inl tp)), (a2, .inl (c2_, 1000, .inr (.inl gk))), (a3, .inl (c3_, 1000, .inl gkb)), (a4, .inl (c4_, 1000, .inr (.inl gv))), (a5, .inl (c5_, 1000, .inl gvb)), (a6, .inl (c6_, 1000, .inl gl)), (aB, .inr (6, [.ref aT, .ref aF, .ref aQ, .int fk, .int fp])), (aF, .inr (1, [.ref aL, .int (nI dn), .int (nI wt), .int lt])), (aO, .inl (cJ, 1, .inr (.inl fo))), (aM, .inr (7, [.int 2, .ref a1, .int (nI k), .int (nI dn), .ref a2, .ref a3, .ref a4, .ref a5, .ref a6, .int (nI xa), .int ri, .int fa, .int fq, .int bg, .long tm, .int ka, .long kb, .int va, .long vb]))]) (cx := [(aM, .inr (7, [.int 2, .ref a1, .int (nI k), .int (nI dn), .ref a2, .ref a3, .ref a4, .ref a5, .ref a6, .int (nI xa), .int ri, .int fa, .int fq, .int bg, .long tm, .int ka, .long kb, .int va, .long vb]))]) (wr := [(aT, .inr (5, [.ref aR, .int (nI k), .int ch])), (aR, .inl (cA, n, .inl f)), (aL, .inr (0, [.int md, .ref ea, .int (nI N)])), (aQ, .inr (4, [.ref aT, .ref aK, .ref aV, .int pl, .int en, .int so, .int sa, .long ti])), (aK, .inr (3, [.int kl, .int kp])), (aV, .inr (3, [.int vl, .int vp])), (a1, .inl (c1_, 16384, .inl tp)), (a2, .inl (c2_, 1000, .inr (.inl gk))), (a3, .inl (c3_, 1000, .inl gkb)), (a4, .inl (c4_, 1000, .inr (.inl gv))), (a5, .inl (c5_, 1000, .inl gvb)), (a6, .inl (c6_, 1000, .inl gl)), (aB, .inr (6, [.ref aT, .ref aF, .ref aQ, .int fk, .int fp])), (aF, .inr (1, [.ref aL, .int (nI dn), .int (nI wt), .int lt])), (aO, .inl (cJ, 1, .inr (.inl fo)))]) (pl := plt) hP hD hS hA [15] [0, 1, 2, 3, 4, 5, 6, 7, 8, 9, 10, 11, 12, 13, 14] rfl rfl rfl (by decide) (by decide) (va_runV (As := []) (rest := []) ⟨hx, hb, hml, hown, hts⟩ (c_M_thrown l dC dI _ aM 2 a1 k dn a2 a3 a4 a5 a6 xa ri fa fq bg tm ka kb va vb ) (kw_V 0 hts bw3_219 bw3_220 bw3_221 bw1_9 bw3_222 rfl rfl (by decide +kernel) ⟨Nat.le_of_ble_eq_true rfl, Nat.le_of_ble_eq_true rfl⟩) (kp_V (wc := [(aM, .inr (7, [.int 2, .ref a1, .int (nI k), .int (nI dn), .ref a2, .ref a3, .ref a4, .ref a5, .ref a6, .int (nI xa), .int ri, .int fa, .int fq, .int bg, .long tm, .int ka, .long kb, .int va, .long vb]))]) (tc := []) (As := []) hG hS hA hP hD hK [15] rfl (by decide) rfl [] rfl (ci := 7) (q0 := 15) rfl rfl) rfl rfl hl.1 rfl (lv_room (Nat.le_of_ble_eq_true rfl)) dc_L_law_501 ⟨by show _ ≤ 601024; omega, by show _ ≤ 7293034; omega⟩) (fun r_3 _ H locs hw hP hD hK1 hS => ?_)
    have hw : 2 = r_3 := hw.symm
    subst hw
    have hP : va_P (dC, dI) vwCl ([(aT, .inr (5, [.ref aR, .int (nI k), .int ch])), (aR, .inl (cA, n, .inl f)), (aL, .inr (0, [.int md, .ref ea, .int (nI N)])), (aQ, .inr (4, [.ref aT, .ref aK, .ref aV, .int pl, .int en, .int so, .int sa, .long ti])), (aK, .inr (3, [.int kl, .int kp])), (aV, .inr (3, [.int vl, .int vp])), (a1, .inl (c1_, 16384, .inl tp)), (a2, .inl (c2_, 1000, .inr (.inl gk))), (a3, .inl (c3_, 1000, .inl gkb)), (a4, .inl (c4_, 1000, .inr (.inl gv))), (a5, .inl (c5_, 1000, .inl gvb)), (a6, .inl (c6_, 1000, .inl gl)), (aB, .inr (6, [.ref aT, .ref aF, .ref aQ, .int fk, .int fp])), (aF, .inr (1, [.ref aL, .int (nI dn), .int (nI wt), .int lt])), (aO, .inl (cJ, 1, .inr (.inl fo))), (aM, .inr (7, [.int 2, .ref a1, .int (nI k), .int (nI dn), .ref a2, .ref a3, .ref a4, .ref a5, .ref a6, .int (nI xa), .int ri, .int fa, .int fq, .int bg, .long tm, .int ka, .long kb, .int va, .long vb]))] ++ plt) H := hP
    have hD : va_D A ([(aT, .inr (5, [.ref aR, .int (nI k), .int ch])), (aR, .inl (cA, n, .inl f)), (aL, .inr (0, [.int md, .ref ea, .int (nI N)])), (aQ, .inr (4, [.ref aT, .ref aK, .ref aV, .int pl, .int en, .int so, .int sa, .long ti])), (aK, .inr (3, [.int kl, .int kp])), (aV, .inr (3, [.int vl, .int vp])), (a1, .inl (c1_, 16384, .inl tp)), (a2, .inl (c2_, 1000, .inr (.inl gk))), (a3, .inl (c3_, 1000, .inl gkb)), (a4, .inl (c4_, 1000, .inr (.inl gv))), (a5, .inl (c5_, 1000, .inl gvb)), (a6, .inl (c6_, 1000, .inl gl)), (aB, .inr (6, [.ref aT, .ref aF, .ref aQ, .int fk, .int fp])), (aF, .inr (1, [.ref aL, .int (nI dn), .int (nI wt), .int lt])), (aO, .inl (cJ, 1, .inr (.inl fo))), (aM, .inr (7, [.int 2, .ref a1, .int (nI k), .int (nI dn), .ref a2, .ref a3, .ref a4, .ref a5, .ref a6, .int (nI xa), .int ri, .int fa, .int fq, .int bg, .long tm, .int ka, .long kb, .int va, .long vb]))] ++ plt) := hD
    refine lv_iload hx hb dc_L_law_504 (lv_at hl 1 rfl) ?_
    refine lv_icmp_eq (tgt := 511) hx hb dc_L_law_506 (by decide) (fun c_4 => ?_) (fun c_4 => ?_)
    · refine lv_iload hx hb dc_L_law_511 (lv_at hl 1 rfl) ?_
      refine lv_if_ne (tgt := 528) hx hb dc_L_law_513 (by decide) (fun c_5 => ?_) (fun c_5 => ?_)
      · refine lv_goto (tgt := 949) hx hb dc_L_law_528 (by decide) ?_
        have hP9 := hP.part (cx := [(aB, .inr (6, [.ref aT, .ref aF, .ref aQ, .int fk, .int fp])), (aT, .inr (5, [.ref aR, .int (nI k), .int ch])), (aR, .inl (cA, n, .inl f)), (aF, .inr (1, [.ref aL, .int (nI dn), .int (nI wt), .int lt])), (aL, .inr (0, [.int md, .ref ea, .int (nI N)])), (aQ, .inr (4, [.ref aT, .ref aK, .ref aV, .int pl, .int en, .int so, .int sa, .long ti])), (aK, .inr (3, [.int kl, .int kp])), (aV, .inr (3, [.int vl, .int vp])), (aO, .inl (cJ, 1, .inr (.inl fo))), (aM, .inr (7, [.int 2, .ref a1, .int (nI k), .int (nI dn), .ref a2, .ref a3, .ref a4, .ref a5, .ref a6, .int (nI xa), .int ri, .int fa, .int fq, .int bg, .long tm, .int ka, .long kb, .int va, .long vb])), (a1, .inl (c1_, 16384, .inl tp)), (a2, .inl (c2_, 1000, .inr (.inl gk))), (a3, .inl (c3_, 1000, .inl gkb)), (a4, .inl (c4_, 1000, .inr (.inl gv))), (a5, .inl (c5_, 1000, .inl gvb)), (a6, .inl (c6_, 1000, .inl gl))]) (pl := plt) [12, 0, 1, 13, 2, 3, 4, 5, 14, 15, 6, 7, 8, 9, 10, 11] rfl
        have hD9 := hD.part (cx := [(aB, .inr (6, [.ref aT, .ref aF, .ref aQ, .int fk, .int fp])), (aT, .inr (5, [.ref aR, .int (nI k), .int ch])), (aR, .inl (cA, n, .inl f)), (aF, .inr (1, [.ref aL, .int (nI dn), .int (nI wt), .int lt])), (aL, .inr (0, [.int md, .ref ea, .int (nI N)])), (aQ, .inr (4, [.ref aT, .ref aK, .ref aV, .int pl, .int en, .int so, .int sa, .long ti])), (aK, .inr (3, [.int kl, .int kp])), (aV, .inr (3, [.int vl, .int vp])), (aO, .inl (cJ, 1, .inr (.inl fo))), (aM, .inr (7, [.int 2, .ref a1, .int (nI k), .int (nI dn), .ref a2, .ref a3, .ref a4, .ref a5, .ref a6, .int (nI xa), .int ri, .int fa, .int fq, .int bg, .long tm, .int ka, .long kb, .int va, .long vb])), (a1, .inl (c1_, 16384, .inl tp)), (a2, .inl (c2_, 1000, .inr (.inl gk))), (a3, .inl (c3_, 1000, .inl gkb)), (a4, .inl (c4_, 1000, .inr (.inl gv))), (a5, .inl (c5_, 1000, .inl gvb)), (a6, .inl (c6_, 1000, .inl gl))]) (pl := plt) [12, 0, 1, 13, 2, 3, 4, 5, 14, 15, 6, 7, 8, 9, 10, 11] (by decide) rfl
        have hK9 := hK.sub (tys' := [(cA, .byte), (cO, .object "java/lang/Object"), (cJ, .long), (c1_, .int), (c2_, .long), (c3_, .int), (c4_, .long), (c5_, .int), (c6_, .int)]) [0, 1, 2, 3, 4, 5, 6, 7, 8] rfl
        exact W.widen (k := CN (i + 9)) (n := SN (i + 9) n ln) (by unfold CN; omega) (by unfold SN; omega) (KK n ln _ _ _ (INV_mk hP9 hD9 hK9 (r1) (r2) (r3) (r4) (r5) (⟨e1, e2, e3, e4, e5, e6, e7, e8, e9, e10⟩) (r7) (r8)) hS (lv_sub hl [2, 3, 4, 5, 6] rfl))
      · exact absurd c_5 (by decide)
    · exact absurd (by decide) c_4
