/-! what the Statement gives of the start -/
theorem nd_in : ∀ w ∈ ndL, w ∈ lw_tbl := by decide +kernel
theorem st_in : ∀ q ∈ strL, Cond.stringRef "BatchBytes" q.1 q.2 ∈ lw_tbl := by decide +kernel
theorem gv_str {args : Array Value} {s : State} {q : Nat × String} (h : (Cond.stringRef "BatchBytes" q.1 q.2).before args s = true) : ∃ sa : Nat, vk_R "BatchBytes" q.1 q.2 sa s := by
  have hcur : ∃ cur, s.vm.findClass "BatchBytes" = some cur := by
    have h1 := h
    simp only [Cond.before, Cond.holds, Cond.value] at h1
    cases hc : s.vm.findClass "BatchBytes" with
    | none => simp [hc] at h1
    | some cur => exact ⟨cur, rfl⟩
  obtain ⟨cur, hcur⟩ := hcur
  obtain ⟨k, cf, i, a, hk, hcf, hcp, -, hr, hev⟩ := Cond.stringRef_spec hcur h
  exact ⟨a, vk_R.of h hev⟩
theorem ao_K {s : State} (h : va_AO "java/lang/Object" s) : ∃ cO : ClassId, ArrOfT s cO (.object "java/lang/Object") ∧ va_RA s cO (.object "java/lang/Object") := by
  obtain ⟨comp, cA, kA, h1, -, h2, h3, h4⟩ := Cond.arrayOver_spec (va_AO.use (A := #[]) h)
  exact ⟨cA, fun N z => ⟨(fun k h => by cases h), kA, h2, comp, h3⟩, kA, comp, h2, h3, h1, h4⟩
theorem gv_start {b : Nat} {s : State} (hts : ∀ w ∈ lw_tbl, w.before #[Value.ref b] s = true) (hgv : (Jvm.Cond.and given_1 narrow_1).before #[Value.ref b] s = true) : ∃ eE : Nat, GV (fun q : Nat => s.heap.size ≤ q) s s.heap ∧ ZE eE (fun q : Nat => s.heap.size ≤ q) s s.heap := by
  have hs := flat_of_before _ hgv
  have hA0 : ∀ a : Nat, a < s.heap.size → ¬ (fun q : Nat => s.heap.size ≤ q) a := fun a h => Nat.not_le.mpr h
  obtain ⟨t1, ht1, hT1⟩ := va_Tof (tm := .static "BatchBytes" "FOUR_STEPS" "[I") (ty := .int) (N := 16) (f := fun j => .int (tT j)) (A := fun q : Nat => s.heap.size ≤ q) (by omega) (hs (.arrayOf (.static "BatchBytes" "FOUR_STEPS" "[I") .int) (by decide +kernel)) (va_eqt (hs (.eq (.length (.static "BatchBytes" "FOUR_STEPS" "[I")) (.int 16)) (by decide +kernel))) (fun j hj => by
    rcases (show j = 0 ∨ j = 1 ∨ j = 2 ∨ j = 3 ∨ j = 4 ∨ j = 5 ∨ j = 6 ∨ j = 7 ∨ j = 8 ∨ j = 9 ∨ j = 10 ∨ j = 11 ∨ j = 12 ∨ j = 13 ∨ j = 14 ∨ j = 15 by omega) with rfl | rfl | rfl | rfl | rfl | rfl | rfl | rfl | rfl | rfl | rfl | rfl | rfl | rfl | rfl | rfl
    · exact va_eqt (hs (.eq (.elem (.static "BatchBytes" "FOUR_STEPS" "[I") (.int 0)) (.int 0)) (by decide +kernel))
    · exact va_eqt (hs (.eq (.elem (.static "BatchBytes" "FOUR_STEPS" "[I") (.int 1)) (.int 274646895)) (by decide +kernel))
    · exact va_eqt (hs (.eq (.elem (.static "BatchBytes" "FOUR_STEPS" "[I") (.int 2)) (.int 549293790)) (by decide +kernel))
    · exact va_eqt (hs (.eq (.elem (.static "BatchBytes" "FOUR_STEPS" "[I") (.int 3)) (.int 820201905)) (by decide +kernel))
    · exact va_eqt (hs (.eq (.elem (.static "BatchBytes" "FOUR_STEPS" "[I") (.int 4)) (.int 1098587580)) (by decide +kernel))
    · exact va_eqt (hs (.eq (.elem (.static "BatchBytes" "FOUR_STEPS" "[I") (.int 5)) (.int 1361435347)) (by decide +kernel))
    · exact va_eqt (hs (.eq (.elem (.static "BatchBytes" "FOUR_STEPS" "[I") (.int 6)) (.int 1640403810)) (by decide +kernel))
    · exact va_eqt (hs (.eq (.elem (.static "BatchBytes" "FOUR_STEPS" "[I") (.int 7)) (.int 1905808397)) (by decide +kernel))
    · exact va_eqt (hs (.eq (.elem (.static "BatchBytes" "FOUR_STEPS" "[I") (.int 8)) (.int (-2097792136))) (by decide +kernel))
    · exact va_eqt (hs (.eq (.elem (.static "BatchBytes" "FOUR_STEPS" "[I") (.int 9)) (.int (-1834419177))) (by decide +kernel))
    · exact va_eqt (hs (.eq (.elem (.static "BatchBytes" "FOUR_STEPS" "[I") (.int 10)) (.int (-1572096602))) (by decide +kernel))
    · exact va_eqt (hs (.eq (.elem (.static "BatchBytes" "FOUR_STEPS" "[I") (.int 11)) (.int (-1307217207))) (by decide +kernel))
    · exact va_eqt (hs (.eq (.elem (.static "BatchBytes" "FOUR_STEPS" "[I") (.int 12)) (.int (-1014159676))) (by decide +kernel))
    · exact va_eqt (hs (.eq (.elem (.static "BatchBytes" "FOUR_STEPS" "[I") (.int 13)) (.int (-741088853))) (by decide +kernel))
    · exact va_eqt (hs (.eq (.elem (.static "BatchBytes" "FOUR_STEPS" "[I") (.int 14)) (.int (-483350502))) (by decide +kernel))
    · exact va_eqt (hs (.eq (.elem (.static "BatchBytes" "FOUR_STEPS" "[I") (.int 15)) (.int (-210866315))) (by decide +kernel))) hA0
  obtain ⟨t2, ht2, hT2⟩ := va_Tof (tm := .static "java/util/ArrayList" "DEFAULTCAPACITY_EMPTY_ELEMENTDATA" "[Ljava/lang/Object;") (ty := .object "java/lang/Object") (N := 0) (f := fun _ => .null) (A := fun q : Nat => s.heap.size ≤ q) (by omega) (hs (.arrayOf (.static "java/util/ArrayList" "DEFAULTCAPACITY_EMPTY_ELEMENTDATA" "[Ljava/lang/Object;") (.object "java/lang/Object")) (by decide +kernel)) (va_eqt (hs (.eq (.length (.static "java/util/ArrayList" "DEFAULTCAPACITY_EMPTY_ELEMENTDATA" "[Ljava/lang/Object;")) (.int 0)) (by decide +kernel))) (fun j hj => absurd hj (Nat.not_lt_zero _)) hA0
  have hZ1 := va_Zref (A := fun q : Nat => s.heap.size ≤ q) (hts (.laysStatic "BatchBytes" "FOUR_STEPS" "[I") (by decide +kernel)) (hts (.initialized "BatchBytes") (by decide +kernel)) ht1 hA0
  have hZ2 := va_Zref (A := fun q : Nat => s.heap.size ≤ q) (hts (.laysStatic "java/util/ArrayList" "DEFAULTCAPACITY_EMPTY_ELEMENTDATA" "[Ljava/lang/Object;") (by decide +kernel)) (hts (.initialized "java/util/ArrayList") (by decide +kernel)) ht2 hA0
  refine ⟨t2, ⟨fun w hw => va_Nw.of ((by decide +kernel : ∀ w ∈ ndL, w.onTables = true) w hw) (hts w (nd_in w hw)), fun q hq => gv_str (hts _ (st_in q hq)), ⟨t1, hZ1, hT1⟩, ⟨t2, hZ2, hT2⟩, ⟨?_, ?_⟩, ⟨va_Mi.of (hs (.isRef (.mirror "[Ljava/lang/Object;")) (by decide +kernel)), va_Dc.of (hts (.declares ⟨"java/lang/Object", "getClass", "()Ljava/lang/Class;"⟩) (by decide +kernel)), va_AO.of (hts (.arrayOver (.object "java/lang/Object")) (by decide +kernel))⟩, va_Nc.of (hs (.not (.castable "java/lang/IllegalArgumentException" "java/lang/IllegalStateException")) (by decide +kernel)), va_Nc.of (hs (.not (.castable "java/lang/IllegalStateException" "java/lang/IllegalArgumentException")) (by decide +kernel))⟩, hZ2, hT2⟩
  · exact vx_Zqof (hts (.laysStatic "java/lang/Throwable" "UNASSIGNED_STACK" "[Ljava/lang/StackTraceElement;") (by decide +kernel)) (hts (.initialized "java/lang/Throwable") (by decide +kernel)) (hs (.isRef (.static "java/lang/Throwable" "UNASSIGNED_STACK" "[Ljava/lang/StackTraceElement;")) (by decide +kernel)) hA0
  · exact vx_Zqof (hts (.laysStatic "java/lang/Throwable" "SUPPRESSED_SENTINEL" "Ljava/util/List;") (by decide +kernel)) (hts (.initialized "java/lang/Throwable") (by decide +kernel)) (hs (.isRef (.static "java/lang/Throwable" "SUPPRESSED_SENTINEL" "Ljava/util/List;")) (by decide +kernel)) hA0
theorem k_start {b : Nat} {s : State} (hts : ∀ w ∈ bigT, w.before #[Value.ref b] s = true) : ∃ (dC : Nat → ClassId) (dI : Nat → Nat → Nat), ∀ tys : List (ClassId × FieldType), (∀ (k : Nat) (q : ClassId × FieldType), tys[k]? = some q → ArrOfT s q.1 q.2 ∧ va_RA s q.1 q.2) → va_K (dC, dI) vwCl tys s := by
  obtain ⟨c0, i0, hK0⟩ := u_known (C := rn_A) (T := ft_A) (N := 3) (n := 3) hts fw_A (hts (.instantiable "java/util/ArrayList" 3) bw1_57)
  obtain ⟨c1, i1, hK1⟩ := u_known (C := rn_D) (T := ft_D) (N := 4) (n := 4) hts fw_D (hts (.instantiable "BatchBytes$Draft" 4) bw1_51)
  obtain ⟨c2, i2, hK2⟩ := u_known (C := rn_G) (T := ft_G) (N := 6) (n := 6) hts fw_G (hts (.instantiable "BatchBytes$Group" 6) bw2_128)
  obtain ⟨c3, i3, hK3⟩ := u_known (C := rn_P) (T := ft_P) (N := 2) (n := 2) hts fw_P (hts (.instantiable "BatchBytes$Part" 2) bw1_105)
  obtain ⟨c4, i4, hK4⟩ := u_known (C := rn_R) (T := ft_R) (N := 8) (n := 8) hts fw_R (hts (.instantiable "BatchBytes$Reader" 8) bw1_99)
  obtain ⟨c5, i5, hK5⟩ := u_known (C := rn_T) (T := ft_T) (N := 3) (n := 3) hts fw_T (hts (.instantiable "BatchBytes$Tape" 3) bw1_31)
  obtain ⟨c6, i6, hK6⟩ := u_known (C := rn_B) (T := ft_B) (N := 5) (n := 5) hts fw_B (hts (.instantiable "BatchBytes" 5) bw1_23)
  obtain ⟨c7, i7, hK7⟩ := u_known (C := rn_M) (T := ft_M) (N := 19) (n := 19) hts fw_M (hts (.instantiable "BatchBytesModel" 19) bw3_154)
  refine ⟨fun k => if k = 0 then c0 else if k = 1 then c1 else if k = 2 then c2 else if k = 3 then c3 else if k = 4 then c4 else if k = 5 then c5 else if k = 6 then c6 else c7, fun k => if k = 0 then i0 else if k = 1 then i1 else if k = 2 then i2 else if k = 3 then i3 else if k = 4 then i4 else if k = 5 then i5 else if k = 6 then i6 else i7, fun tys ht => ⟨?_, ht⟩⟩
  intro k q hq
  match k, hq with
  | 0, hq => cases hq; exact hK0
  | 1, hq => cases hq; exact hK1
  | 2, hq => cases hq; exact hK2
  | 3, hq => cases hq; exact hK3
  | 4, hq => cases hq; exact hK4
  | 5, hq => cases hq; exact hK5
  | 6, hq => cases hq; exact hK6
  | 7, hq => cases hq; exact hK7
  | k + 8, hq => simp [vwCl] at hq
