/-! WHAT A METHOD IS GIVEN beside its world: words that aren't among the good ones, the texts, the tables that nobody writes -/
def ndL : List Cond := [.fieldLinkNest "BatchBytes$Tape" 63 "BatchBytes" "FOUR_STEPS" "[I" "BatchBytes",
  .castable "java/lang/IllegalStateException" "java/lang/IllegalStateException",
  .declares ⟨"java/lang/RuntimeException", "<init>", "()V"⟩,
  .declares ⟨"java/lang/RuntimeException", "<init>", "(Ljava/lang/String;)V"⟩,
  .declares ⟨"java/lang/Exception", "<init>", "()V"⟩,
  .declares ⟨"java/lang/Exception", "<init>", "(Ljava/lang/String;)V"⟩,
  .declares ⟨"java/lang/Throwable", "<init>", "()V"⟩,
  .declares ⟨"java/lang/Throwable", "<init>", "(Ljava/lang/String;)V"⟩,
  .castable "[B" "java/lang/Cloneable",
  .castable "java/lang/IllegalArgumentException" "java/lang/IllegalArgumentException",
  .methodLinkNest "BatchBytes$Group" 33 ⟨"BatchBytes", "varintBytes", "(J)I"⟩ "BatchBytes",
  .methodLinkNest "BatchBytes$Tape" 49 ⟨"BatchBytes", "folded", "(J)J"⟩ "BatchBytes",
  .methodLinkNest "BatchBytes$Reader" 78 ⟨"BatchBytes", "unfolded", "(J)J"⟩ "BatchBytes",
  .castable "BatchBytes$Group" "BatchBytes$Group",
  .declares ⟨"java/lang/Object", "getClass", "()Ljava/lang/Class;"⟩,
  .castable "BatchBytes" "java/lang/Object",
  .castable "BatchBytes$Tape" "java/lang/Object",
  .castable "BatchBytes$Draft" "java/lang/Object",
  .castable "BatchBytes$Reader" "java/lang/Object",
  .castable "BatchBytes$Part" "java/lang/Object",
  .castable "BatchBytesModel" "java/lang/Object",
  .castable "BatchBytes$Group" "java/lang/Object",
  .castable "java/lang/String" "java/lang/Object"]
def strL : List (Nat × String) := [(44, "the tape would have more than 16384 bytes"), (59, "the tape has not so many bytes"), (69, "the tape has no such byte"), (71, "x is not 0 .. 255"), (84, "n is not 1 .. 100"), (86, "keyBytes is not -1 .. 8"), (88, "valueBytes is not -1 .. 300"), (91, "later is not 0 .. 1000000"), (104, "the draft would have more than 1000 records"), (109, "the draft would have more than 16000 bytes"), (120, "time is not 0 .. 2^49"), (129, "what is not 0 or 1"), (134, "the tape has a fault"), (140, "what is not 0 .. 5"), (142, "the tape has no such record")]
def gvN (U : State) : Prop := ∀ w ∈ ndL, va_Nw w U
def gvS (U : State) : Prop := ∀ q ∈ strL, ∃ sa : Nat, vk_R "BatchBytes" q.1 q.2 sa U
def gvT (A : Nat → Prop) (U : State) (H : Heap) : Prop := ∃ t : Nat, va_Z "BatchBytes" "FOUR_STEPS" "[I" (.ref t) A U H ∧ va_T .int t 16 (fun j => .int (tT j)) A U H
def gvE (A : Nat → Prop) (U : State) (H : Heap) : Prop := ∃ t : Nat, va_Z "java/util/ArrayList" "DEFAULTCAPACITY_EMPTY_ELEMENTDATA" "[Ljava/lang/Object;" (.ref t) A U H ∧ va_T (.object "java/lang/Object") t 0 (fun _ => .null) A U H
def gvX (A : Nat → Prop) (U : State) (H : Heap) : Prop := vx_Zq Bundle.tN "UNASSIGNED_STACK" Bundle.steD A U H ∧ vx_Zq Bundle.tN "SUPPRESSED_SENTINEL" Bundle.listD A U H
def gvM (U : State) : Prop := (∃ mi : Nat, va_Mi "[Ljava/lang/Object;" mi U) ∧ va_Dc U ∧ va_AO "java/lang/Object" U
def gvC (U : State) : Prop := va_Nc "java/lang/IllegalArgumentException" "java/lang/IllegalStateException" U ∧ va_Nc "java/lang/IllegalStateException" "java/lang/IllegalArgumentException" U
def GV (A : Nat → Prop) (U : State) (H : Heap) : Prop := gvN U ∧ gvS U ∧ gvT A U H ∧ gvE A U H ∧ gvX A U H ∧ gvM U ∧ gvC U
theorem gvN_warm {s U : State} (hW : s.WarmedH U.vm) (h : gvN s) : gvN U := by
  intro w hw
  have h1 := h w hw
  simp only [ndL, List.mem_cons, List.mem_nil_iff, or_false] at hw
  rcases hw with rfl | rfl | rfl | rfl | rfl | rfl | rfl | rfl | rfl | rfl | rfl | rfl | rfl | rfl | rfl | rfl | rfl | rfl | rfl | rfl | rfl | rfl | rfl <;> first | exact va_Nw.warmM hW h1 | exact va_Nw.warmF hW h1 | exact va_Nw.warmC hW h1 | exact va_Nw.warmD hW h1
theorem gv_down {A B : Nat → Prop} {s U : State} {H : Heap} {locs : List Loc} (h : GV A s s.heap) (hS : va_S A s.heap H locs) (hAB : ∀ q, B q → A q) (hW : s.WarmedH U.vm) : GV B U H := by
  obtain ⟨h1, h2, ⟨t, h3, h4⟩, ⟨t', h5, h6⟩, ⟨h7, h8⟩, ⟨⟨mi, h9⟩, h10, h11⟩, h12, h13⟩ := h
  refine ⟨gvN_warm hW h1, fun q hq => ?_, ⟨t, va_Z.moved hW.alike ((h3.kept hS.2.1).narrow hAB), va_T.moved hW.alike ((h4.kept hS.2.1).narrow hAB)⟩, ⟨t', va_Z.moved hW.alike ((h5.kept hS.2.1).narrow hAB), va_T.moved hW.alike ((h6.kept hS.2.1).narrow hAB)⟩, ⟨vx_Zq.moved hW.alike ((h7.kept hS.2.1).narrow hAB), vx_Zq.moved hW.alike ((h8.kept hS.2.1).narrow hAB)⟩, ⟨⟨mi, va_Mi.moved hW.alike h9⟩, va_Dc.moved hW.alike h10, va_AO.moved hW.alike h11⟩, va_Nc.moved hW.alike h12, va_Nc.moved hW.alike h13⟩
  obtain ⟨sa, hs⟩ := h2 q hq
  exact ⟨sa, vk_R.warm hW hs⟩
theorem gv_call {A : Nat → Prop} {U : State} {H : Heap} (h : GV A U H) (g : JFrame) (mk : MethodId) (a : Array Value) : GV A (U.calling g mk a) H := by
  obtain ⟨h1, h2, ⟨t, h3, h4⟩, ⟨t', h5, h6⟩, ⟨h7, h8⟩, ⟨⟨mi, h9⟩, h10, h11⟩, h12, h13⟩ := h
  have r : U.vm.Alike (U.calling g mk a).vm := Vm.Alike.refl U.vm
  refine ⟨fun w hw => ?_, fun q hq => ?_, ⟨t, va_Z.moved r h3, va_T.moved r h4⟩, ⟨t', va_Z.moved r h5, va_T.moved r h6⟩, ⟨vx_Zq.moved r h7, vx_Zq.moved r h8⟩, ⟨⟨mi, va_Mi.moved r h9⟩, va_Dc.moved r h10, va_AO.moved r h11⟩, va_Nc.moved r h12, va_Nc.moved r h13⟩
  · exact va_Nw.same (u := U) ((by decide +kernel : ∀ w ∈ ndL, w.onTables = true) w hw) rfl (h1 w hw)
  · obtain ⟨sa, hs⟩ := h2 q hq
    exact ⟨sa, vk_R.same rfl hs⟩
/-! MY OWN ROWS over the kit: a contract's start and end as worlds, a call in one row, joins and loops -/
abbrev PcW (D : va_G) (ws : va_W) (tys : List (ClassId × FieldType)) (sz : Nat) : State → Prop := fun U => U.heap.size = sz ∧ va_P D vwCl ws U.heap ∧ va_K D vwCl tys U ∧ va_D (fun _ => True) ws ∧ GV (va_A ws sz) U U.heap
abbrev EnW (D : va_G) (A : Nat → Prop) (ws : va_W) (tys : List (ClassId × FieldType)) : State → Prop := fun t => va_P D vwCl ws t.heap ∧ va_K D vwCl tys t ∧ va_D A ws
theorem kb_blind {D : va_G} {ws : va_W} {tys : List (ClassId × FieldType)} {sz : Nat} {av : List Value} : FrameBlind (va_Pc av (PcW D ws tys sz)) := fun a U g mk q => by
  obtain ⟨q0, q1, qP, qK, qD, qG⟩ := q
  exact ⟨q0, q1, qP, va_K.moved (u := U) (U := U.calling g mk a) (Vm.Alike.refl U.vm) qK, qD, gv_call qG g mk a⟩
theorem kp_S {D : va_G} {A0 : Nat → Prop} {ws wc : va_W} {tys tc : List (ClassId × FieldType)} {s : State} {H : Heap} {locs : List Loc} {av : List Value} (hG : GV A0 s s.heap) (hS : va_S A0 s.heap H locs) (hA : ∀ q, s.heap.size ≤ q → A0 q) (hP : va_P D vwCl ws H) (hD : va_D A0 ws) (hK : va_K D vwCl tys s) (is : List Nat) (hs : is.filterMap (fun i => ws[i]?) = wc) (hn : va_nd is = true) (hm : is.map (fun i => ws[i]?) = wc.map some) (js : List Nat) (hj : js.filterMap (fun i => tys[i]?) = tc) : PreS s H (va_Pc av (PcW D wc tc H.size)) av :=
  ⟨kb_blind, fun U hU hW => ⟨rfl, by rw [hU], by rw [hU]; exact hP.sub is hs, va_K.moved hW.alike (hK.sub js hj), (hD.sub is hn hm).weaken (fun _ _ _ _ => trivial), by rw [hU]; exact gv_down hG hS (va_free (wc := wc) hD hS hA is hm) hW⟩⟩
theorem kp_V {D : va_G} {A0 : Nat → Prop} {ws wc : va_W} {tys tc : List (ClassId × FieldType)} {s : State} {H : Heap} {locs : List Loc} {b q0 ci : Nat} {As fs : List Value} {q : vw_C} (hG : GV A0 s s.heap) (hS : va_S A0 s.heap H locs) (hA : ∀ q, s.heap.size ≤ q → A0 q) (hP : va_P D vwCl ws H) (hD : va_D A0 ws) (hK : va_K D vwCl tys s) (is : List Nat) (hs : is.filterMap (fun i => ws[i]?) = wc) (hn : va_nd is = true) (hm : is.map (fun i => ws[i]?) = wc.map some) (js : List Nat) (hj : js.filterMap (fun i => tys[i]?) = tc) (hc : vwCl[ci]? = some q) (he : ws[q0]? = some (b, .inr (ci, fs))) : PreV s H q.1 b (va_Pc (.ref b :: As) (PcW D wc tc H.size)) As :=
  ⟨kb_blind, va_recv hK hP hc he, fun U hU hW => ⟨rfl, by rw [hU], by rw [hU]; exact hP.sub is hs, va_K.moved hW.alike (hK.sub js hj), (hD.sub is hn hm).weaken (fun _ _ _ _ => trivial), by rw [hU]; exact gv_down hG hS (va_free (wc := wc) hD hS hA is hm) hW⟩⟩
section KW
variable {p : Program} {l : Launch} {e : Env} {R : Room} {s : State} {m : MethodId} {args : Array Value} {below : List Frame} {meth : Method} {c : Code} {H : Heap} {locs : List Loc} {cells slots : Nat} {Q : State → Prop}
variable {pc mc ms : Nat} {ls : Array Slot} {rest st0 : List Value} {a : Array Value} {A0 : Nat → Prop} {H0 : Heap} {D : va_G} {ws wc wr : va_W} {S : Type}
theorem kc_i {post : Int32 → S → Prop} {w1 : S → va_W} {t1 : S → List (ClassId × FieldType)} (hP : va_P D vwCl ws H) (hD : va_D A0 ws) (hS : va_S A0 H0 H locs) (hA : ∀ q, H0.size ≤ q → A0 q) (isC isR : List Nat) (hC : isC.map (fun i => ws[i]?) = wc.map some) (hR : isR.map (fun i => ws[i]?) = wr.map some) (hn : va_nd isR = true) (hdis : ∀ i ∈ isR, i ∉ isC)
    (hr : va_Run p l e R s m args below meth c H locs cells slots mc ms (F0 m pc ls st0) rest (va_Qi post (fun u => EnW D (va_A wc H.size) (w1 u) (t1 u)) (va_A wc H.size) a) (va_A wc H.size))
    (kk : ∀ (r : Int32) (u : S) (H1 : Heap) (locs1 : List Loc), post r u → va_P D vwCl (wr ++ w1 u) H1 → va_D A0 (wr ++ w1 u) → va_K D vwCl (t1 u) s → va_S A0 H0 H1 locs1 → W p l e R s m args below meth c H1 locs1 (cells + mc) (slots + ms) Q (F0 m (pc + 3) ls (.int r :: rest))) : W p l e R s m args below meth c H locs cells slots Q (F0 m pc ls st0) := by
  have hFc := va_free (wc := wc) hD hS hA isC hC
  refine va_calli hr hS (fun q _ h => hFc q h) hFc (fun r u t H1 locs1 ht hvm hw hB hz1 hk1 hS1 => ?_)
  obtain ⟨hP1, hK1, hD1⟩ := hB
  rw [ht] at hP1
  obtain ⟨hP2, hD2⟩ := va_join hP hD isC isR hC hR hn hdis hk1 hFc hP1 hD1
  exact kk r u H1 locs1 hw hP2 hD2 (va_K.moved hvm.symm hK1) hS1
theorem kc_l {post : Int64 → S → Prop} {w1 : S → va_W} {t1 : S → List (ClassId × FieldType)} (hP : va_P D vwCl ws H) (hD : va_D A0 ws) (hS : va_S A0 H0 H locs) (hA : ∀ q, H0.size ≤ q → A0 q) (isC isR : List Nat) (hC : isC.map (fun i => ws[i]?) = wc.map some) (hR : isR.map (fun i => ws[i]?) = wr.map some) (hn : va_nd isR = true) (hdis : ∀ i ∈ isR, i ∉ isC)
    (hr : va_Run p l e R s m args below meth c H locs cells slots mc ms (F0 m pc ls st0) rest (va_Ql post (fun u => EnW D (va_A wc H.size) (w1 u) (t1 u)) (va_A wc H.size) a) (va_A wc H.size))
    (kk : ∀ (r : Int64) (u : S) (H1 : Heap) (locs1 : List Loc), post r u → va_P D vwCl (wr ++ w1 u) H1 → va_D A0 (wr ++ w1 u) → va_K D vwCl (t1 u) s → va_S A0 H0 H1 locs1 → W p l e R s m args below meth c H1 locs1 (cells + mc) (slots + ms) Q (F0 m (pc + 3) ls (.long r :: rest))) : W p l e R s m args below meth c H locs cells slots Q (F0 m pc ls st0) := by
  have hFc := va_free (wc := wc) hD hS hA isC hC
  refine va_calll hr hS (fun q _ h => hFc q h) hFc (fun r u t H1 locs1 ht hvm hw hB hz1 hk1 hS1 => ?_)
  obtain ⟨hP1, hK1, hD1⟩ := hB
  rw [ht] at hP1
  obtain ⟨hP2, hD2⟩ := va_join hP hD isC isR hC hR hn hdis hk1 hFc hP1 hD1
  exact kk r u H1 locs1 hw hP2 hD2 (va_K.moved hvm.symm hK1) hS1
theorem kc_v {post : S → Prop} {w1 : S → va_W} {t1 : S → List (ClassId × FieldType)} (hP : va_P D vwCl ws H) (hD : va_D A0 ws) (hS : va_S A0 H0 H locs) (hA : ∀ q, H0.size ≤ q → A0 q) (isC isR : List Nat) (hC : isC.map (fun i => ws[i]?) = wc.map some) (hR : isR.map (fun i => ws[i]?) = wr.map some) (hn : va_nd isR = true) (hdis : ∀ i ∈ isR, i ∉ isC)
    (hr : va_Run p l e R s m args below meth c H locs cells slots mc ms (F0 m pc ls st0) rest (va_Qv post (fun u => EnW D (va_A wc H.size) (w1 u) (t1 u)) (va_A wc H.size) a) (va_A wc H.size))
    (kk : ∀ (u : S) (H1 : Heap) (locs1 : List Loc), post u → va_P D vwCl (wr ++ w1 u) H1 → va_D A0 (wr ++ w1 u) → va_K D vwCl (t1 u) s → va_S A0 H0 H1 locs1 → W p l e R s m args below meth c H1 locs1 (cells + mc) (slots + ms) Q (F0 m (pc + 3) ls rest)) : W p l e R s m args below meth c H locs cells slots Q (F0 m pc ls st0) := by
  have hFc := va_free (wc := wc) hD hS hA isC hC
  refine va_callv hr hS (fun q _ h => hFc q h) hFc (fun u t H1 locs1 ht hvm hw hB hz1 hk1 hS1 => ?_)
  obtain ⟨hP1, hK1, hD1⟩ := hB
  rw [ht] at hP1
  obtain ⟨hP2, hD2⟩ := va_join hP hD isC isR hC hR hn hdis hk1 hFc hP1 hD1
  exact kk u H1 locs1 hw hP2 hD2 (va_K.moved hvm.symm hK1) hS1
/-- roads that meet again -/
theorem w_join {σ : Type} (I : σ → Heap → List Loc → Array Slot → Prop) (g' : σ → Array Slot → JFrame) {g : JFrame}
    (hJ : ∀ (x : σ) (H : Heap) (locs : List Loc) (ls : Array Slot), I x H locs ls → W p l e R s m args below meth c H locs cells slots Q (g' x ls))
    (k : (∀ (x : σ) (H : Heap) (locs : List Loc) (ls : Array Slot), I x H locs ls → W p l e R s m args below meth c H locs cells slots Q (g' x ls)) → W p l e R s m args below meth c H locs cells slots Q g) : W p l e R s m args below meth c H locs cells slots Q g := k hJ
/-- a loop: a measure that falls -/
theorem w_loop {σ : Type} (I : σ → Heap → List Loc → Array Slot → Prop) (g' : σ → Array Slot → JFrame) (cn sn : σ → Nat) (μ : σ → Nat)
    (st : ∀ (x : σ) (H : Heap) (locs : List Loc) (ls : Array Slot), I x H locs ls → (∀ (y : σ) (H' : Heap) (locs' : List Loc) (ls' : Array Slot), I y H' locs' ls' → μ y < μ x → W p l e R s m args below meth c H' locs' (cn y) (sn y) Q (g' y ls')) → W p l e R s m args below meth c H locs (cn x) (sn x) Q (g' x ls)) :
    ∀ (x : σ) (H : Heap) (locs : List Loc) (ls : Array Slot), I x H locs ls → W p l e R s m args below meth c H locs (cn x) (sn x) Q (g' x ls) := by
  have key : ∀ (n : Nat) (x : σ) (H : Heap) (locs : List Loc) (ls : Array Slot), μ x < n → I x H locs ls → W p l e R s m args below meth c H locs (cn x) (sn x) Q (g' x ls) := by
    intro n
    induction n with
    | zero => intro x H locs ls h; exact absurd h (Nat.not_lt_zero _)
    | succ n ih => exact fun x H locs ls h hI => st x H locs ls hI (fun y H' locs' ls' hy hlt => ih y H' locs' ls' (by omega) hy)
  exact fun x H locs ls hI => key (μ x + 1) x H locs ls (Nat.lt_succ_self _) hI
end KW
