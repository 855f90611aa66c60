/-! throws -/
theorem th_S0 : ∀ w ∈ (vx_atS "BatchBytes" 46 "java/lang/IllegalStateException" ["java/lang/RuntimeException", "java/lang/Exception"]).filter goodWord, w ∈ bigT := by decide +kernel
theorem th_S1 : ∀ w ∈ (vx_atS "BatchBytes" 46 "java/lang/IllegalStateException" ["java/lang/RuntimeException", "java/lang/Exception"]).filter (fun w => !goodWord w), w ∈ ndL := by decide +kernel
theorem th_A0 : ∀ w ∈ (vx_atS "BatchBytes" 61 "java/lang/IllegalArgumentException" ["java/lang/RuntimeException", "java/lang/Exception"]).filter goodWord, w ∈ bigT := by decide +kernel
theorem th_A1 : ∀ w ∈ (vx_atS "BatchBytes" 61 "java/lang/IllegalArgumentException" ["java/lang/RuntimeException", "java/lang/Exception"]).filter (fun w => !goodWord w), w ∈ ndL := by decide +kernel
theorem nd_use {args : Array Value} {s : State} (hn : gvN s) : ∀ w ∈ ndL, w.before args s = true := fun w hw => va_Nw.use ((by decide +kernel : ∀ w ∈ ndL, w.onTables = true) w hw) (hn w hw)
theorem th_S {args : Array Value} {s : State} (hts : ∀ w ∈ bigT, w.before args s = true) (hn : gvN s) : ∀ w ∈ vx_atS "BatchBytes" 46 "java/lang/IllegalStateException" ["java/lang/RuntimeException", "java/lang/Exception"], w.before args s = true := vx_hat (fun w h => hts w (th_S0 w h)) th_S1 (nd_use hn)
theorem th_A {args : Array Value} {s : State} (hts : ∀ w ∈ bigT, w.before args s = true) (hn : gvN s) : ∀ w ∈ vx_atS "BatchBytes" 61 "java/lang/IllegalArgumentException" ["java/lang/RuntimeException", "java/lang/Exception"], w.before args s = true := vx_hat (fun w h => hts w (th_A0 w h)) th_A1 (nd_use hn)
theorem gd_S : ∀ w ∈ Cond.classLink "BatchBytes" 42 "java/lang/IllegalStateException" :: Cond.initialized "java/lang/IllegalStateException" :: vx_atS "BatchBytes" 46 "java/lang/IllegalStateException" ["java/lang/RuntimeException", "java/lang/Exception"], vx_ot w = true := by decide +kernel
theorem gd_A : ∀ w ∈ Cond.classLink "BatchBytes" 57 "java/lang/IllegalArgumentException" :: Cond.initialized "java/lang/IllegalArgumentException" :: vx_atS "BatchBytes" 61 "java/lang/IllegalArgumentException" ["java/lang/RuntimeException", "java/lang/Exception"], vx_ot w = true := by decide +kernel
theorem vx_enP {D : va_G} {ws : va_W} {H H1 : Heap} (hP : va_P D vwCl ws H) (hk : ∀ q : Nat, q < H.size → H1[q]? = H[q]?) : va_P D vwCl ws H1 := fun k q h => (hP k q h).kept (hk q.1 (hP k q h).lt)
theorem vx_enF {A : Nat → Prop} {s t : State} {H : Heap} {locs : List Loc} (hS : va_S A s.heap H locs) (hz : H.size ≤ t.heap.size) (hk : ∀ q : Nat, q < H.size → t.heap[q]? = H[q]?) : va_F A s t := ⟨Nat.le_trans hS.1 hz, fun q h1 h2 => by rw [hk q (Nat.lt_of_lt_of_le h1 hS.1)]; exact hS.2.1 q h1 h2⟩
/-- what a call that throws leaves -/
abbrev XcW (D : va_G) (A : Nat → Prop) (E0 : String) (ws : va_W) (tys : List (ClassId × FieldType)) : String → Unit → State → Prop := fun E _ t => E = E0 ∧ EnW D A ws tys t
/-- the words of a method with handlers -/
def wBW (y : MethodName) (c : ByteArray) (n : Nat) (r : Option FieldType) (hh : List (Nat × Nat × Nat × Nat)) : List Cond := .codeWith y c n r hh :: bigT
