/-! MY OWN ROWS: a call's words out of the one list -/
section KWS
variable {R : Room} {s : State} {args : Array Value} {own C host : String} {idx mL mc ms : Nat} {y : MethodName} {cc : ByteArray} {ret : Option FieldType} {rm : Room}
theorem kw_V (n : Nat) (ht : ∀ w ∈ bigT, w.before args s = true) (h1 : Cond.methodLink own idx y ∈ bigT) (h2 : Cond.instanceMethod y ∈ bigT) (h3 : Cond.selects C y y ∈ bigT) (h4 : Cond.initialized C ∈ bigT) (h5 : Cond.code y cc mL ret ∈ bigT) (hrc : rm.cells = mc) (hrs : rm.slots = ms)
    (hd : y.cls = C ∧ y.cls ≠ "java/lang/invoke/MethodHandle" ∧ y.cls ≠ "java/lang/invoke/VarHandle" ∧ (parseMethodDescriptor y.desc).map (fun d => d.parameters.length) = some n) (hR : rm.frames + 1 ≤ R.frames ∧ 8 + (mL + 11) + rm.locals ≤ R.locals) : CallW R s args own C idx y cc mL ret (wB y cc mL ret) rm mc ms n := by
  refine cwV n ht (big_in (fun w hw => ?_)) rfl hrc hrs hd hR
  rcases List.mem_append.mp hw with h | h
  · simp only [List.mem_cons, List.mem_nil_iff, or_false] at h
    rcases h with rfl | rfl | rfl | rfl
    · exact h1
    · exact h2
    · exact h3
    · exact h4
  · rcases List.mem_cons.mp h with rfl | h
    · exact h5
    · exact h
theorem kw_S (n : Nat) (ht : ∀ w ∈ bigT, w.before args s = true) (h1 : Cond.methodLink own idx y ∈ bigT) (h2 : Cond.static y ∈ bigT) (h4 : Cond.initialized y.cls ∈ bigT) (h5 : Cond.code y cc mL ret ∈ bigT) (hrc : rm.cells = mc) (hrs : rm.slots = ms)
    (hd : y.cls ≠ "java/lang/invoke/MethodHandle" ∧ y.cls ≠ "java/lang/invoke/VarHandle" ∧ (parseMethodDescriptor y.desc).map (fun d => d.parameters.length) = some n) (hR : rm.frames + 1 ≤ R.frames ∧ 8 + (mL + 11) + rm.locals ≤ R.locals) : CallB R s args own idx y cc mL ret (wB y cc mL ret) rm mc ms n ∧ (Cond.static y).before args s = true :=
  ⟨callB_of n ht (big_in (fun w hw => by rcases List.mem_cons.mp hw with rfl | h; exact h5; exact h)) rfl hrc hrs (ht _ h4) (ht _ h1) hd hR, ht _ h2⟩
theorem kw_I (n : Nat) (ht : ∀ w ∈ bigT, w.before args s = true) (h1 : Cond.methodLink own idx y ∈ bigT) (h2 : Cond.instanceMethod y ∈ bigT) (h4 : Cond.initialized y.cls ∈ bigT) (h5 : Cond.code y cc mL none ∈ bigT) (hrc : rm.cells = mc) (hrs : rm.slots = ms) (hy : y.name = "<init>")
    (hd : y.cls ≠ "java/lang/invoke/MethodHandle" ∧ y.cls ≠ "java/lang/invoke/VarHandle" ∧ (parseMethodDescriptor y.desc).map (fun d => d.parameters.length) = some n) (hR : rm.frames + 1 ≤ R.frames ∧ 8 + (mL + 11) + rm.locals ≤ R.locals) : CallB R s args own idx y cc mL none (wB y cc mL none) rm mc ms n ∧ y.name = "<init>" ∧ (Cond.instanceMethod y).before args s = true :=
  cwI n ht (big_in (fun w hw => by rcases List.mem_cons.mp hw with rfl | h; exact h5; exact h)) rfl hrc hrs (ht _ h4) (ht _ h1) (ht _ h2) hy hd hR
theorem kw_N (n : Nat) (ht : ∀ w ∈ bigT, w.before args s = true) (hG : gvN s) (h1 : Cond.methodLinkNest own idx y host ∈ ndL) (h2 : Cond.static y ∈ bigT) (h4 : Cond.initialized y.cls ∈ bigT) (h5 : Cond.code y cc mL ret ∈ bigT) (hrc : rm.cells = mc) (hrs : rm.slots = ms)
    (hd : y.cls ≠ "java/lang/invoke/MethodHandle" ∧ y.cls ≠ "java/lang/invoke/VarHandle" ∧ (parseMethodDescriptor y.desc).map (fun d => d.parameters.length) = some n) (hR : rm.frames + 1 ≤ R.frames ∧ 8 + (mL + 11) + rm.locals ≤ R.locals) : va_CN R s args own idx y host cc mL ret (wB y cc mL ret) rm mc ms n ∧ (Cond.static y).before args s = true ∧ True :=
  ⟨va_cnB n ht (big_in (fun w hw => by rcases List.mem_cons.mp hw with rfl | h; exact h5; exact h)) rfl hrc hrs (hG _ h1) (ht _ h4) hd hR, ht _ h2, trivial⟩
end KWS
