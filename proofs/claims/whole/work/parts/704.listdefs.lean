/-! the draft's list -/
abbrev GR := Nat × Int64 × Int32 × Int64 × Int32 × Int32
def gcE (g : GR) : va_E := .inr (2, [.int (nI g.1), .long g.2.1, .int g.2.2.1, .long g.2.2.2.1, .int g.2.2.2.2.1, .int g.2.2.2.2.2])
/-- the list: still with the empty row that all lists share, or with a row of its own and its groups behind it -/
def LSx (eE : Nat) (pl : va_W) (ea N ln : Nat) (cO : ClassId) (gs : Nat → GR) : Prop := (ea = eE ∧ N = 0 ∧ ln = 0) ∨ ∃ (fa : Nat → Option Nat) (r : va_W), pl = (ea, .inl (cO, ln, .inr (.inr (.inr (.inr fa))))) :: r ∧ 10 ≤ ln ∧ N ≤ ln ∧ ∀ i, i < N → ∃ y, fa i = some y ∧ (y, gcE (gs i)) ∈ r
def lgC (N ln : Nat) : Nat := if N < ln then 0 else 1
def lgN (N ln : Nat) : Nat := if N < ln then ln else if ln = 0 then 10 else ln + ln / 2
def lgS (N ln : Nat) : Nat := if N < ln then 0 else lgN N ln
theorem lg_room {N ln : Nat} (h : N < ln) : lgC N ln = 0 ∧ lgN N ln = ln ∧ lgS N ln = 0 := ⟨if_pos h, if_pos h, if_pos h⟩
theorem lg_first {N ln : Nat} (h : N = 0) (h2 : ln = 0) : lgC N ln = 1 ∧ lgN N ln = 10 ∧ lgS N ln = 10 := by subst h; subst h2; exact ⟨rfl, rfl, rfl⟩
theorem lg_full {N ln : Nat} (h : N = ln) (h2 : 10 ≤ ln) : lgC N ln = 1 ∧ lgN N ln = ln + ln / 2 ∧ lgS N ln = ln + ln / 2 := by
  unfold lgS lgC lgN
  rw [if_neg (by omega), if_neg (by omega), if_neg (by omega), if_neg (by omega)]
  exact ⟨rfl, rfl, rfl⟩
theorem anyT {D : va_G} {X pl : va_W} {tys : List (ClassId × FieldType)} {s : State} {H : Heap} {y : Nat} (hK : va_K D vwCl tys s) (hP : va_P D vwCl (X ++ pl) H) (hc : va_Nw (.castable "BatchBytes$Group" "java/lang/Object") s) (hm : ∃ vs, (y, .inr (2, vs)) ∈ pl) : va_Any "java/lang/Object" s H y := by
  obtain ⟨vs, hm⟩ := hm
  obtain ⟨j, hj⟩ := List.getElem?_of_mem (List.mem_append_right X hm)
  refine va_rAny (r := (rn_G, ft_G, 6)) hK hP hj rfl (fun comp c0 h1 h2 => ?_)
  obtain ⟨a, b, f1, f2, f3⟩ := Cond.castable_spec (va_Nw.use (A := #[]) rfl hc)
  have e1 : c0 = a := Option.some.inj (h2.symm.trans f1)
  have e2 : comp = b := Option.some.inj (h1.symm.trans f2)
  rw [e1, e2]
  exact f3
theorem ko_uniq {D : va_G} {tys : List (ClassId × FieldType)} {s : State} {a b : ClassId} (hK : va_K D vwCl tys s) (i j : Nat) (hi : tys[i]? = some (a, .object "java/lang/Object")) (hj : tys[j]? = some (b, .object "java/lang/Object")) : a = b := by
  obtain ⟨_, _, _, _, _, h1⟩ := (hK.2 i _ hi).2
  obtain ⟨_, _, _, _, _, h2⟩ := (hK.2 j _ hj).2
  exact Option.some.inj (h1.symm.trans h2)
abbrev PcM (D : va_G) (mi : Nat) (ws : va_W) (tys : List (ClassId × FieldType)) (sz : Nat) : State → Prop := fun U => PcW D ws tys sz U ∧ va_Mi "[Ljava/lang/Object;" mi U
theorem kp_SPM {D : va_G} {mi : Nat} {A0 : Nat → Prop} {X cx pl : va_W} {tys tc : List (ClassId × FieldType)} {s : State} {H : Heap} {locs : List Loc} {av : List Value} (hM : va_Mi "[Ljava/lang/Object;" mi s) (hG : GV A0 s s.heap) (hS : va_S A0 s.heap H locs) (hA : ∀ q, s.heap.size ≤ q → A0 q) (hP : va_P D vwCl (X ++ pl) H) (hD : va_D A0 (X ++ pl)) (hK : va_K D vwCl tys s) (is : List Nat) (hn : va_nd is = true) (hm : is.map (fun i => X[i]?) = cx.map some) (js : List Nat) (hj : js.filterMap (fun i => tys[i]?) = tc) : PreS s H (va_Pc av (PcM D mi (cx ++ pl) tc H.size)) av :=
  ⟨fun a U g mk q => by
    obtain ⟨q0, ⟨q1, qP, qK, qD, qG⟩, qE⟩ := q
    exact ⟨q0, ⟨q1, qP, va_K.moved (u := U) (U := U.calling g mk a) (Vm.Alike.refl U.vm) qK, qD, gv_call qG g mk a⟩, va_Mi.moved (U := U.calling g mk a) (Vm.Alike.refl U.vm) qE⟩,
   fun U hU hW => ⟨rfl, ⟨by rw [hU], by rw [hU]; exact hP.part is hm, va_K.moved hW.alike (hK.sub js hj), (hD.part is hn hm).weaken (fun _ _ _ _ => trivial), by rw [hU]; exact gv_down hG hS (va_freeP hD hS hA is hm) hW⟩, va_Mi.moved hW.alike hM⟩⟩
/-- a group of the tail taken out of it, and put back -/
theorem wP_pull {D : va_G} {H : Heap} {X p1 p2 : va_W} {g : Nat × va_E} (h : va_P D vwCl (X ++ (p1 ++ g :: p2)) H) : va_P D vwCl ((X ++ [g]) ++ (p2 ++ p1)) H := by
  have e1 : X ++ (p1 ++ g :: p2) = (X ++ p1) ++ (g :: p2) := (List.append_assoc ..).symm
  have e2 : (X ++ [g]) ++ (p2 ++ p1) = (X ++ (g :: p2)) ++ p1 := by simp
  rw [e2]; rw [e1] at h; exact h.swap
theorem wD_pull {A : Nat → Prop} {X p1 p2 : va_W} {g : Nat × va_E} (h : va_D A (X ++ (p1 ++ g :: p2))) : va_D A ((X ++ [g]) ++ (p2 ++ p1)) := by
  have e1 : X ++ (p1 ++ g :: p2) = (X ++ p1) ++ (g :: p2) := (List.append_assoc ..).symm
  have e2 : (X ++ [g]) ++ (p2 ++ p1) = (X ++ (g :: p2)) ++ p1 := by simp
  rw [e2]; rw [e1] at h; exact h.swap
theorem wP_push {D : va_G} {H : Heap} {X p1 p2 : va_W} {g : Nat × va_E} (h : va_P D vwCl ((X ++ [g]) ++ (p2 ++ p1)) H) : va_P D vwCl (X ++ (p1 ++ g :: p2)) H := by
  have e1 : X ++ (p1 ++ g :: p2) = (X ++ p1) ++ (g :: p2) := (List.append_assoc ..).symm
  have e2 : (X ++ [g]) ++ (p2 ++ p1) = (X ++ (g :: p2)) ++ p1 := by simp
  rw [e1]; rw [e2] at h; exact h.swap
theorem wD_push {A : Nat → Prop} {X p1 p2 : va_W} {g : Nat × va_E} (h : va_D A ((X ++ [g]) ++ (p2 ++ p1))) : va_D A (X ++ (p1 ++ g :: p2)) := by
  have e1 : X ++ (p1 ++ g :: p2) = (X ++ p1) ++ (g :: p2) := (List.append_assoc ..).symm
  have e2 : (X ++ [g]) ++ (p2 ++ p1) = (X ++ (g :: p2)) ++ p1 := by simp
  rw [e1]; rw [e2] at h; exact h.swap
/-- the records' numbers, a group's bytes, all groups' bytes -/
def gnum (gs : Nat → GR) : Nat → Nat
  | 0 => 0
  | g + 1 => gnum gs g + (gs g).1
def goL (g : GR) (num : Nat) : Nat → List Int32
  | 0 => []
  | i + 1 => goL g num i ++ rc9 g.2.2.1 g.2.2.2.2.1 (g.2.2.2.2.2 + nI i) (g.2.1 + (nI i).toInt64) (g.2.2.2.1 + (nI i).toInt64) (num + i)
def gsL (gs : Nat → GR) : Nat → List Int32
  | 0 => []
  | g + 1 => gsL gs g ++ goL (gs g) (gnum gs g) (gs g).1
theorem gnum_mono {gs : Nat → GR} {i n : Nat} (h : i ≤ n) : gnum gs i ≤ gnum gs n := by
  induction n with
  | zero => rw [show i = 0 by omega]; exact Nat.le_refl _
  | succ n ih =>
    by_cases c : i = n + 1
    · rw [c]; exact Nat.le_refl _
    · have := ih (by omega)
      rw [gnum]
      omega
theorem gsL_mono {gs : Nat → GR} {i n : Nat} (h : i ≤ n) : (gsL gs i).length ≤ (gsL gs n).length := by
  induction n with
  | zero => rw [show i = 0 by omega]; exact Nat.le_refl _
  | succ n ih =>
    by_cases c : i = n + 1
    · rw [c]; exact Nat.le_refl _
    · have := ih (by omega)
      rw [gsL, List.length_append]
      omega
theorem goL_mono {g : GR} {num i n : Nat} (h : i ≤ n) : (goL g num i).length ≤ (goL g num n).length := by
  induction n with
  | zero => rw [show i = 0 by omega]; exact Nat.le_refl _
  | succ n ih =>
    by_cases c : i = n + 1
    · rw [c]; exact Nat.le_refl _
    · have := ih (by omega)
      rw [goL, List.length_append]
      omega
theorem nl_half {n : Nat} (h : n < 2 ^ 30) : nI n >>> ((1 : Int32) &&& 31) = nI (n / 2) := by
  have k := pk_shrN (n := n) (by omega) ((1 : Int32) &&& 31) 1 (by decide)
  rw [Nat.pow_one] at k
  exact k
theorem nl_max {a b : Nat} (ha : a < 2 ^ 30) (hb : b < 2 ^ 30) : (if nI a < nI b then nI b else nI a) = nI (max a b) := by
  by_cases h : a < b
  · rw [if_pos (nI_lt h (by omega)), Nat.max_eq_right (by omega)]
  · rw [if_neg (nI_nlt (by omega) (by omega)), Nat.max_eq_left (by omega)]
section LSX
variable {fa : Nat → Option Nat} {gs : Nat → GR} {N ln aG : Nat} {gr : va_W} {g : GR}
theorem ls_first (hN : N = 0) : ∀ i, i < N + 1 → ∃ y, va_up (fun _ => none) N (some aG) i = some y ∧ (y, gcE (va_up gs N g i)) ∈ (aG, gcE g) :: gr := by
  intro i hi
  obtain rfl : N = i := by omega
  exact ⟨aG, va_up_self .., by rw [va_up_self]; exact List.mem_cons_self ..⟩
theorem ls_room (hel : ∀ i, i < N → ∃ y, fa i = some y ∧ (y, gcE (gs i)) ∈ gr) : ∀ i, i < N + 1 → ∃ y, va_up fa N (some aG) i = some y ∧ (y, gcE (va_up gs N g i)) ∈ (aG, gcE g) :: gr := by
  intro i hi
  by_cases e : i = N
  · subst e
    exact ⟨aG, va_up_self .., by rw [va_up_self]; exact List.mem_cons_self ..⟩
  · obtain ⟨y, h1, h2⟩ := hel i (by omega)
    exact ⟨y, by rw [va_up_ne _ _ e]; exact h1, by rw [va_up_ne _ _ e]; exact List.mem_cons_of_mem _ h2⟩
theorem ls_full (hN : N = ln) (hel : ∀ i, i < N → ∃ y, fa i = some y ∧ (y, gcE (gs i)) ∈ gr) : ∀ i, i < N + 1 → ∃ y, va_up (va_cpy fa (fun _ => none) 0 0 ln) N (some aG) i = some y ∧ (y, gcE (va_up gs N g i)) ∈ (aG, gcE g) :: gr :=
  ls_room (fun i hi => by
    obtain ⟨y, h1, h2⟩ := hel i hi
    exact ⟨y, by rw [pk_cpy_in (Nat.zero_le _) (by omega), Nat.sub_zero, Nat.zero_add]; exact h1, h2⟩)
theorem hel_any (hN : N = ln) (hel : ∀ i, i < N → ∃ y, fa i = some y ∧ (y, gcE (gs i)) ∈ gr) : ∀ i, i < ln → ∀ y, fa i = some y → ∃ vs, (y, .inr (2, vs)) ∈ gr := by
  intro i hi y hy
  obtain ⟨y', h1, h2⟩ := hel i (by omega)
  obtain rfl : y' = y := Option.some.inj (h1.symm.trans hy)
  exact ⟨_, h2⟩
end LSX
