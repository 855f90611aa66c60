/-! THE LAW: what holds between two calls -/
def ph (n : Nat) : Nat := if n ≤ 8192 then 2 * n else if n < 16384 then 16384 + n else 49152
theorem ph_le {n : Nat} (h : n ≤ 16384) : ph n ≤ 49152 := by
  unfold ph
  by_cases c : n ≤ 8192
  · rw [if_pos c]; omega
  · rw [if_neg c]
    by_cases c2 : n < 16384
    · rw [if_pos c2]; omega
    · rw [if_neg c2]; omega
theorem ph_gr {n m : Nat} (hn : n ≤ 16384) (hm : m ≤ 16384) : ph n + grS n m ≤ ph (grN n m) ∧ grS n m ≤ 16384 ∧ grC n m ≤ 1 := by
  rcases Nat.lt_or_ge n m with h | h
  · obtain ⟨h1, h2, h3, h4, h5⟩ := gr_yes h hm
    have h6 : min (2 * n) 16384 ≤ grN n m := by
      unfold grN
      rw [if_neg (by omega)]
      by_cases c : m < min (2 * n) 16384
      · rw [if_pos c]; omega
      · rw [if_neg c]; omega
    rw [h4, h5]
    refine ⟨?_, h3, by omega⟩
    unfold ph
    by_cases c : n ≤ 8192
    · rw [if_pos c]
      by_cases c2 : grN n m ≤ 8192
      · rw [if_pos c2]; omega
      · rw [if_neg c2]
        by_cases c3 : grN n m < 16384
        · rw [if_pos c3]; omega
        · rw [if_neg c3]; omega
    · rw [if_neg c, if_neg (by omega : ¬ grN n m ≤ 8192), if_neg (by omega : ¬ grN n m < 16384)]
      by_cases c3 : n < 16384
      · rw [if_pos c3]; omega
      · omega
  · obtain ⟨h1, h2, h3⟩ := gr_no h
    rw [h1, h2, h3]
    exact ⟨by omega, by omega, by omega⟩
theorem lg_ph {N ln : Nat} (h : N ≤ ln ∨ ln = 0 ∧ N = 0) (h10 : ln = 0 ∨ 10 ≤ ln) (hN : N < 1000) (hl : ln ≤ 1500) : 4 * ln + lgS N ln ≤ 4 * lgN N ln ∧ lgS N ln ≤ 2250 ∧ lgC N ln ≤ 1 ∧ lgN N ln ≤ 1500 := by
  rcases Nat.lt_or_ge N ln with c | c
  · obtain ⟨h1, h2, h3⟩ := lg_room c
    rw [h1, h2, h3]; omega
  · rcases h10 with c2 | c2
    · obtain ⟨h1, h2, h3⟩ := lg_first (N := N) (by omega) c2
      rw [h1, h2, h3]; omega
    · obtain ⟨h1, h2, h3⟩ := lg_full (N := N) (by omega) c2
      rw [h1, h2, h3]; omega
theorem ls_cap {eE ea N ln : Nat} {pl : va_W} {cO : ClassId} {gs : Nat → GR} (h : LSx eE pl ea N ln cO gs) : (N ≤ ln ∨ ln = 0 ∧ N = 0) ∧ (ln = 0 ∨ 10 ≤ ln) := by
  rcases h with ⟨-, h1, h2⟩ | ⟨_, _, -, h1, h2, -⟩
  · exact ⟨Or.inr ⟨h2, h1⟩, Or.inl h2⟩
  · exact ⟨Or.inl h2, Or.inr h1⟩
def CN (i : Nat) : Nat := 20 + 3 * i
def SN (i n ln : Nat) : Nat := 22000 + 20 * i + ph n + 4 * ln
theorem cn_le {i : Nat} (h : i ≤ 5000) : CN i ≤ 16000 := by unfold CN; omega
theorem sn_le {i n ln : Nat} (h : i ≤ 5000) (hn : n ≤ 16384) (hl : ln ≤ 1500) : SN i n ln ≤ 200000 := by
  have := ph_le hn
  unfold SN; omega
def INV (D : va_G) (A : Nat → Prop) (s : State) (eE : Nat) (cO : ClassId) (cJ : ClassId) (c1_ : ClassId) (c2_ : ClassId) (c3_ : ClassId) (c4_ : ClassId) (c5_ : ClassId) (c6_ : ClassId) (aB : Nat) (aT : Nat) (aF : Nat) (aQ : Nat) (aK : Nat) (aV : Nat) (aL : Nat) (aM : Nat) (a1 : Nat) (a2 : Nat) (a3 : Nat) (a4 : Nat) (a5 : Nat) (a6 : Nat) (aO : Nat) (n ln : Nat) (H : Heap) : Prop := ∃ (aR : Nat) (cA : ClassId) (f : Nat → Int32) (k : Nat) (ch : Int32) (fk : Int32) (fp : Int32) (pl : Int32) (en : Int32) (so : Int32) (sa : Int32) (ti : Int64) (kl : Int32) (kp : Int32) (vl : Int32) (vp : Int32) (dn : Nat) (wt : Nat) (lt : Int32) (md : Int32) (ea : Nat) (N : Nat) (gs : Nat → GR) (plt : va_W) (co : Int32) (xa : Nat) (ri : Int32) (fa : Int32) (fq : Int32) (bg : Int32) (tm : Int64) (ka : Int32) (kb : Int64) (va : Int32) (vb : Int64) (tp : Nat → Int32) (gk : Nat → Int64) (gkb : Nat → Int32) (gv : Nat → Int64) (gvb : Nat → Int32) (gl : Nat → Int32) (fo : Nat → Int64), k ≤ n ∧ n ≤ 16384 ∧ fitB f ∧ RB tp f k ∧ (ch = 0 → fk = (jgC f k).1 ∧ fp = (jgC f k).2) ∧ RD dn wt lt N gs gk gv gkb gvb gl ∧ LSx eE plt ea N ln cO gs ∧ ln ≤ 1500 ∧ va_P D vwCl ([(aB, .inr (6, [.ref aT, .ref aF, .ref aQ, .int fk, .int fp])), (aT, .inr (5, [.ref aR, .int (nI k), .int ch])), (aR, .inl (cA, n, .inl f)), (aF, .inr (1, [.ref aL, .int (nI dn), .int (nI wt), .int lt])), (aL, .inr (0, [.int md, .ref ea, .int (nI N)])), (aQ, .inr (4, [.ref aT, .ref aK, .ref aV, .int pl, .int en, .int so, .int sa, .long ti])), (aK, .inr (3, [.int kl, .int kp])), (aV, .inr (3, [.int vl, .int vp])), (aO, .inl (cJ, 1, .inr (.inl fo))), (aM, .inr (7, [.int co, .ref a1, .int (nI k), .int (nI dn), .ref a2, .ref a3, .ref a4, .ref a5, .ref a6, .int (nI xa), .int ri, .int fa, .int fq, .int bg, .long tm, .int ka, .long kb, .int va, .long vb])), (a1, .inl (c1_, 16384, .inl tp)), (a2, .inl (c2_, 1000, .inr (.inl gk))), (a3, .inl (c3_, 1000, .inl gkb)), (a4, .inl (c4_, 1000, .inr (.inl gv))), (a5, .inl (c5_, 1000, .inl gvb)), (a6, .inl (c6_, 1000, .inl gl))] ++ plt) H ∧ va_D A ([(aB, .inr (6, [.ref aT, .ref aF, .ref aQ, .int fk, .int fp])), (aT, .inr (5, [.ref aR, .int (nI k), .int ch])), (aR, .inl (cA, n, .inl f)), (aF, .inr (1, [.ref aL, .int (nI dn), .int (nI wt), .int lt])), (aL, .inr (0, [.int md, .ref ea, .int (nI N)])), (aQ, .inr (4, [.ref aT, .ref aK, .ref aV, .int pl, .int en, .int so, .int sa, .long ti])), (aK, .inr (3, [.int kl, .int kp])), (aV, .inr (3, [.int vl, .int vp])), (aO, .inl (cJ, 1, .inr (.inl fo))), (aM, .inr (7, [.int co, .ref a1, .int (nI k), .int (nI dn), .ref a2, .ref a3, .ref a4, .ref a5, .ref a6, .int (nI xa), .int ri, .int fa, .int fq, .int bg, .long tm, .int ka, .long kb, .int va, .long vb])), (a1, .inl (c1_, 16384, .inl tp)), (a2, .inl (c2_, 1000, .inr (.inl gk))), (a3, .inl (c3_, 1000, .inl gkb)), (a4, .inl (c4_, 1000, .inr (.inl gv))), (a5, .inl (c5_, 1000, .inl gvb)), (a6, .inl (c6_, 1000, .inl gl))] ++ plt) ∧ va_K D vwCl [(cA, .byte), (cO, .object "java/lang/Object"), (cJ, .long), (c1_, .int), (c2_, .long), (c3_, .int), (c4_, .long), (c5_, .int), (c6_, .int)] s
theorem INV_mk {D : va_G} {A : Nat → Prop} {s : State} {eE n ln : Nat} {H : Heap} {cO : ClassId} {cJ : ClassId} {c1_ : ClassId} {c2_ : ClassId} {c3_ : ClassId} {c4_ : ClassId} {c5_ : ClassId} {c6_ : ClassId} {aB : Nat} {aT : Nat} {aF : Nat} {aQ : Nat} {aK : Nat} {aV : Nat} {aL : Nat} {aM : Nat} {a1 : Nat} {a2 : Nat} {a3 : Nat} {a4 : Nat} {a5 : Nat} {a6 : Nat} {aO : Nat} {aR : Nat} {cA : ClassId} {f : Nat → Int32} {k : Nat} {ch : Int32} {fk : Int32} {fp : Int32} {pl : Int32} {en : Int32} {so : Int32} {sa : Int32} {ti : Int64} {kl : Int32} {kp : Int32} {vl : Int32} {vp : Int32} {dn : Nat} {wt : Nat} {lt : Int32} {md : Int32} {ea : Nat} {N : Nat} {gs : Nat → GR} {plt : va_W} {co : Int32} {xa : Nat} {ri : Int32} {fa : Int32} {fq : Int32} {bg : Int32} {tm : Int64} {ka : Int32} {kb : Int64} {va : Int32} {vb : Int64} {tp : Nat → Int32} {gk : Nat → Int64} {gkb : Nat → Int32} {gv : Nat → Int64} {gvb : Nat → Int32} {gl : Nat → Int32} {fo : Nat → Int64} (hP : va_P D vwCl ([(aB, .inr (6, [.ref aT, .ref aF, .ref aQ, .int fk, .int fp])), (aT, .inr (5, [.ref aR, .int (nI k), .int ch])), (aR, .inl (cA, n, .inl f)), (aF, .inr (1, [.ref aL, .int (nI dn), .int (nI wt), .int lt])), (aL, .inr (0, [.int md, .ref ea, .int (nI N)])), (aQ, .inr (4, [.ref aT, .ref aK, .ref aV, .int pl, .int en, .int so, .int sa, .long ti])), (aK, .inr (3, [.int kl, .int kp])), (aV, .inr (3, [.int vl, .int vp])), (aO, .inl (cJ, 1, .inr (.inl fo))), (aM, .inr (7, [.int co, .ref a1, .int (nI k), .int (nI dn), .ref a2, .ref a3, .ref a4, .ref a5, .ref a6, .int (nI xa), .int ri, .int fa, .int fq, .int bg, .long tm, .int ka, .long kb, .int va, .long vb])), (a1, .inl (c1_, 16384, .inl tp)), (a2, .inl (c2_, 1000, .inr (.inl gk))), (a3, .inl (c3_, 1000, .inl gkb)), (a4, .inl (c4_, 1000, .inr (.inl gv))), (a5, .inl (c5_, 1000, .inl gvb)), (a6, .inl (c6_, 1000, .inl gl))] ++ plt) H) (hD : va_D A ([(aB, .inr (6, [.ref aT, .ref aF, .ref aQ, .int fk, .int fp])), (aT, .inr (5, [.ref aR, .int (nI k), .int ch])), (aR, .inl (cA, n, .inl f)), (aF, .inr (1, [.ref aL, .int (nI dn), .int (nI wt), .int lt])), (aL, .inr (0, [.int md, .ref ea, .int (nI N)])), (aQ, .inr (4, [.ref aT, .ref aK, .ref aV, .int pl, .int en, .int so, .int sa, .long ti])), (aK, .inr (3, [.int kl, .int kp])), (aV, .inr (3, [.int vl, .int vp])), (aO, .inl (cJ, 1, .inr (.inl fo))), (aM, .inr (7, [.int co, .ref a1, .int (nI k), .int (nI dn), .ref a2, .ref a3, .ref a4, .ref a5, .ref a6, .int (nI xa), .int ri, .int fa, .int fq, .int bg, .long tm, .int ka, .long kb, .int va, .long vb])), (a1, .inl (c1_, 16384, .inl tp)), (a2, .inl (c2_, 1000, .inr (.inl gk))), (a3, .inl (c3_, 1000, .inl gkb)), (a4, .inl (c4_, 1000, .inr (.inl gv))), (a5, .inl (c5_, 1000, .inl gvb)), (a6, .inl (c6_, 1000, .inl gl))] ++ plt)) (hK : va_K D vwCl [(cA, .byte), (cO, .object "java/lang/Object"), (cJ, .long), (c1_, .int), (c2_, .long), (c3_, .int), (c4_, .long), (c5_, .int), (c6_, .int)] s) (r1 : k ≤ n) (r2 : n ≤ 16384) (r3 : fitB f) (r4 : RB tp f k) (r5 : (ch = 0 → fk = (jgC f k).1 ∧ fp = (jgC f k).2)) (r6 : RD dn wt lt N gs gk gv gkb gvb gl) (r7 : LSx eE plt ea N ln cO gs) (r8 : ln ≤ 1500) : INV D A s eE cO cJ c1_ c2_ c3_ c4_ c5_ c6_ aB aT aF aQ aK aV aL aM a1 a2 a3 a4 a5 a6 aO n ln H := ⟨aR, cA, f, k, ch, fk, fp, pl, en, so, sa, ti, kl, kp, vl, vp, dn, wt, lt, md, ea, N, gs, plt, co, xa, ri, fa, fq, bg, tm, ka, kb, va, vb, tp, gk, gkb, gv, gvb, gl, fo, r1, r2, r3, r4, r5, r6, r7, r8, hP, hD, hK⟩