/-! Performing: the next voice of the reference; the end of voices. -/
section
variable {S S1 S2 S0 Sr Sr1 Sr2 R0 SB SrB : PS} {A : Nat → Nat} {B : Nat → Int32} {n N nd pc : Nat} {bh par ks lv g ow : Nat → Nat}
variable {D m st E V M t ln sy x v fe le l l12 : Nat} {lp q l6 : Int} {X Y C H F VF TB cs : Nat → Nat} {w : Int64}
theorem VEc.j (ve : VEc S SB F v fe le l q) {j : Nat} (hj : j < 13 ∨ 16 < j) : fI SB j = fI S j ∧ fL SB j = fL S j := ⟨(ve.1.2.1 j (by simp only [decide_eq_false_iff_not]; omega)).1, (ve.1.2.1 j (by simp only [decide_eq_false_iff_not]; omega)).2⟩
theorem VEc.a (ve : VEc S SB F v fe le l q) : aI SB = aI S ∧ aL SB = aL S := ⟨by funext r; exact (ve.1.2.2 r rfl).1, by funext r; exact (ve.1.2.2 r rfl).2⟩
theorem VEr.j {rel : Prop} (ve : VEr Sr SrB A v fe le l q rel) : fI SrB = fI Sr ∧ fL SrB = fL Sr := ⟨by funext j; exact (ve.1.2.1 j rfl).1, by funext j; exact (ve.1.2.1 j rfl).2⟩
theorem VEr.a {rel : Prop} (ve : VEr Sr SrB A v fe le l q rel) {r : Nat} (hr : r ≠ 93 ∧ (r < 98 ∨ 100 < r)) : aI SrB r = aI Sr r ∧ aL SrB r = aL Sr r := ve.1.2.2 r (by simp only [decide_eq_false_iff_not]; omega)
theorem VEr.k {rel : Prop} (ve : VEr Sr SrB A v fe le l q rel) (h : KPf R0 Sr) : KPf R0 SrB := Keep.tr h (ve.1.mono (fun j _ => rfl) (fun r => by unfold rPf; simp only [decide_eq_false_iff_not]; omega))
theorem rpf_nx {T wr : Nat} (hr : RSR S0 R0 A B n N nd bh par ks pc T wr sy g ow) (h : CPf S S0 A B n N nd bh par ks lv D m st E V M t ln lp X Y C H F VF TB) (rp : RPf S Sr S0 R0 A B n sy N bh ks g ow D E V M X Y C H F) (hD : 2 ≤ D) (hk : ks (X (D - 1)) = 7) (ve : VEc S SB F (D - 1) fe le l q) (vr : VEr Sr SrB A (D - 1) fe le l q (0 < cp (pk ks 3) X (D - 2)))
    (hf : fL S 12 (F (D - 1)) = lN l12) (hl : fI S 6 (F (D - 1)) = iJ l6) (hV : V < 12) (y'N : bh (Y (D - 1)) + 1 ≤ N) (oy : ow (bh (Y (D - 1)) + 1) = g (bh (Y (D - 1)) + 1)) (yx : bh (Y (D - 1)) + 1 ≠ X (D - 1) + 1) :
    RPf (nxC SB A F (D - 1) V (TB (D - 1)) l12 (bh (Y (D - 1)) + 1) (bh (bh (Y (D - 1)) + 1)) l6) (nxR SrB A (D - 1) V (TB (D - 1)) l12 (g (bh (Y (D - 1)) + 1)) (aI SrB 90 (A 90) (D - 1)) (aI R0 46 (A 46) (g (bh (Y (D - 1)) + 1)))) S0 R0 A B n sy N bh ks g ow D E (V + 1) M X (uq Y (D - 1) (bh (Y (D - 1)) + 1)) (uq C (D - 1) (bh (Y (D - 1)) + 1)) H F := by
  obtain ⟨a1, a2, ⟨a3, a4⟩, a5, a6, a7, a8, a9, a10⟩ := h
  obtain ⟨r1, r2, r3, r4⟩ := rp
  have d201 := a4.2.2.2
  have hk1 : 1 ≤ D - 1 := by omega
  have e2 : D - 1 - 1 = D - 2 := by omega
  have hne : ∀ i, i < D - 1 → F i ≠ F (D - 1) := fun i hi => a4.ne (by omega) (by omega) (by omega)
  have jj := fun j hj => ve.j (j := j) hj
  have aa := ve.a
  have kj := vr.j
  have ka := fun r hr => vr.a (r := r) hr
  have c3 : cp (pk ks 3) X (D - 1) = cp (pk ks 3) X (D - 2) := by rw [cp_po hk1, e2, pk_f (by omega), if_neg (by decide)]; rfl
  have rk := (r3 (D - 1) (by omega)).2.2.2.2 hk1
  have rv := rk.2.2.2.1 hk
  rw [RpV, e2] at rv
  refine ⟨(((((((((vr.k r1).sI rfl).sI rfl).wL rfl).wI rfl).sL rfl).sL rfl).sI rfl).wI rfl).wI rfl, ?_, fun i hi => ?_, ⟨?_, ?_, ?_⟩, fun e he => ?_, fun u hu => ?_, fun i hi => ?_⟩
  · obtain ⟨b102, b188, b154, b155, b156, b157, b158, b159, b160, b161, b162, b163, b164, b166, b165, b169⟩ := r2
    unfold RpS nxC nxR
    simp only [fI_s, fI_sn, fL_s, fL_sn, aI_w, aI_wn, aL_w, aL_wn, fI_sL, fI_wI, fI_wL, fL_sI, fL_wI, fL_wL, aI_sI, aI_sL, aI_wL, aL_sI, aL_sL, aL_wI, fR_sI, fR_sL, fR_wI, fR_wL, aN_sI, aN_sL, aN_wI, aN_wL, ne_eq, Nat.reduceEqDiff, not_false_eq_true]
    rw [kj.1, kj.2, (jj 26 (by omega)).1, (jj 31 (by omega)).1, (jj 32 (by omega)).1, (jj 33 (by omega)).2, (jj 34 (by omega)).2, (jj 35 (by omega)).1, (jj 36 (by omega)).1, (jj 37 (by omega)).1, (jj 38 (by omega)).1]
    refine ⟨b102, b188, b154, trivial, trivial, trivial, fun z => ?_, b159, b160, b161, b162, b163, b164, b166, b165, b169⟩
    rw [(ka 90 (by omega)).1, rv.2.2.2.1 (by rw [← c3]; exact z), hl]
  · by_cases e : i = D - 1
    · subst e
      obtain ⟨f1, f2, f3, f4, f5⟩ := r3 (D - 1) hi
      refine ⟨by unfold nxR; simp only [fI_s, fI_sn, fL_s, fL_sn, aI_w, aI_wn, aL_w, aL_wn, fI_sL, fI_wI, fI_wL, fL_sI, fL_wI, fL_wL, aI_sI, aI_sL, aI_wL, aL_sI, aL_sL, aL_wI, fR_sI, fR_sL, fR_wI, fR_wL, aN_sI, aN_sL, aN_wI, aN_wL, ne_eq, Nat.reduceEqDiff, not_false_eq_true]; rw [(ka 87 (by omega)).1]; exact f1, ?_, by unfold nxR; simp only [fI_s, fI_sn, fL_s, fL_sn, aI_w, aI_wn, aL_w, aL_wn, fI_sL, fI_wI, fI_wL, fL_sI, fL_wI, fL_wL, aI_sI, aI_sL, aI_wL, aL_sI, aL_sL, aL_wI, fR_sI, fR_sL, fR_wI, fR_wL, aN_sI, aN_sL, aN_wI, aN_wL, ne_eq, Nat.reduceEqDiff, not_false_eq_true]; rw [uq_at, uq_at, oy], by unfold nxR; simp only [fI_s, fI_sn, fL_s, fL_sn, aI_w, aI_wn, aL_w, aL_wn, fI_sL, fI_wI, fI_wL, fL_sI, fL_wI, fL_wL, aI_sI, aI_sL, aI_wL, aL_sI, aL_sL, aL_wI, fR_sI, fR_sL, fR_wI, fR_wL, aN_sI, aN_sL, aN_wI, aN_wL, ne_eq, Nat.reduceEqDiff, not_false_eq_true]; rw [(ka 88 (by omega)).1]; exact f4, fun _ => ⟨fun z => by omega, fun z => by omega, fun z => by omega, fun _ => ?_, fun z => ?_⟩⟩
      · unfold nxR
        simp only [fI_s, fI_sn, fL_s, fL_sn, aI_w, aI_wn, aL_w, aL_wn, fI_sL, fI_wI, fI_wL, fL_sI, fL_wI, fL_wL, aI_sI, aI_sL, aI_wL, aL_sI, aL_sL, aL_wI, fR_sI, fR_sL, fR_wI, fR_wL, aN_sI, aN_sL, aN_wI, aN_wL, ne_eq, Nat.reduceEqDiff, not_false_eq_true]
        rw [uq_at, uq_at, uq_at, ← oy, hr.2.2.1.1 _ y'N]
      · unfold RpV nxC nxR
        simp only [fI_s, fI_sn, fL_s, fL_sn, aI_w, aI_wn, aL_w, aL_wn, fI_sL, fI_wI, fI_wL, fL_sI, fL_wI, fL_wL, aI_sI, aI_sL, aI_wL, aL_sI, aL_sL, aL_wI, fR_sI, fR_sL, fR_wI, fR_wL, aN_sI, aN_sL, aN_wI, aN_wL, ne_eq, Nat.reduceEqDiff, not_false_eq_true]
        rw [uq_at, e2, (ka 91 (by omega)).1, (ka 96 (by omega)).2, (ka 97 (by omega)).2, (ka 90 (by omega)).1, (jj 10 (by omega)).1, (jj 11 (by omega)).2, (jj 12 (by omega)).2, (jj 6 (by omega)).1]
        refine ⟨rv.1, rv.2.1, rv.2.2.1, rv.2.2.2.1, fun _ => ⟨?_, ?_, ?_, fun z => ?_⟩⟩
        · rw [vr.2.2.1, ve.2.2.1]
        · rw [vr.2.2.2.1, ve.2.2.2.1]
        · rw [vr.2.2.2.2.1, ve.2.2.2.2.1]
        · rw [vr.2.2.2.2.2 z, ve.2.2.2.2.2]
      · exfalso
        unfold pn at z
        rw [decide_eq_true_iff] at z; omega
    · have hi' : i < D - 1 := by omega
      refine (r3 i hi).cg (a6 i hi).hb (by have := (a6 (i - 1) (by omega)).hb; omega) (fun _ _ => rfl) (uq_ne e) rfl rfl rfl (fun j j1 j2 _ => ⟨?_, ?_⟩) ?_ (fun r r1 r2 => ⟨?_, ?_⟩) (fun _ _ => ?_)
      · unfold nxC
        rw [fI_sI, if_neg (fun z => hne i hi' z.2), fI_sI, if_neg (fun z => hne i hi' z.2), fI_sn _ _ _ _ _ (by omega), fI_sL, fI_sL, fI_sn _ _ _ _ _ (by omega), fI_wI, fI_wI, fI_wL, fI_sn _ _ _ _ _ (by omega)]; exact (ve.2.1 _ (hne i hi') j).1
      · unfold nxC
        rw [fL_sI, fL_sI, fL_sI, fL_sn _ _ _ _ _ (by omega), fL_sn _ _ _ _ _ (by omega)]; exact (ve.2.1 _ (hne i hi') j).2
      · unfold nxR; simp only [fI_s, fI_sn, fL_s, fL_sn, aI_w, aI_wn, aL_w, aL_wn, fI_sL, fI_wI, fI_wL, fL_sI, fL_wI, fL_wL, aI_sI, aI_sL, aI_wL, aL_sI, aL_sL, aL_wI, fR_sI, fR_sL, fR_wI, fR_wL, aN_sI, aN_sL, aN_wI, aN_wL, ne_eq, Nat.reduceEqDiff, not_false_eq_true]; rw [uq_ne e, uq_ne e, (ka 86 (by omega)).1]; exact (r3 i hi).2.1
      · unfold nxR
        have z : ¬ i = D - 1 := e
        simp only [fI_s, fI_sn, fL_s, fL_sn, aI_w, aI_wn, aL_w, aL_wn, fI_sL, fI_wI, fI_wL, fL_sI, fL_wI, fL_wL, aI_sI, aI_sL, aI_wL, aL_sI, aL_sL, aL_wI, fR_sI, fR_sL, fR_wI, fR_wL, aN_sI, aN_sL, aN_wI, aN_wL, ne_eq, Nat.reduceEqDiff, not_false_eq_true, aI_wI, z, and_false, if_false]
        rw [show (if r = 77 ∧ A r = A 77 ∧ i = V then (-1 : Int32) else aI SrB r (A r) i) = aI SrB r (A r) i from if_neg (fun y => by omega)]
        exact (vr.2.1 r i e).1
      · unfold nxR
        simp only [aL_wI, aL_sI, aL_sL]
        rw [aL_wn _ _ _ _ _ _ (by omega), aL_sI, aL_sI]
        exact (vr.2.1 r i e).2
      · unfold nxR
        simp only [fI_s, fI_sn, fL_s, fL_sn, aI_w, aI_wn, aL_w, aL_wn, fI_sL, fI_wI, fI_wL, fL_sI, fL_wI, fL_wL, aI_sI, aI_sL, aI_wL, aL_sI, aL_sL, aL_wI, fR_sI, fR_sL, fR_wI, fR_wL, aN_sI, aN_sL, aN_wI, aN_wL, ne_eq, Nat.reduceEqDiff, not_false_eq_true]
        rw [(ka 81 (by omega)).1, (ka 82 (by omega)).1]; exact ⟨rfl, rfl⟩
  · unfold nxR; simp only [fI_s, fI_sn, fL_s, fL_sn, aI_w, aI_wn, aL_w, aL_wn, fI_sL, fI_wI, fI_wL, fL_sI, fL_wI, fL_wL, aI_sI, aI_sL, aI_wL, aL_sI, aL_sL, aL_wI, fR_sI, fR_sL, fR_wI, fR_wL, aN_sI, aN_sL, aN_wI, aN_wL, ne_eq, Nat.reduceEqDiff, not_false_eq_true]; rw [kj.1]; exact r4.1.1
  · unfold nxR; simp only [fI_s, fI_sn, fL_s, fL_sn, aI_w, aI_wn, aL_w, aL_wn, fI_sL, fI_wI, fI_wL, fL_sI, fL_wI, fL_wL, aI_sI, aI_sL, aI_wL, aL_sI, aL_sL, aL_wI, fR_sI, fR_sL, fR_wI, fR_wL, aN_sI, aN_sL, aN_wI, aN_wL, ne_eq, Nat.reduceEqDiff, not_false_eq_true]
  · unfold nxR; simp only [fI_s, fI_sn, fL_s, fL_sn, aI_w, aI_wn, aL_w, aL_wn, fI_sL, fI_wI, fI_wL, fL_sI, fL_wI, fL_wL, aI_sI, aI_sL, aI_wL, aL_sI, aL_sL, aL_wI, fR_sI, fR_sL, fR_wI, fR_wL, aN_sI, aN_sL, aN_wI, aN_wL, ne_eq, Nat.reduceEqDiff, not_false_eq_true]; rw [kj.1]; exact r4.1.2.2
  · have := r4.2.1 e he
    unfold RpE PcR at this ⊢
    unfold nxC nxR
    simp only [fI_s, fI_sn, fL_s, fL_sn, aI_w, aI_wn, aL_w, aL_wn, fI_sL, fI_wI, fI_wL, fL_sI, fL_wI, fL_wL, aI_sI, aI_sL, aI_wL, aL_sI, aL_sL, aL_wI, fR_sI, fR_sL, fR_wI, fR_wL, aN_sI, aN_sL, aN_wI, aN_wL, ne_eq, Nat.reduceEqDiff, not_false_eq_true]
    rw [aa.1, aa.2, (ka 65 (by omega)).1, (ka 66 (by omega)).1, (ka 67 (by omega)).1, (ka 68 (by omega)).1, (ka 69 (by omega)).2, (ka 70 (by omega)).2, (ka 72 (by omega)).1, (ka 73 (by omega)).1, (ka 74 (by omega)).1, (ka 75 (by omega)).1]
    exact this
  · unfold RpO nxC nxR
    simp only [fI_s, fI_sn, fL_s, fL_sn, aI_w, aI_wn, aL_w, aL_wn, fI_sL, fI_wI, fI_wL, fL_sI, fL_wI, fL_wL, aI_sI, aI_sL, aI_wL, aL_sI, aL_sL, aL_wI, fR_sI, fR_sL, fR_wI, fR_wL, aN_sI, aN_sL, aN_wI, aN_wL, ne_eq, Nat.reduceEqDiff, not_false_eq_true]
    rw [aa.1, aa.2, (ka 76 (by omega)).2, (ka 77 (by omega)).1, (ka 71 (by omega)).1]
    by_cases z : u = V
    · subst z
      simp only [uq_at]
      exact ⟨trivial, Or.inl ⟨trivial, trivial⟩⟩
    · rw [uq_ne z, uq_ne z, uq_ne z, uq_ne z, uq_ne z]
      exact r4.2.2.1 u (by omega)
  · have := r4.2.2.2 i hi
    unfold RpM at this ⊢
    unfold nxC nxR
    simp only [fI_s, fI_sn, fL_s, fL_sn, aI_w, aI_wn, aL_w, aL_wn, fI_sL, fI_wI, fI_wL, fL_sI, fL_wI, fL_wL, aI_sI, aI_sL, aI_wL, aL_sI, aL_sL, aL_wI, fR_sI, fR_sL, fR_wI, fR_wL, aN_sI, aN_sL, aN_wI, aN_wL, ne_eq, Nat.reduceEqDiff, not_false_eq_true]
    rw [aa.1, aa.2, (ka 78 (by omega)).2, (ka 79 (by omega)).1, (ka 80 (by omega)).1]
    exact this
/-- voices end, of the class -/
theorem cpf_cl (sc : StC S0 A B n pc N nd bh par ks lv) (h : CPf S S0 A B n N nd bh par ks lv D m st E V M t ln lp X Y C H F VF TB) (hD : 2 ≤ D) (hk : ks (X (D - 1)) = 7) (ve : VEc S SB F (D - 1) fe le l q) (kw : Kws (PW A S0) S0 SB) (h1 : TB (D - 1) ≤ fe) (h3 : fe ≤ 3870720000) (h4 : 1 ≤ l) (h5 : l ≤ 3870720000) (h6 : lpb q st)
    (hp : Y (D - 1) ≠ X (D - 1) + 1 → aI S 38 (A 38) (VF (D - 1)) = -1) :
    CPf (clC SB A D (cp (pk ks 7) X (D - 1)) (VF (D - 2)) fe l q) S0 A B n N nd bh par ks lv (D - 1) m st E V M fe l q X Y C H F VF TB := by
  obtain ⟨a1, a2, ⟨a3, a4⟩, a5, a6, a7, ⟨v0, v1, v2⟩, a9, a10⟩ := h
  have d201 := a4.2.2.2
  have hk1 : 1 ≤ D - 1 := by omega
  have e2 : D - 1 - 1 = D - 2 := by omega
  have hne : ∀ i, i < D - 1 → F i ≠ F (D - 1) := fun i hi => a4.ne (by omega) (by omega) (by omega)
  have jj := fun j hj => ve.j (j := j) hj
  have aa := ve.a
  have hH : H (D - 1) = H (D - 2) := by
    rcases ((a6 (D - 1) (by omega)).2.2.2.2.2.1 hk1).2.2.2 with z | z | z
    · omega
    · rw [z.2.2.2, e2]
    · omega
  have st1 : St (clC SB A D (cp (pk ks 7) X (D - 1)) (VF (D - 2)) fe l q) = St S := ve.1.1
  have cpn : ∀ s, s ≠ 7 → cp (pk ks s) X (D - 1) = cp (pk ks s) X (D - 2) := fun s hs => by rw [cp_po hk1, e2, pk_f (by omega), if_neg (by decide)]; rfl
  have w1 : wu S0 A ks (X (D - 1)) = 1 := by unfold wu; rw [if_neg (by omega)]
  have w2 : wd5 S0 A ks (X (D - 1)) = 1 := by unfold wd5; rw [if_neg (by omega)]
  have w3 : ∀ r, wm S0 A ks r (X (D - 1)) = 0 := fun r => by unfold wm; rw [if_neg (by omega)]
  refine ⟨(((((kw.sI (PW.at rfl)).sI (PW.at rfl)).sI (PW.at rfl)).sL (PW.at rfl)).sL (PW.at rfl)).sI (PW.at rfl), a2.st st1, ⟨hk1, ?_⟩, ?_, fun i hi => a6 i (by omega), fun i hi => ?_, ⟨v0, fun i hi => v1 i (by omega), fun i i1 i2 i3 => ⟨?_, (v2 i i1 (by omega) i3).2⟩⟩, ?_, ?_⟩
  · have := a4.st st1
    exact ⟨this.1, this.2.1, this.2.2.1, by have := this.2.2.2.1; omega, this.2.2.2.2⟩
  · obtain ⟨z1, z2, z3, z4, z5, z6, z7, ⟨z8, z8b⟩, z9, z10, z11, z12, ⟨z13, z13b⟩, z14, z15⟩ := a5
    rw [cpn 3 (by decide)] at z7
    rw [cpn 5 (by decide)] at z8 z8b
    rw [cpn 10 (by decide)] at z13 z13b
    rw [pf_po hk1, w1, Nat.mul_one, e2] at z9
    rw [pf_po hk1, w2, Nat.mul_one, e2] at z10
    rw [sf_po hk1, w3, Int.add_zero, e2] at z11
    rw [sf_po hk1, w3, Int.add_zero, e2] at z12
    rw [hH] at z15
    unfold PfS clC
    simp only [fI_s, fI_sn, fL_s, fL_sn, aI_w, aI_wn, aL_w, aL_wn, fI_sL, fI_wI, fI_wL, fL_sI, fL_wI, fL_wL, aI_sI, aI_sL, aI_wL, aL_sI, aL_sL, aL_wI, fR_sI, fR_sL, fR_wI, fR_wL, aN_sI, aN_sL, aN_wI, aN_wL, ne_eq, Nat.reduceEqDiff, not_false_eq_true]
    rw [e2, (jj 26 (by omega)).1, (jj 31 (by omega)).1, (jj 32 (by omega)).1, (jj 33 (by omega)).2, (jj 34 (by omega)).2, (jj 35 (by omega)).1, (jj 36 (by omega)).1, (jj 37 (by omega)).1, (jj 39 (by omega)).1]
    refine ⟨trivial, z2, rfl, ⟨trivial, h3⟩, ⟨trivial, h4, h5⟩, ⟨trivial, h6⟩, z7, ⟨z8, z8b⟩, z9, z10, z11, z12, ⟨z13, z13b⟩, ?_, z15⟩
    rw [cp_po hk1, e2, pk_t hk, if_pos rfl, Nat.add_sub_cancel]
  · have fe' : ∀ j, j < 17 → fI (clC SB A D (cp (pk ks 7) X (D - 1)) (VF (D - 2)) fe l q) j (F i) = fI S j (F i) ∧ fL (clC SB A D (cp (pk ks 7) X (D - 1)) (VF (D - 2)) fe l q) j (F i) = fL S j (F i) := fun j hj => by
      unfold clC
      refine ⟨?_, ?_⟩
      · rw [fI_sn _ _ _ _ _ (by omega), fI_sL, fI_sL, fI_sn _ _ _ _ _ (by omega), fI_sn _ _ _ _ _ (by omega), fI_sn _ _ _ _ _ (by omega)]; exact (ve.2.1 _ (hne i hi) j).1
      · rw [fL_sI, fL_sn _ _ _ _ _ (by omega), fL_sn _ _ _ _ _ (by omega)]; exact (ve.2.1 _ (hne i hi) j).2
    exact (a7 i (by omega)).cg (Nat.le_refl st) (fun _ _ => rfl) rfl (fun _ _ => rfl) rfl (fun _ _ => rfl) rfl (by rw [(fe' 3 (by omega)).1]; exact (a7 i (by omega)).2.1) (fun j j1 j2 _ => fe' j (by omega))
  · have := (v2 (D - 1) hk1 (by omega) hk).2 i i1 i2 i3
    omega
  · have q : EqM S (clC SB A D (cp (pk ks 7) X (D - 1)) (VF (D - 2)) fe l q) A := ⟨by unfold clC; simp only [fI_s, fI_sn, fL_s, fL_sn, aI_w, aI_wn, aL_w, aL_wn, fI_sL, fI_wI, fI_wL, fL_sI, fL_wI, fL_wL, aI_sI, aI_sL, aI_wL, aL_sI, aL_sL, aL_wI, fR_sI, fR_sL, fR_wI, fR_wL, aN_sI, aN_sL, aN_wI, aN_wL, ne_eq, Nat.reduceEqDiff, not_false_eq_true]; rw [(jj 17 (by omega)).1], fun r r1 r2 => ⟨by unfold clC; simp only [fI_s, fI_sn, fL_s, fL_sn, aI_w, aI_wn, aL_w, aL_wn, fI_sL, fI_wI, fI_wL, fL_sI, fL_wI, fL_wL, aI_sI, aI_sL, aI_wL, aL_sI, aL_sL, aL_wI, fR_sI, fR_sL, fR_wI, fR_wL, aN_sI, aN_sL, aN_wI, aN_wL, ne_eq, Nat.reduceEqDiff, not_false_eq_true]; rw [aa.1], by unfold clC; simp only [fI_s, fI_sn, fL_s, fL_sn, aI_w, aI_wn, aL_w, aL_wn, fI_sL, fI_wI, fI_wL, fL_sI, fL_wI, fL_wL, aI_sI, aI_sL, aI_wL, aL_sI, aL_sL, aL_wI, fR_sI, fR_sL, fR_wI, fR_wL, aN_sI, aN_sL, aN_wI, aN_wL, ne_eq, Nat.reduceEqDiff, not_false_eq_true]; rw [aa.2]⟩⟩
    obtain ⟨m1, mt, mu, md, m2, m3, m4, m5, m6⟩ := a9.eq q
    have := m6 (D - 1) hk1 (by omega) hk
    exact ⟨m1, mt, mu, md, m2, m3, m4, by omega, fun i i1 i2 i3 => m6 i i1 (by omega) i3⟩
  · have q : EqE S (clC SB A D (cp (pk ks 7) X (D - 1)) (VF (D - 2)) fe l q) A := ⟨by unfold clC; simp only [fI_s, fI_sn, fL_s, fL_sn, aI_w, aI_wn, aL_w, aL_wn, fI_sL, fI_wI, fI_wL, fL_sI, fL_wI, fL_wL, aI_sI, aI_sL, aI_wL, aL_sI, aL_sL, aL_wI, fR_sI, fR_sL, fR_wI, fR_wL, aN_sI, aN_sL, aN_wI, aN_wL, ne_eq, Nat.reduceEqDiff, not_false_eq_true]; rw [(jj 70 (by omega)).1], by unfold clC; simp only [fI_s, fI_sn, fL_s, fL_sn, aI_w, aI_wn, aL_w, aL_wn, fI_sL, fI_wI, fI_wL, fL_sI, fL_wI, fL_wL, aI_sI, aI_sL, aI_wL, aL_sI, aL_sL, aL_wI, fR_sI, fR_sL, fR_wI, fR_wL, aN_sI, aN_sL, aN_wI, aN_wL, ne_eq, Nat.reduceEqDiff, not_false_eq_true]; rw [(jj 79 (by omega)).1], fun r r1 r2 => ⟨by unfold clC; simp only [fI_s, fI_sn, fL_s, fL_sn, aI_w, aI_wn, aL_w, aL_wn, fI_sL, fI_wI, fI_wL, fL_sI, fL_wI, fL_wL, aI_sI, aI_sL, aI_wL, aL_sI, aL_sL, aL_wI, fR_sI, fR_sL, fR_wI, fR_wL, aN_sI, aN_sL, aN_wI, aN_wL, ne_eq, Nat.reduceEqDiff, not_false_eq_true]; rw [aa.1], by unfold clC; simp only [fI_s, fI_sn, fL_s, fL_sn, aI_w, aI_wn, aL_w, aL_wn, fI_sL, fI_wI, fI_wL, fL_sI, fL_wI, fL_wL, aI_sI, aI_sL, aI_wL, aL_sI, aL_sL, aL_wI, fR_sI, fR_sL, fR_wI, fR_wL, aN_sI, aN_sL, aN_wI, aN_wL, ne_eq, Nat.reduceEqDiff, not_false_eq_true]; rw [aa.2]⟩⟩
    have hE := a10.eq q
    have aq := q.r 38 (by decide) (by decide)
    refine ⟨hE.1, hE.2.1, fun u hu => ?_⟩
    obtain ⟨c1, c2, c3⟩ := hE.2.2 u hu
    refine ⟨c1, c2, ?_⟩
    rcases c3 with c3 | ⟨c4, c5, k0, c6, c7⟩
    · exact Or.inl c3
    · refine Or.inr ⟨c4, c5, ?_⟩
      by_cases ek : k0 = D - 1
      · by_cases ef : Y (D - 1) = X (D - 1) + 1
        · have g5 := ((a7 (D - 1) (by omega)).2.2.2 hk1).2.2.2.2.1 hk
          rcases g5.2.2.2.2 with ⟨_, _, _, g⟩ | ⟨g, _⟩
          · exact ⟨D - 1 - 1, by omega, by rw [← g, ← ek]; exact c7⟩
          · exact absurd ef g
        · have := hp ef
          rw [← ek, ← c7] at this
          obtain ⟨tp, _, t2⟩ := c4
          rw [aq, this] at t2
          exact absurd t2.symm (nI_ne_neg (by have := sc.2.2.1.2.2.2.1; omega))
      · exact ⟨k0, by omega, c7⟩
theorem rpf_cl (h : CPf S S0 A B n N nd bh par ks lv D m st E V M t ln lp X Y C H F VF TB) (rp : RPf S Sr S0 R0 A B n sy N bh ks g ow D E V M X Y C H F) (hD : 2 ≤ D) (hk : ks (X (D - 1)) = 7) (ve : VEc S SB F (D - 1) fe le l q) (vr : VEr Sr SrB A (D - 1) fe le l q (0 < cp (pk ks 3) X (D - 2))) :
    RPf (clC SB A D (cp (pk ks 7) X (D - 1)) (VF (D - 2)) fe l q) (sI (clR SrB A (cp (pk ks 7) X (D - 1)) (VF (D - 2)) fe l (aI SrB 93 (A 93) (D - 1))) 188 (A 9) (nI (D - 1))) S0 R0 A B n sy N bh ks g ow (D - 1) E V M X Y C H F := by
  obtain ⟨a1, a2, ⟨a3, a4⟩, a5, a6, a7, a8, a9, a10⟩ := h
  obtain ⟨r1, r2, r3, r4⟩ := rp
  have d201 := a4.2.2.2
  have hk1 : 1 ≤ D - 1 := by omega
  have e2 : D - 1 - 1 = D - 2 := by omega
  have hne : ∀ i, i < D - 1 → F i ≠ F (D - 1) := fun i hi => a4.ne (by omega) (by omega) (by omega)
  have jj := fun j hj => ve.j (j := j) hj
  have aa := ve.a
  have kj := vr.j
  have ka := fun r hr => vr.a (r := r) hr
  have hpn : pn S0 A ks (X (D - 1)) = false := by unfold pn; rw [decide_eq_false_iff_not]; omega
  refine ⟨((((((vr.k r1).sI rfl).sI rfl).sL rfl).sI rfl).sL rfl).sI rfl, ?_, fun i hi => ?_, r4.eq ⟨?_, ?_, fun r r1 r2 => ⟨?_, ?_⟩⟩ ⟨?_, fun r r1 r2 => ⟨?_, ?_⟩⟩ ⟨⟨?_, ?_, ?_⟩, fun r r1 r2 => ⟨?_, ?_⟩⟩⟩
  · obtain ⟨b102, b188, b154, b155, b156, b157, b158, b159, b160, b161, b162, b163, b164, b166, b165, b169⟩ := r2
    rw [cp_po hk1, e2, hpn, if_neg (by decide), Nat.add_zero] at b169
    unfold RpS clC clR
    simp only [fI_s, fI_sn, fL_s, fL_sn, aI_w, aI_wn, aL_w, aL_wn, fI_sL, fI_wI, fI_wL, fL_sI, fL_wI, fL_wL, aI_sI, aI_sL, aI_wL, aL_sI, aL_sL, aL_wI, fR_sI, fR_sL, fR_wI, fR_wL, aN_sI, aN_sL, aN_wI, aN_wL, ne_eq, Nat.reduceEqDiff, not_false_eq_true]
    rw [e2, kj.1, kj.2, (jj 26 (by omega)).1, (jj 31 (by omega)).1, (jj 32 (by omega)).1, (jj 33 (by omega)).2, (jj 34 (by omega)).2, (jj 35 (by omega)).1, (jj 36 (by omega)).1, (jj 37 (by omega)).1]
    exact ⟨b102, trivial, b154, trivial, trivial, trivial, fun z => vr.2.2.2.2.2 z, b159, b160, b161, b162, b163, b164, b166, trivial, b169⟩
  · refine (r3 i (by omega)).cg (a6 i (by omega)).hb (by have := (a6 (i - 1) (by omega)).hb; omega) (fun _ _ => rfl) rfl rfl rfl rfl (fun j j1 j2 _ => ⟨?_, ?_⟩) ?_ (fun r r1 r2 => ⟨?_, ?_⟩) (fun _ _ => ?_)
    · unfold clC
      rw [fI_sn _ _ _ _ _ (by omega), fI_sL, fI_sL, fI_sn _ _ _ _ _ (by omega), fI_sn _ _ _ _ _ (by omega), fI_sn _ _ _ _ _ (by omega)]; exact (ve.2.1 _ (hne i hi) j).1
    · unfold clC
      rw [fL_sI, fL_sn _ _ _ _ _ (by omega), fL_sn _ _ _ _ _ (by omega)]; exact (ve.2.1 _ (hne i hi) j).2
    · unfold clR; simp only [fI_s, fI_sn, fL_s, fL_sn, aI_w, aI_wn, aL_w, aL_wn, fI_sL, fI_wI, fI_wL, fL_sI, fL_wI, fL_wL, aI_sI, aI_sL, aI_wL, aL_sI, aL_sL, aL_wI, fR_sI, fR_sL, fR_wI, fR_wL, aN_sI, aN_sL, aN_wI, aN_wL, ne_eq, Nat.reduceEqDiff, not_false_eq_true]; rw [(ka 86 (by omega)).1]; exact (r3 i (by omega)).2.1
    · unfold clR; simp only [fI_s, fI_sn, fL_s, fL_sn, aI_w, aI_wn, aL_w, aL_wn, fI_sL, fI_wI, fI_wL, fL_sI, fL_wI, fL_wL, aI_sI, aI_sL, aI_wL, aL_sI, aL_sL, aL_wI, fR_sI, fR_sL, fR_wI, fR_wL, aN_sI, aN_sL, aN_wI, aN_wL, ne_eq, Nat.reduceEqDiff, not_false_eq_true]; exact (vr.2.1 r i (by omega)).1
    · unfold clR; simp only [fI_s, fI_sn, fL_s, fL_sn, aI_w, aI_wn, aL_w, aL_wn, fI_sL, fI_wI, fI_wL, fL_sI, fL_wI, fL_wL, aI_sI, aI_sL, aI_wL, aL_sI, aL_sL, aL_wI, fR_sI, fR_sL, fR_wI, fR_wL, aN_sI, aN_sL, aN_wI, aN_wL, ne_eq, Nat.reduceEqDiff, not_false_eq_true]; exact (vr.2.1 r i (by omega)).2
    · unfold clR; simp only [fI_s, fI_sn, fL_s, fL_sn, aI_w, aI_wn, aL_w, aL_wn, fI_sL, fI_wI, fI_wL, fL_sI, fL_wI, fL_wL, aI_sI, aI_sL, aI_wL, aL_sI, aL_sL, aL_wI, fR_sI, fR_sL, fR_wI, fR_wL, aN_sI, aN_sL, aN_wI, aN_wL, ne_eq, Nat.reduceEqDiff, not_false_eq_true]; rw [(ka 81 (by omega)).1, (ka 82 (by omega)).1]; exact ⟨rfl, rfl⟩
  · unfold clC; simp only [fI_s, fI_sn, fL_s, fL_sn, aI_w, aI_wn, aL_w, aL_wn, fI_sL, fI_wI, fI_wL, fL_sI, fL_wI, fL_wL, aI_sI, aI_sL, aI_wL, aL_sI, aL_sL, aL_wI, fR_sI, fR_sL, fR_wI, fR_wL, aN_sI, aN_sL, aN_wI, aN_wL, ne_eq, Nat.reduceEqDiff, not_false_eq_true]; rw [(jj 70 (by omega)).1]
  · unfold clC; simp only [fI_s, fI_sn, fL_s, fL_sn, aI_w, aI_wn, aL_w, aL_wn, fI_sL, fI_wI, fI_wL, fL_sI, fL_wI, fL_wL, aI_sI, aI_sL, aI_wL, aL_sI, aL_sL, aL_wI, fR_sI, fR_sL, fR_wI, fR_wL, aN_sI, aN_sL, aN_wI, aN_wL, ne_eq, Nat.reduceEqDiff, not_false_eq_true]; rw [(jj 79 (by omega)).1]
  · unfold clC; simp only [fI_s, fI_sn, fL_s, fL_sn, aI_w, aI_wn, aL_w, aL_wn, fI_sL, fI_wI, fI_wL, fL_sI, fL_wI, fL_wL, aI_sI, aI_sL, aI_wL, aL_sI, aL_sL, aL_wI, fR_sI, fR_sL, fR_wI, fR_wL, aN_sI, aN_sL, aN_wI, aN_wL, ne_eq, Nat.reduceEqDiff, not_false_eq_true]; rw [aa.1]
  · unfold clC; simp only [fI_s, fI_sn, fL_s, fL_sn, aI_w, aI_wn, aL_w, aL_wn, fI_sL, fI_wI, fI_wL, fL_sI, fL_wI, fL_wL, aI_sI, aI_sL, aI_wL, aL_sI, aL_sL, aL_wI, fR_sI, fR_sL, fR_wI, fR_wL, aN_sI, aN_sL, aN_wI, aN_wL, ne_eq, Nat.reduceEqDiff, not_false_eq_true]; rw [aa.2]
  · unfold clC; simp only [fI_s, fI_sn, fL_s, fL_sn, aI_w, aI_wn, aL_w, aL_wn, fI_sL, fI_wI, fI_wL, fL_sI, fL_wI, fL_wL, aI_sI, aI_sL, aI_wL, aL_sI, aL_sL, aL_wI, fR_sI, fR_sL, fR_wI, fR_wL, aN_sI, aN_sL, aN_wI, aN_wL, ne_eq, Nat.reduceEqDiff, not_false_eq_true]; rw [(jj 17 (by omega)).1]
  · unfold clC; simp only [fI_s, fI_sn, fL_s, fL_sn, aI_w, aI_wn, aL_w, aL_wn, fI_sL, fI_wI, fI_wL, fL_sI, fL_wI, fL_wL, aI_sI, aI_sL, aI_wL, aL_sI, aL_sL, aL_wI, fR_sI, fR_sL, fR_wI, fR_wL, aN_sI, aN_sL, aN_wI, aN_wL, ne_eq, Nat.reduceEqDiff, not_false_eq_true]; rw [aa.1]
  · unfold clC; simp only [fI_s, fI_sn, fL_s, fL_sn, aI_w, aI_wn, aL_w, aL_wn, fI_sL, fI_wI, fI_wL, fL_sI, fL_wI, fL_wL, aI_sI, aI_sL, aI_wL, aL_sI, aL_sL, aL_wI, fR_sI, fR_sL, fR_wI, fR_wL, aN_sI, aN_sL, aN_wI, aN_wL, ne_eq, Nat.reduceEqDiff, not_false_eq_true]; rw [aa.2]
  · unfold clR; simp only [fI_s, fI_sn, fL_s, fL_sn, aI_w, aI_wn, aL_w, aL_wn, fI_sL, fI_wI, fI_wL, fL_sI, fL_wI, fL_wL, aI_sI, aI_sL, aI_wL, aL_sI, aL_sL, aL_wI, fR_sI, fR_sL, fR_wI, fR_wL, aN_sI, aN_sL, aN_wI, aN_wL, ne_eq, Nat.reduceEqDiff, not_false_eq_true]; rw [kj.1]
  · unfold clR; simp only [fI_s, fI_sn, fL_s, fL_sn, aI_w, aI_wn, aL_w, aL_wn, fI_sL, fI_wI, fI_wL, fL_sI, fL_wI, fL_wL, aI_sI, aI_sL, aI_wL, aL_sI, aL_sL, aL_wI, fR_sI, fR_sL, fR_wI, fR_wL, aN_sI, aN_sL, aN_wI, aN_wL, ne_eq, Nat.reduceEqDiff, not_false_eq_true]; rw [kj.1]
  · unfold clR; simp only [fI_s, fI_sn, fL_s, fL_sn, aI_w, aI_wn, aL_w, aL_wn, fI_sL, fI_wI, fI_wL, fL_sI, fL_wI, fL_wL, aI_sI, aI_sL, aI_wL, aL_sI, aL_sL, aL_wI, fR_sI, fR_sL, fR_wI, fR_wL, aN_sI, aN_sL, aN_wI, aN_wL, ne_eq, Nat.reduceEqDiff, not_false_eq_true]; rw [kj.1]
  · unfold clR; simp only [fI_s, fI_sn, fL_s, fL_sn, aI_w, aI_wn, aL_w, aL_wn, fI_sL, fI_wI, fI_wL, fL_sI, fL_wI, fL_wL, aI_sI, aI_sL, aI_wL, aL_sI, aL_sL, aL_wI, fR_sI, fR_sL, fR_wI, fR_wL, aN_sI, aN_sL, aN_wI, aN_wL, ne_eq, Nat.reduceEqDiff, not_false_eq_true]; rw [(ka r (by omega)).1]
  · unfold clR; simp only [fI_s, fI_sn, fL_s, fL_sn, aI_w, aI_wn, aL_w, aL_wn, fI_sL, fI_wI, fI_wL, fL_sI, fL_wI, fL_wL, aI_sI, aI_sL, aI_wL, aL_sI, aL_sL, aL_wI, fR_sI, fR_sL, fR_wI, fR_wL, aN_sI, aN_sL, aN_wI, aN_wL, ne_eq, Nat.reduceEqDiff, not_false_eq_true]; rw [(ka r (by omega)).2]
end
