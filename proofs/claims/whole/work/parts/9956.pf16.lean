/-! Performing: ties and new events, of both. -/
section
variable {S S1 S2 S0 Sr Sr1 Sr2 R0 : PS} {A : Nat → Nat} {B : Nat → Int32} {n N nd pc : Nat} {bh par ks lv g ow : Nat → Nat}
variable {D m st E V M t ln sy x v tm k pl c : Nat} {lp : Int} {X Y C H F VF TB cs : Nat → Nat} {w : Int64} {td ld : Int32}
theorem s_append {Q : Int32 → PS → Prop} {p : Int32} (hl : PfL S A) (h79 : fI S 79 (A 7) = nI V) (hv : v < V) (hV : V ≤ 12) (h70 : fI S 70 (A 7) = nI E) (hE : E ≤ 300) (h27 : fI S 27 (A 3) = nI v) (h28 : fL S 28 (A 3) = lN tm) (htm : tm ≤ 3870720000) (hk : k ≤ 3870720000)
    (h1 : E < 300 → tm + k ≤ 3870720000 → ∀ S1, (∀ q, AddC S S1 A E v tm k w (if aI S 38 (A 38) v = -1 then 0 else 1) 0 q) → (∀ S0, Kws (PW A S0) S0 S → Kws (PW A S0) S0 S1) → Q 1 S1)
    (h0 : ¬ (E < 300 ∧ tm + k ≤ 3870720000) → Q 0 (sI (sI S 0 (A 0) 5) 1 (A 0) p)) : wp_X3_append (A 3) p w (lN k) S Q := by
  unfold wp_X3_append
  refine ⟨_, hl.2.2.2.1, ?_⟩
  intro K hK
  have no : ¬ (E < 300 ∧ tm + k ≤ 3870720000) → K S := by
    intro hn
    apply hK
    refine ⟨_, hl.2.1, ?_⟩
    exact s_tell (h0 hn)
  rw [h70, show (300 : Int32) = nI 300 from rfl]
  by_cases c1 : E < 300
  · rw [if_neg (nI_ge c1 (by omega)), h28, lN_add, show (3870720000 : Int64) = lN 3870720000 from rfl]
    by_cases c2 : tm + k ≤ 3870720000
    · rw [if_pos ((lN_leq (by omega) (by omega)).mpr c2)]
      refine ⟨_, hl.2.2.2.1, ?_⟩
      rw [h27]
      refine s_addEvent (k := k) (tm := tm) hl.2.2.2.2.2 h79 hv hV h70 c1 (fun S1 a s1 e1 e2 e3 kw => ?_)
      rintro _ rfl
      rw [e1, h28, lN_add]
      exact h1 c1 c2 _ a (fun S0 h => (kw S0 h).sL (PW.at rfl))
    · rw [if_neg (fun z => c2 ((lN_leq (by omega) (by omega)).mp z))]
      exact no (fun z => c2 z.2)
  · rw [if_pos (nI_le (by omega) (by omega))]
    exact no (fun z => c1 z.1)
theorem uq2 {α : Type} {f : Nat → α} {i : Nat} {a b : α} : uq (uq f i a) i b = uq f i b := by
  funext j
  by_cases h : j = i
  · rw [h, uq_at, uq_at]
  · rw [uq_ne h, uq_ne h, uq_ne h]
theorem AddC.tie (h : ∀ q, AddC S S1 A E v tm k w ld 0 q) : AddC S (wI (wI S1 32 (A 32) E 1) 38 (A 38) v (nI pl)) A E v tm k w ld 1 pl := by
  obtain ⟨a1, a2, a3, a4, a5, a6, a7, a8, a9, a10, a11, a12, a13, a14⟩ := h pl
  refine ⟨(a1.wI rfl).wI rfl, by simp only [fI_s, fI_sn, fL_s, fL_sn, aI_w, aI_wn, aL_w, aL_wn, fI_sL, fI_wI, fI_wL, fL_sI, fL_wI, fL_wL, aI_sI, aI_sL, aI_wL, aL_sI, aL_sL, aL_wI, fR_sI, fR_sL, fR_wI, fR_wL, aN_sI, aN_sL, aN_wI, aN_wL, ne_eq, Nat.reduceEqDiff, not_false_eq_true]; exact a2, by simp only [fI_s, fI_sn, fL_s, fL_sn, aI_w, aI_wn, aL_w, aL_wn, fI_sL, fI_wI, fI_wL, fL_sI, fL_wI, fL_wL, aI_sI, aI_sL, aI_wL, aL_sI, aL_sL, aL_wI, fR_sI, fR_sL, fR_wI, fR_wL, aN_sI, aN_sL, aN_wI, aN_wL, ne_eq, Nat.reduceEqDiff, not_false_eq_true]; exact a3, by simp only [fI_s, fI_sn, fL_s, fL_sn, aI_w, aI_wn, aL_w, aL_wn, fI_sL, fI_wI, fI_wL, fL_sI, fL_wI, fL_wL, aI_sI, aI_sL, aI_wL, aL_sI, aL_sL, aL_wI, fR_sI, fR_sL, fR_wI, fR_wL, aN_sI, aN_sL, aN_wI, aN_wL, ne_eq, Nat.reduceEqDiff, not_false_eq_true]; exact a4, by simp only [fI_s, fI_sn, fL_s, fL_sn, aI_w, aI_wn, aL_w, aL_wn, fI_sL, fI_wI, fI_wL, fL_sI, fL_wI, fL_wL, aI_sI, aI_sL, aI_wL, aL_sI, aL_sL, aL_wI, fR_sI, fR_sL, fR_wI, fR_wL, aN_sI, aN_sL, aN_wI, aN_wL, ne_eq, Nat.reduceEqDiff, not_false_eq_true]; exact a5, by simp only [fI_s, fI_sn, fL_s, fL_sn, aI_w, aI_wn, aL_w, aL_wn, fI_sL, fI_wI, fI_wL, fL_sI, fL_wI, fL_wL, aI_sI, aI_sL, aI_wL, aL_sI, aL_sL, aL_wI, fR_sI, fR_sL, fR_wI, fR_wL, aN_sI, aN_sL, aN_wI, aN_wL, ne_eq, Nat.reduceEqDiff, not_false_eq_true]; exact a6, ?_, by simp only [fI_s, fI_sn, fL_s, fL_sn, aI_w, aI_wn, aL_w, aL_wn, fI_sL, fI_wI, fI_wL, fL_sI, fL_wI, fL_wL, aI_sI, aI_sL, aI_wL, aL_sI, aL_sL, aL_wI, fR_sI, fR_sL, fR_wI, fR_wL, aN_sI, aN_sL, aN_wI, aN_wL, ne_eq, Nat.reduceEqDiff, not_false_eq_true]; exact a8, by simp only [fI_s, fI_sn, fL_s, fL_sn, aI_w, aI_wn, aL_w, aL_wn, fI_sL, fI_wI, fI_wL, fL_sI, fL_wI, fL_wL, aI_sI, aI_sL, aI_wL, aL_sI, aL_sL, aL_wI, fR_sI, fR_sL, fR_wI, fR_wL, aN_sI, aN_sL, aN_wI, aN_wL, ne_eq, Nat.reduceEqDiff, not_false_eq_true]; exact a9, by simp only [fI_s, fI_sn, fL_s, fL_sn, aI_w, aI_wn, aL_w, aL_wn, fI_sL, fI_wI, fI_wL, fL_sI, fL_wI, fL_wL, aI_sI, aI_sL, aI_wL, aL_sI, aL_sL, aL_wI, fR_sI, fR_sL, fR_wI, fR_wL, aN_sI, aN_sL, aN_wI, aN_wL, ne_eq, Nat.reduceEqDiff, not_false_eq_true]; exact a10, by simp only [fI_s, fI_sn, fL_s, fL_sn, aI_w, aI_wn, aL_w, aL_wn, fI_sL, fI_wI, fI_wL, fL_sI, fL_wI, fL_wL, aI_sI, aI_sL, aI_wL, aL_sI, aL_sL, aL_wI, fR_sI, fR_sL, fR_wI, fR_wL, aN_sI, aN_sL, aN_wI, aN_wL, ne_eq, Nat.reduceEqDiff, not_false_eq_true]; exact a11, ?_, by simp only [fI_s, fI_sn, fL_s, fL_sn, aI_w, aI_wn, aL_w, aL_wn, fI_sL, fI_wI, fI_wL, fL_sI, fL_wI, fL_wL, aI_sI, aI_sL, aI_wL, aL_sI, aL_sL, aL_wI, fR_sI, fR_sL, fR_wI, fR_wL, aN_sI, aN_sL, aN_wI, aN_wL, ne_eq, Nat.reduceEqDiff, not_false_eq_true]; exact a13, by simp only [fI_s, fI_sn, fL_s, fL_sn, aI_w, aI_wn, aL_w, aL_wn, fI_sL, fI_wI, fI_wL, fL_sI, fL_wI, fL_wL, aI_sI, aI_sL, aI_wL, aL_sI, aL_sL, aL_wI, fR_sI, fR_sL, fR_wI, fR_wL, aN_sI, aN_sL, aN_wI, aN_wL, ne_eq, Nat.reduceEqDiff, not_false_eq_true]; exact a14⟩
  · simp only [fI_s, fI_sn, fL_s, fL_sn, aI_w, aI_wn, aL_w, aL_wn, fI_sL, fI_wI, fI_wL, fL_sI, fL_wI, fL_wL, aI_sI, aI_sL, aI_wL, aL_sI, aL_sL, aL_wI, fR_sI, fR_sL, fR_wI, fR_wL, aN_sI, aN_sL, aN_wI, aN_wL, ne_eq, Nat.reduceEqDiff, not_false_eq_true]; rw [a7, uq2]
  · simp only [fI_s, fI_sn, fL_s, fL_sn, aI_w, aI_wn, aL_w, aL_wn, fI_sL, fI_wI, fI_wL, fL_sI, fL_wI, fL_wL, aI_sI, aI_sL, aI_wL, aL_sI, aL_sL, aL_wI, fR_sI, fR_sL, fR_wI, fR_wL, aN_sI, aN_sL, aN_wI, aN_wL, ne_eq, Nat.reduceEqDiff, not_false_eq_true]; rw [a12, uq2, if_neg (by decide)]
theorem s_tieLatest {Q : PS → Prop} {p : Int32} {e : Nat} (hl : LayS S A) (h79 : fI S 79 (A 7) = nI V) (hv : v < V) (hV : V ≤ 12) (h70 : fI S 70 (A 7) = nI E) (hE : E ≤ 300) (he : e < E) (h37 : aI S 37 (A 37) v = nI e) (hQ : Q (wI (wI S 32 (A 32) e 1) 38 (A 38) v p)) : wp_X8_tieLatest (A 7) (nI v) p S Q := by
  unfold wp_X8_tieLatest
  refine s_hasVoice h79 hv hV ?_
  intro K hK
  rw [if_neg (by decide)]
  refine ⟨_, hl.f81, by rw [hl.n37]; exact vp_in_nI (by omega) (by omega), ?_⟩
  rw [nI_clamp (by omega), h37]
  apply hK
  refine s_eholds h70 he hE ?_
  rw [if_neg (by decide)]
  refine ⟨_, hl.f75, by rw [hl.n32]; exact vp_in_nI (by omega) (by omega), ?_⟩
  rintro _ rfl
  refine ⟨_, hl.f82, by simp only [fI_s, fI_sn, fL_s, fL_sn, aI_w, aI_wn, aL_w, aL_wn, fI_sL, fI_wI, fI_wL, fL_sI, fL_wI, fL_wL, aI_sI, aI_sL, aI_wL, aL_sI, aL_sL, aL_wI, fR_sI, fR_sL, fR_wI, fR_wL, aN_sI, aN_sL, aN_wI, aN_wL, ne_eq, Nat.reduceEqDiff, not_false_eq_true]; rw [hl.n38]; exact vp_in_nI (by omega) (by omega), ?_⟩
  rintro _ rfl
  rw [nI_clamp (by omega), nar1]
  try rw [nI_clamp (show v < 2 ^ 31 by omega)]
  exact hQ
/-- an event more in performing -/
theorem CPf.add (h : CPf S S0 A B n N nd bh par ks lv D m st E V M t ln lp X Y C H F VF TB) (a : AddC S S1 A E (VF (D - 1)) t k w ld td pl) (kw : Kws (PW A S0) S0 S1) (hE : E < 300) (hk : 1 ≤ k) (ht : t + k ≤ 3870720000) (hw : Pch c cs w) (hld : ld = 0 ∨ ld = 1) (htd : td = 0 ∨ td = 1) (hc : td = 1 → w ≠ 0) (hpl : pl ≤ n) (hn : n ≤ 1500) : CPf S1 S0 A B n N nd bh par ks lv D m st (E + 1) V M (t + k) ln lp X Y C H F VF TB := by
  obtain ⟨a1, a2, ⟨a3, a4⟩, a5, a6, a7, ⟨v0, v1, v2⟩, a9, a10⟩ := h
  have kk := a.1
  have cI : ∀ j, j ≠ 70 → j ≠ 28 → fI S1 j = fI S j := fun j j1 j2 => (kk.2.1 j (by unfold jEc; rw [decide_eq_false_iff_not]; omega)).1
  have cL : ∀ j, j ≠ 70 → j ≠ 28 → fL S1 j = fL S j := fun j j1 j2 => (kk.2.1 j (by unfold jEc; rw [decide_eq_false_iff_not]; omega)).2
  refine ⟨kw, a2.st kk.1, ⟨a3, a4.st kk.1⟩, ?_, a6, fun i hi => ?_, ⟨v0, v1, fun i i1 i2 i3 => ⟨by have := (v2 i i1 i2 i3).1; omega, (v2 i i1 i2 i3).2⟩⟩, ?_, a10.add a hE (v1 _ (by omega)) hk ht hw hld htd hc hpl hn ⟨D - 1, by omega, rfl⟩⟩
  · unfold PfS
    rw [cI 24 (by decide) (by decide), cI 26 (by decide) (by decide), cI 27 (by decide) (by decide), cL 29 (by decide) (by decide), cI 30 (by decide) (by decide), cI 31 (by decide) (by decide), cI 32 (by decide) (by decide), cL 33 (by decide) (by decide), cL 34 (by decide) (by decide), cI 35 (by decide) (by decide), cI 36 (by decide) (by decide), cI 37 (by decide) (by decide), cI 38 (by decide) (by decide), cI 39 (by decide) (by decide)]
    obtain ⟨z1, z2, z3, z4, z5⟩ := a5
    exact ⟨z1, z2, z3, ⟨a.2.2.2.2.2.2.2.2.2.2.2.2.2, ht⟩, z5⟩
  · exact (a7 i hi).cg (Nat.le_refl st) (fun _ _ => rfl) rfl (fun _ _ => rfl) rfl (fun _ _ => rfl) rfl (by rw [cI 3 (by decide) (by decide)]; exact (a7 i hi).2.1) (fun j j1 j2 _ => ⟨by rw [cI j (by omega) (by omega)], by rw [cL j (by omega) (by omega)]⟩)
  · obtain ⟨b1, mt, mu, md, b2, b3, b4, b5, b6⟩ := a9.eq (EqM.of kk rfl (fun r r1 r2 => by unfold rEc; rw [decide_eq_false_iff_not]; omega))
    exact ⟨b1, mt, mu, md, b2, b3, b4, by omega, b6⟩
theorem RPf.add (h : CPf S S0 A B n N nd bh par ks lv D m st E V M t ln lp X Y C H F VF TB) (rp : RPf S Sr S0 R0 A B n sy N bh ks g ow D E V M X Y C H F) (a : AddC S S1 A E (VF (D - 1)) t k w ld td pl) (b : AddR Sr Sr1 A E (VF (D - 1)) t k c cs ld td pl) (hw : Pch c cs w) (hE : E < 300) (htd : td = 0 ∨ td = 1) (hpl : pl < 2 ^ 31) : RPf S1 Sr1 S0 R0 A B n sy N bh ks g ow D (E + 1) V M X Y C H F := by
  obtain ⟨a1, a2, ⟨a3, a4⟩, a5, a6, a7, ⟨v0, v1, v2⟩, a9, a10⟩ := h
  obtain ⟨b1, b2, b3, b4⟩ := rp
  have kk := a.1
  have kr := b.1
  have cI : ∀ j, j ≠ 70 → j ≠ 28 → fI S1 j = fI S j := fun j j1 j2 => (kk.2.1 j (by unfold jEc; rw [decide_eq_false_iff_not]; omega)).1
  have cL : ∀ j, j ≠ 70 → j ≠ 28 → fL S1 j = fL S j := fun j j1 j2 => (kk.2.1 j (by unfold jEc; rw [decide_eq_false_iff_not]; omega)).2
  have dI : ∀ j, j ≠ 146 → j ≠ 156 → fI Sr1 j = fI Sr j := fun j j1 j2 => (kr.2.1 j (by unfold jEr; rw [decide_eq_false_iff_not]; omega)).1
  have dL : ∀ j, j ≠ 146 → j ≠ 156 → fL Sr1 j = fL Sr j := fun j j1 j2 => (kr.2.1 j (by unfold jEr; rw [decide_eq_false_iff_not]; omega)).2
  have dA : ∀ r, 77 < r → aI Sr1 r = aI Sr r ∧ aL Sr1 r = aL Sr r := fun r hr => kr.2.2 r (by unfold rEr; rw [decide_eq_false_iff_not]; omega)
  refine ⟨Keep.tr b1 (kr.mono (fun j => by unfold jPf jEr; simp only [decide_eq_false_iff_not]; omega) (fun r => by unfold rPf rEr; simp only [decide_eq_false_iff_not]; omega)), ?_, fun i hi => ?_, b4.add a b hw hE (v1 _ (by omega)) htd hpl⟩
  · unfold RpS
    rw [cI 26 (by decide) (by decide), cI 27 (by decide) (by decide), cL 29 (by decide) (by decide), cI 30 (by decide) (by decide), cI 31 (by decide) (by decide), cI 32 (by decide) (by decide), cL 33 (by decide) (by decide), cL 34 (by decide) (by decide), cI 35 (by decide) (by decide), cI 36 (by decide) (by decide), cI 37 (by decide) (by decide), cI 38 (by decide) (by decide), dI 102 (by decide) (by decide), dI 188 (by decide) (by decide), dI 154 (by decide) (by decide), dI 155 (by decide) (by decide), dL 157 (by decide) (by decide), dI 158 (by decide) (by decide), dI 159 (by decide) (by decide), dI 160 (by decide) (by decide), dL 161 (by decide) (by decide), dL 162 (by decide) (by decide), dI 163 (by decide) (by decide), dI 164 (by decide) (by decide), dI 166 (by decide) (by decide), dI 165 (by decide) (by decide), dI 169 (by decide) (by decide)]
    obtain ⟨z1, z2, z3, z4, z5, z6⟩ := b2
    exact ⟨z1, z2, z3, z4, by rw [a.2.2.2.2.2.2.2.2.2.2.2.2.2, b.2.2.2.2.2.2.2.2.2.2.2.2.2.2.2], z6⟩
  · exact (b3 i hi).cg (a6 i hi).hb (by have := (a6 (i - 1) (by omega)).hb; omega) (fun _ _ => rfl) rfl rfl rfl rfl (fun j j1 j2 _ => ⟨by rw [cI j (by omega) (by omega)], by rw [cL j (by omega) (by omega)]⟩) (by rw [(dA 86 (by omega)).1]; exact (b3 i hi).2.1) (fun r r1 r2 => by rw [(dA r (by omega)).1, (dA r (by omega)).2]; exact ⟨rfl, rfl⟩) (fun _ _ => by rw [(dA 81 (by omega)).1, (dA 82 (by omega)).1]; exact ⟨rfl, rfl⟩)
/-- only the length and the last pitch at hand change -/
theorem CPf.mv {ln' : Nat} {lp' : Int} (h : CPf S S0 A B n N nd bh par ks lv D m st E V M t ln lp X Y C H F VF TB) (kk : Keep (fun j => decide (j = 29 ∨ j = 30)) rN S S1) (kw : Kws (PW A S0) S0 S1) (h29 : fL S1 29 (A 3) = lN ln' ∧ 1 ≤ ln' ∧ ln' ≤ 3870720000) (h30 : fI S1 30 (A 3) = iJ lp' ∧ lpb lp' st) : CPf S1 S0 A B n N nd bh par ks lv D m st E V M t ln' lp' X Y C H F VF TB := by
  obtain ⟨a1, a2, ⟨a3, a4⟩, a5, a6, a7, a8, a9, a10⟩ := h
  have cI : ∀ j, j ≠ 29 → j ≠ 30 → fI S1 j = fI S j := fun j j1 j2 => (kk.2.1 j (by simp only [decide_eq_false_iff_not]; omega)).1
  have cL : ∀ j, j ≠ 29 → j ≠ 30 → fL S1 j = fL S j := fun j j1 j2 => (kk.2.1 j (by simp only [decide_eq_false_iff_not]; omega)).2
  refine ⟨kw, a2.st kk.1, ⟨a3, a4.st kk.1⟩, ?_, a6, fun i hi => ?_, a8, a9.eq (EqM.of kk rfl (fun _ _ _ => rfl)), a10.eq (EqE.of kk rfl rfl (fun _ _ _ => rfl))⟩
  · unfold PfS
    rw [cI 24 (by decide) (by decide), cI 26 (by decide) (by decide), cI 27 (by decide) (by decide), cL 28 (by decide) (by decide), cI 31 (by decide) (by decide), cI 32 (by decide) (by decide), cL 33 (by decide) (by decide), cL 34 (by decide) (by decide), cI 35 (by decide) (by decide), cI 36 (by decide) (by decide), cI 37 (by decide) (by decide), cI 38 (by decide) (by decide), cI 39 (by decide) (by decide)]
    obtain ⟨z1, z2, z3, z4, z5, z6, z7⟩ := a5
    exact ⟨z1, z2, z3, z4, h29, h30, z7⟩
  · exact (a7 i hi).cg (Nat.le_refl st) (fun _ _ => rfl) rfl (fun _ _ => rfl) rfl (fun _ _ => rfl) rfl (by rw [cI 3 (by decide) (by decide)]; exact (a7 i hi).2.1) (fun j j1 j2 _ => ⟨by rw [cI j (by omega) (by omega)], by rw [cL j (by omega) (by omega)]⟩)
theorem RPf.mv (h : CPf S S0 A B n N nd bh par ks lv D m st E V M t ln lp X Y C H F VF TB) (rp : RPf S Sr S0 R0 A B n sy N bh ks g ow D E V M X Y C H F) (kk : Keep (fun j => decide (j = 29 ∨ j = 30)) rN S S1) (kr : Keep (fun j => decide (j = 157 ∨ j = 158)) (fun r => decide (83 ≤ r ∧ r ≤ 85)) Sr Sr1) (e7 : fL Sr1 157 (A 9) = fL S1 29 (A 3)) (e8 : 0 < cp (pk ks 3) X (D - 1) → fI Sr1 158 (A 9) = fI S1 30 (A 3)) : RPf S1 Sr1 S0 R0 A B n sy N bh ks g ow D E V M X Y C H F := by
  obtain ⟨a1, a2, ⟨a3, a4⟩, a5, a6, a7, a8, a9, a10⟩ := h
  obtain ⟨b1, b2, b3, b4⟩ := rp
  have cI : ∀ j, j ≠ 29 → j ≠ 30 → fI S1 j = fI S j := fun j j1 j2 => (kk.2.1 j (by simp only [decide_eq_false_iff_not]; omega)).1
  have cL : ∀ j, j ≠ 29 → j ≠ 30 → fL S1 j = fL S j := fun j j1 j2 => (kk.2.1 j (by simp only [decide_eq_false_iff_not]; omega)).2
  have dI : ∀ j, j ≠ 157 → j ≠ 158 → fI Sr1 j = fI Sr j := fun j j1 j2 => (kr.2.1 j (by simp only [decide_eq_false_iff_not]; omega)).1
  have dL : ∀ j, j ≠ 157 → j ≠ 158 → fL Sr1 j = fL Sr j := fun j j1 j2 => (kr.2.1 j (by simp only [decide_eq_false_iff_not]; omega)).2
  have dA : ∀ r, r < 83 ∨ 85 < r → aI Sr1 r = aI Sr r ∧ aL Sr1 r = aL Sr r := fun r hr => kr.2.2 r (by simp only [decide_eq_false_iff_not]; omega)
  refine ⟨Keep.tr b1 (kr.mono (fun j => by unfold jPf; simp only [decide_eq_false_iff_not]; omega) (fun r => by unfold rPf; simp only [decide_eq_false_iff_not]; omega)), ?_, fun i hi => ?_, b4.eq (EqE.of kk rfl rfl (fun _ _ _ => rfl)) (EqM.of kk rfl (fun _ _ _ => rfl)) (EqR.of kr rfl rfl rfl (fun r r1 r2 => by simp only [decide_eq_false_iff_not]; omega))⟩
  · unfold RpS
    rw [cI 26 (by decide) (by decide), cI 27 (by decide) (by decide), cL 28 (by decide) (by decide), cI 31 (by decide) (by decide), cI 32 (by decide) (by decide), cL 33 (by decide) (by decide), cL 34 (by decide) (by decide), cI 35 (by decide) (by decide), cI 36 (by decide) (by decide), cI 37 (by decide) (by decide), cI 38 (by decide) (by decide), dI 102 (by decide) (by decide), dI 188 (by decide) (by decide), dI 154 (by decide) (by decide), dI 155 (by decide) (by decide), dL 156 (by decide) (by decide), dI 159 (by decide) (by decide), dI 160 (by decide) (by decide), dL 161 (by decide) (by decide), dL 162 (by decide) (by decide), dI 163 (by decide) (by decide), dI 164 (by decide) (by decide), dI 166 (by decide) (by decide), dI 165 (by decide) (by decide), dI 169 (by decide) (by decide)]
    obtain ⟨z1, z2, z3, z4, z5, z6, z7, z8⟩ := b2
    exact ⟨z1, z2, z3, z4, z5, e7, e8, z8⟩
  · exact (b3 i hi).cg (a6 i hi).hb (by have := (a6 (i - 1) (by omega)).hb; omega) (fun _ _ => rfl) rfl rfl rfl rfl (fun j j1 j2 _ => ⟨by rw [cI j (by omega) (by omega)], by rw [cL j (by omega) (by omega)]⟩) (by rw [(dA 86 (by omega)).1]; exact (b3 i hi).2.1) (fun r r1 r2 => by rw [(dA r (by omega)).1, (dA r (by omega)).2]; exact ⟨rfl, rfl⟩) (fun _ _ => by rw [(dA 81 (by omega)).1, (dA 82 (by omega)).1]; exact ⟨rfl, rfl⟩)
end
