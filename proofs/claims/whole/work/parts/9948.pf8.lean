/-! Performing: the blocks begin, of both. -/
section
variable {S S1 S2 S0 Sr Sr1 Sr2 R0 : PS} {A : Nat → Nat} {B : Nat → Int32} {n N nd pc : Nat} {bh par ks lv g ow : Nat → Nat}
variable {D m st E V M t ln sy x : Nat} {lp : Int} {X Y C H F VF TB : Nat → Nat}
theorem hz_pos {x : Nat} (h : 1 ≤ x) : hz x = nI (x - 1) := by unfold hz; rw [if_neg (by omega)]
theorem FrC.blk {F1 : Nat → Nat} (h1 : 1 ≤ x) (e2 : fI S2 2 (F1 D) = nI (x - 1)) (e3 : fI S2 3 (F1 D) = nI x) (e4 : fI S2 4 (F1 D) = nI (bh x)) (hk : 3 ≤ ks x ∧ ks x ≤ 6) (hD : 1 ≤ D)
    (k3 : ks x = 3 → ∃ l : Int, fI S2 6 (F1 D) = iJ l ∧ lpb l st) (k4 : ks x = 4 → ∃ r, r ≤ 50 ∧ fI S2 5 (F1 D) = nI r) (k5 : ks x = 5 → fL S2 8 (F1 D) = lN (pf (wu S0 A ks) X (D - 1)) ∧ fL S2 9 (F1 D) = lN (pf (wd5 S0 A ks) X (D - 1))) :
    FrC S2 S0 A N bh ks st (uq X D x) (uq Y D x) (uq C D x) (uq H D (H (D - 1))) F1 (uq VF D (VF (D - 1))) (uq TB D t) D := by
  refine ⟨by rw [uq_at, hz_pos h1]; exact e2, by rw [uq_at]; exact e3, by rw [uq_at, bn_pos h1]; exact e4, fun _ => ?_⟩
  rw [uq_at, pf_uq (by omega), pf_uq (by omega), uq_at, uq_ne (by omega)]
  exact ⟨k3, k4, k5, fun z => by omega, fun z => by omega, fun _ => (uq_ne (by omega)).symm⟩
theorem KPf.a {r : Nat} (h : KPf R0 Sr) (hr : rPf r = false) : aI Sr r = aI R0 r := (h.2.2 r hr).1
theorem KPf.l {r : Nat} (h : KPf R0 Sr) (hr : rPf r = false) : aL Sr r = aL R0 r := (h.2.2 r hr).2
theorem Psh.ne {m1 : Nat} {F1 : Nat → Nat} {e0 c0 l0 : Int32} (p : Psh S S1 A D m m1 F F1 e0 c0 l0) {i : Nat} (h : i < D) : F i ≠ F1 D := by
  rw [← p.2.2.2.1 i h]
  have := p.2.2.1.2.2.2.1
  exact p.2.2.1.ne (by omega) (by omega) (by omega)
theorem Psh.w {m1 : Nat} {F1 : Nat → Nat} {e0 c0 l0 : Int32} (p : Psh S S1 A D m m1 F F1 e0 c0 l0) (k : Kws (PW A S0) S0 S) : PW A S0 (F1 D) ∨ F1 D ∉ pL S0 := by
  have := p.2.2.1.2.2.2.1
  exact PW.fr (k.1.tr p.1) (p.2.2.1.1 D (by omega)).2
theorem KPf.lay (h : KPf R0 Sr) (hl : LayM R0 A) : LayM Sr A := hl.st h.1

theorem k_lean {Q : Int32 → PS → Prop} (sc : StC S0 A B n pc N nd bh par ks lv) (h : CPf S S0 A B n N nd bh par ks lv D m st E V M t ln lp X Y C H F VF TB) (hx : Itm N par Y D x) (hk : ks x = 3)
    (hQ : ∀ S2 m1 F1, m1 = (if D < m then m else m + 1) → CPf S2 S0 A B n N nd bh par ks lv (D + 1) m1 st E V M t ln (if ks x = 3 then 28 else lp) (uq X D x) (uq Y D x) (uq C D x) (uq H D (H (D - 1))) F1 (uq VF D (VF (D - 1))) (uq TB D t) → GoB S0 A B n N nd bh par ks x S D E V M X Y C H F S2 (D + 1) E V M (uq X D x) (uq Y D x) (uq C D x) (uq H D (H (D - 1))) F1 → Q 1 S2) : wp_X3_begin (A 3) (nI (x - 1)) (kq D m) S Q := by
  have hx' := hx
  obtain ⟨x1, x2, x3⟩ := hx
  have h' := h
  obtain ⟨a1, a2, ⟨a3, a4⟩, a5, a6, a7, a8, a9, a10⟩ := h
  have hpg := sc.pg a1 a2
  have hA : Ad S A := sc.2.1.ext a1.1
  obtain ⟨R00, T0, wr0, sy0, g0, ow0, r0⟩ := sc.rsr
  obtain ⟨pl, pl1, pl2, ah⟩ := r0.hd x1 x2 (by omega)
  have hB : B pl = 76 := by
    obtain ⟨y1, _⟩ := ah
    rcases y1 with ⟨_, z, _⟩ | ⟨z, _⟩
    · omega
    · rcases z with ⟨q, z⟩ | ⟨q, z⟩ | ⟨q, z⟩ | ⟨q, z⟩
      all_goals first | exact q | omega
  obtain ⟨hD, fk⟩ := FrK.blk sc h' hx' (by omega)
  have hpn : ¬ pn S0 A ks x = true := by unfold pn; rw [decide_eq_true_iff]; omega
  have h17 := sc.2.2.2.1 x x1 x2
  have h24 := a5.1
  have ex : x - 1 + 1 = x := by omega
  unfold wp_X3_begin
  refine ⟨_, a2.1, s_kindOf hpg (by omega) pl2 pl1 ?_⟩
  rw [hB, if_neg (by decide), if_neg (by decide), if_pos rfl]
  refine ⟨kq D m, ⟨Nat.le_refl _, Nat.le_refl _⟩, ?_⟩
  unfold wp_X3_openBlock
  refine ⟨_, a2.1, s_kindOf hpg (by omega) pl2 pl1 ?_⟩
  intro K hK
  rw [hB]
  rw [if_neg (by decide)]
  apply hK
  refine ⟨_, a2.1, s_behind hpg (by omega) ?_⟩
  refine ⟨kq D m, ⟨Nat.le_refl _, Nat.le_refl _⟩, ?_⟩
  rw [h17, nI_1, ex]
  refine s_push hA a2 a4 h24 hD (fun S1 m1 F1 p => ⟨fun z => (by cases z), fun b hb => ?_⟩)
  injection hb with hb
  subst hb
  have hpg1 : Pg S1 S0 A B n N nd pc := sc.pg (p.2.2.2.2.2.1 S0 a1) p.2.1
  rw [hB]
  rw [if_pos rfl]
  rintro _ rfl _ rfl _ rfl
  generalize hS2 : sI (sI (sI S1 6 (F1 D) (fI S1 30 (A 3))) 30 (A 3) 28) 31 (A 3) (fI (sI (sI S1 6 (F1 D) (fI S1 30 (A 3))) 30 (A 3) 28) 31 (A 3) + 1) = S2
  have k2 : Keep jq rN S1 S2 := by rw [← hS2]; exact ((Keep.rf.sI rfl).sI rfl).sI rfl
  have w := p.w a1
  have kw : Kws (PW A S0) S0 S2 := by rw [← hS2]; exact (((p.2.2.2.2.2.1 S0 a1).sI w).sI (PW.at rfl)).sI (PW.at rfl)
  have hfr : ∀ i, i < D → ∀ j, 2 ≤ j → j ≤ 16 → fI S2 j (F i) = fI S1 j (F i) ∧ fL S2 j (F i) = fL S1 j (F i) := fun i hi j j1 j2 => by
    have hne := p.ne hi
    rw [← hS2]
    exact ⟨by rw [fI_sn _ _ _ _ _ (by omega), fI_sn _ _ _ _ _ (by omega), fI_sI, if_neg (fun z => hne z.2)], rfl⟩
  have c : CpS S S2 S0 A ks D x (H (D - 1)) := by
    rw [← hS2]
    exact ⟨by simp only [fI_s, fI_sn, fL_s, fL_sn, aI_w, aI_wn, aL_w, aL_wn, fI_sL, fI_wI, fI_wL, fL_sI, fL_wI, fL_wL, aI_sI, aI_sL, aI_wL, aL_sI, aL_sL, aL_wI, fR_sI, fR_sL, fR_wI, fR_wL, aN_sI, aN_sL, aN_wI, aN_wL, ne_eq, Nat.reduceEqDiff, not_false_eq_true]; exact p.2.2.2.2.2.2.1, by simp only [fI_s, fI_sn, fL_s, fL_sn, aI_w, aI_wn, aL_w, aL_wn, fI_sL, fI_wI, fI_wL, fL_sI, fL_wI, fL_wL, aI_sI, aI_sL, aI_wL, aL_sI, aL_sL, aL_wI, fR_sI, fR_sL, fR_wI, fR_wL, aN_sI, aN_sL, aN_wI, aN_wL, ne_eq, Nat.reduceEqDiff, not_false_eq_true, hk, reduceIte]; exact p.2.2.2.2.2.2.2.1 26 (by decide), by simp only [fI_s, fI_sn, fL_s, fL_sn, aI_w, aI_wn, aL_w, aL_wn, fI_sL, fI_wI, fI_wL, fL_sI, fL_wI, fL_wL, aI_sI, aI_sL, aI_wL, aL_sI, aL_sL, aL_wI, fR_sI, fR_sL, fR_wI, fR_wL, aN_sI, aN_sL, aN_wI, aN_wL, ne_eq, Nat.reduceEqDiff, not_false_eq_true, hk, reduceIte]; exact p.2.2.2.2.2.2.2.1 27 (by decide), by simp only [fI_s, fI_sn, fL_s, fL_sn, aI_w, aI_wn, aL_w, aL_wn, fI_sL, fI_wI, fI_wL, fL_sI, fL_wI, fL_wL, aI_sI, aI_sL, aI_wL, aL_sI, aL_sL, aL_wI, fR_sI, fR_sL, fR_wI, fR_wL, aN_sI, aN_sL, aN_wI, aN_wL, ne_eq, Nat.reduceEqDiff, not_false_eq_true, hk, reduceIte]; exact p.2.2.2.2.2.2.2.2.1 28, by simp only [fI_s, fI_sn, fL_s, fL_sn, aI_w, aI_wn, aL_w, aL_wn, fI_sL, fI_wI, fI_wL, fL_sI, fL_wI, fL_wL, aI_sI, aI_sL, aI_wL, aL_sI, aL_sL, aL_wI, fR_sI, fR_sL, fR_wI, fR_wL, aN_sI, aN_sL, aN_wI, aN_wL, ne_eq, Nat.reduceEqDiff, not_false_eq_true, hk, reduceIte]; exact p.2.2.2.2.2.2.2.2.1 29, by simp only [fI_s, fI_sn, fL_s, fL_sn, aI_w, aI_wn, aL_w, aL_wn, fI_sL, fI_wI, fI_wL, fL_sI, fL_wI, fL_wL, aI_sI, aI_sL, aI_wL, aL_sI, aL_sL, aL_wI, fR_sI, fR_sL, fR_wI, fR_wL, aN_sI, aN_sL, aN_wI, aN_wL, ne_eq, Nat.reduceEqDiff, not_false_eq_true, hk, reduceIte], by simp only [fI_s, fI_sn, fL_s, fL_sn, aI_w, aI_wn, aL_w, aL_wn, fI_sL, fI_wI, fI_wL, fL_sI, fL_wI, fL_wL, aI_sI, aI_sL, aI_wL, aL_sI, aL_sL, aL_wI, fR_sI, fR_sL, fR_wI, fR_wL, aN_sI, aN_sL, aN_wI, aN_wL, ne_eq, Nat.reduceEqDiff, not_false_eq_true, hk, reduceIte]; rw [p.2.2.2.2.2.2.2.1 31 (by decide)], by simp only [fI_s, fI_sn, fL_s, fL_sn, aI_w, aI_wn, aL_w, aL_wn, fI_sL, fI_wI, fI_wL, fL_sI, fL_wI, fL_wL, aI_sI, aI_sL, aI_wL, aL_sI, aL_sL, aL_wI, fR_sI, fR_sL, fR_wI, fR_wL, aN_sI, aN_sL, aN_wI, aN_wL, ne_eq, Nat.reduceEqDiff, not_false_eq_true, hk, reduceIte]; exact p.2.2.2.2.2.2.2.1 32 (by decide), by simp only [fI_s, fI_sn, fL_s, fL_sn, aI_w, aI_wn, aL_w, aL_wn, fI_sL, fI_wI, fI_wL, fL_sI, fL_wI, fL_wL, aI_sI, aI_sL, aI_wL, aL_sI, aL_sL, aL_wI, fR_sI, fR_sL, fR_wI, fR_wL, aN_sI, aN_sL, aN_wI, aN_wL, ne_eq, Nat.reduceEqDiff, not_false_eq_true, hk, reduceIte]; exact p.2.2.2.2.2.2.2.2.1 33, by simp only [fI_s, fI_sn, fL_s, fL_sn, aI_w, aI_wn, aL_w, aL_wn, fI_sL, fI_wI, fI_wL, fL_sI, fL_wI, fL_wL, aI_sI, aI_sL, aI_wL, aL_sI, aL_sL, aL_wI, fR_sI, fR_sL, fR_wI, fR_wL, aN_sI, aN_sL, aN_wI, aN_wL, ne_eq, Nat.reduceEqDiff, not_false_eq_true, hk, reduceIte]; exact p.2.2.2.2.2.2.2.2.1 34, by simp only [fI_s, fI_sn, fL_s, fL_sn, aI_w, aI_wn, aL_w, aL_wn, fI_sL, fI_wI, fI_wL, fL_sI, fL_wI, fL_wL, aI_sI, aI_sL, aI_wL, aL_sI, aL_sL, aL_wI, fR_sI, fR_sL, fR_wI, fR_wL, aN_sI, aN_sL, aN_wI, aN_wL, ne_eq, Nat.reduceEqDiff, not_false_eq_true, hk, reduceIte]; exact p.2.2.2.2.2.2.2.1 35 (by decide), by simp only [fI_s, fI_sn, fL_s, fL_sn, aI_w, aI_wn, aL_w, aL_wn, fI_sL, fI_wI, fI_wL, fL_sI, fL_wI, fL_wL, aI_sI, aI_sL, aI_wL, aL_sI, aL_sL, aL_wI, fR_sI, fR_sL, fR_wI, fR_wL, aN_sI, aN_sL, aN_wI, aN_wL, ne_eq, Nat.reduceEqDiff, not_false_eq_true, hk, reduceIte]; exact p.2.2.2.2.2.2.2.1 36 (by decide), by simp only [fI_s, fI_sn, fL_s, fL_sn, aI_w, aI_wn, aL_w, aL_wn, fI_sL, fI_wI, fI_wL, fL_sI, fL_wI, fL_wL, aI_sI, aI_sL, aI_wL, aL_sI, aL_sL, aL_wI, fR_sI, fR_sL, fR_wI, fR_wL, aN_sI, aN_sL, aN_wI, aN_wL, ne_eq, Nat.reduceEqDiff, not_false_eq_true, hk, reduceIte]; exact p.2.2.2.2.2.2.2.1 37 (by decide), by simp only [fI_s, fI_sn, fL_s, fL_sn, aI_w, aI_wn, aL_w, aL_wn, fI_sL, fI_wI, fI_wL, fL_sI, fL_wI, fL_wL, aI_sI, aI_sL, aI_wL, aL_sI, aL_sL, aL_wI, fR_sI, fR_sL, fR_wI, fR_wL, aN_sI, aN_sL, aN_wI, aN_wL, ne_eq, Nat.reduceEqDiff, not_false_eq_true, hk, reduceIte]; exact p.2.2.2.2.2.2.2.1 38 (by decide), by simp only [fI_s, fI_sn, fL_s, fL_sn, aI_w, aI_wn, aL_w, aL_wn, fI_sL, fI_wI, fI_wL, fL_sI, fL_wI, fL_wL, aI_sI, aI_sL, aI_wL, aL_sI, aL_sL, aL_wI, fR_sI, fR_sL, fR_wI, fR_wL, aN_sI, aN_sL, aN_wI, aN_wL, ne_eq, Nat.reduceEqDiff, not_false_eq_true, hk, reduceIte]; exact p.2.2.2.2.2.2.2.1 39 (by decide)⟩
  have fr : FrC S2 S0 A N bh ks st (uq X D x) (uq Y D x) (uq C D x) (uq H D (H (D - 1))) F1 (uq VF D (VF (D - 1))) (uq TB D t) D := by
    refine FrC.blk x1 (by rw [← hS2]; simp only [fI_s, fI_sn, fL_s, fL_sn, aI_w, aI_wn, aL_w, aL_wn, fI_sL, fI_wI, fI_wL, fL_sI, fL_wI, fL_wL, aI_sI, aI_sL, aI_wL, aL_sI, aL_sL, aL_wI, fR_sI, fR_sL, fR_wI, fR_wL, aN_sI, aN_sL, aN_wI, aN_wL, ne_eq, Nat.reduceEqDiff, not_false_eq_true]; exact p.2.2.2.2.2.2.2.2.2.1.1) (by rw [← hS2]; simp only [fI_s, fI_sn, fL_s, fL_sn, aI_w, aI_wn, aL_w, aL_wn, fI_sL, fI_wI, fI_wL, fL_sI, fL_wI, fL_wL, aI_sI, aI_sL, aI_wL, aL_sI, aL_sL, aL_wI, fR_sI, fR_sL, fR_wI, fR_wL, aN_sI, aN_sL, aN_wI, aN_wL, ne_eq, Nat.reduceEqDiff, not_false_eq_true]; exact p.2.2.2.2.2.2.2.2.2.1.2.1) (by rw [← hS2]; simp only [fI_s, fI_sn, fL_s, fL_sn, aI_w, aI_wn, aL_w, aL_wn, fI_sL, fI_wI, fI_wL, fL_sI, fL_wI, fL_wL, aI_sI, aI_sL, aI_wL, aL_sI, aL_sL, aL_wI, fR_sI, fR_sL, fR_wI, fR_wL, aN_sI, aN_sL, aN_wI, aN_wL, ne_eq, Nat.reduceEqDiff, not_false_eq_true]; exact p.2.2.2.2.2.2.2.2.2.1.2.2) (by omega) a3 (fun _ => ⟨lp, by rw [← hS2]; simp only [fI_s, fI_sn, fL_s, fL_sn, aI_w, aI_wn, aL_w, aL_wn, fI_sL, fI_wI, fI_wL, fL_sI, fL_wI, fL_wL, aI_sI, aI_sL, aI_wL, aL_sI, aL_sL, aL_wI, fR_sI, fR_sL, fR_wI, fR_wL, aN_sI, aN_sL, aN_wI, aN_wL, ne_eq, Nat.reduceEqDiff, not_false_eq_true]; rw [p.2.2.2.2.2.2.2.1 30 (by decide)]; exact a5.2.2.2.2.2.1.1, a5.2.2.2.2.2.1.2⟩) (fun z => by omega) (fun z => by omega)
  refine hQ S2 m1 F1 p.2.2.2.2.1 (h'.push p k2 kw hfr (a5.push a3 c (fun z => by omega) (fun z => by omega) (fun _ => rfl) (fun z => by omega)) fk fr) ?_
  intro R0 pc T wr sy g ow hr Sr rp Q2 hQ2
  have lm := rp.1.lay hr.1
  obtain ⟨at1, gx, owx⟩ := hr.at x1 x2
  obtain ⟨pl', pl1', pl2', ah'⟩ := hr.hd x1 x2 (by omega)
  have e46 : aI R0 46 (A 46) (g x) = nI (ow x) := by
    rcases ah'.1 with ⟨_, z, _⟩ | ⟨_, _, z⟩
    · omega
    · exact z
  have hb := (a6 (D - 1) (by omega)).hb
  unfold wp_X12_begin
  intro v1 hv1
  rw [rp.2.1.2.1] at hv1
  subst hv1
  refine ⟨_, lm.f105, by rw [lm.n42]; exact vp_in_nI gx (by omega), ?_⟩
  rw [nI_clamp (by omega), rp.1.a rfl, hr.sort x1 x2, hk]
  rw [if_neg (by decide), if_neg (by decide), if_neg (by decide), if_pos (by decide)]
  refine ⟨_, lm.f177, by rw [lm.n90]; exact vp_in_nI (by omega) (by omega), ?_⟩
  rw [nI_clamp (by omega)]
  rintro _ rfl _ rfl _ rfl
  generalize hSr1 : sI (sI (wI Sr 90 (A 90) D (fI Sr 158 (A 9))) 158 (A 9) 28) 159 (A 9) (fI (sI (wI Sr 90 (A 90) D (fI Sr 158 (A 9))) 158 (A 9) 28) 159 (A 9) + 1) = Sr1
  have st1 : St Sr1 = St Sr := by rw [← hSr1]; rfl
  have lm1 := lm.st st1
  have d1 : fI Sr1 188 (A 9) = nI D := by rw [← hSr1]; simp only [fI_s, fI_sn, fL_s, fL_sn, aI_w, aI_wn, aL_w, aL_wn, fI_sL, fI_wI, fI_wL, fL_sI, fL_wI, fL_wL, aI_sI, aI_sL, aI_wL, aL_sI, aL_sL, aL_wI, fR_sI, fR_sL, fR_wI, fR_wL, aN_sI, aN_sL, aN_wI, aN_wL, ne_eq, Nat.reduceEqDiff, not_false_eq_true]; exact rp.2.1.2.1
  refine ⟨_, lm1.f109, by rw [lm1.n46]; exact vp_in_nI gx (by omega), ?_⟩
  have q46 : aI Sr1 46 (A 46) (g x) = nI (ow x) := by rw [← hSr1]; simp only [fI_s, fI_sn, fL_s, fL_sn, aI_w, aI_wn, aL_w, aL_wn, fI_sL, fI_wI, fI_wL, fL_sI, fL_wI, fL_wL, aI_sI, aI_sL, aI_wL, aL_sI, aL_sL, aL_wI, fR_sI, fR_sL, fR_wI, fR_wL, aN_sI, aN_sL, aN_wI, aN_wL, ne_eq, Nat.reduceEqDiff, not_false_eq_true]; rw [rp.1.a rfl]; exact e46
  rw [q46]
  refine r_enter lm1 d1 (by omega) owx ?_
  have ss : RpS S2 (enS Sr1 A D (nI (g x)) (ow x) (hw S0 A ks X (H (D - 1)))) S0 A ks (D + 1) (uq X D x) := by
    refine rp.2.1.push a3 (R0 := R0) (gx := g x) c ?_ (fun _ => ⟨ah'.2.1, ah'.2.2.1⟩)
    rw [← hSr1]
    exact ⟨by unfold enS; simp only [fI_s, fI_sn, fL_s, fL_sn, aI_w, aI_wn, aL_w, aL_wn, fI_sL, fI_wI, fI_wL, fL_sI, fL_wI, fL_wL, aI_sI, aI_sL, aI_wL, aL_sI, aL_sL, aL_wI, fR_sI, fR_sL, fR_wI, fR_wL, aN_sI, aN_sL, aN_wI, aN_wL, ne_eq, Nat.reduceEqDiff, not_false_eq_true, hk, reduceIte], by unfold enS; simp only [fI_s, fI_sn, fL_s, fL_sn, aI_w, aI_wn, aL_w, aL_wn, fI_sL, fI_wI, fI_wL, fL_sI, fL_wI, fL_wL, aI_sI, aI_sL, aI_wL, aL_sI, aL_sL, aL_wI, fR_sI, fR_sL, fR_wI, fR_wL, aN_sI, aN_sL, aN_wI, aN_wL, ne_eq, Nat.reduceEqDiff, not_false_eq_true], by unfold enS; simp only [fI_s, fI_sn, fL_s, fL_sn, aI_w, aI_wn, aL_w, aL_wn, fI_sL, fI_wI, fI_wL, fL_sI, fL_wI, fL_wL, aI_sI, aI_sL, aI_wL, aL_sI, aL_sL, aL_wI, fR_sI, fR_sL, fR_wI, fR_wL, aN_sI, aN_sL, aN_wI, aN_wL, ne_eq, Nat.reduceEqDiff, not_false_eq_true, hk, reduceIte], by unfold enS; simp only [fI_s, fI_sn, fL_s, fL_sn, aI_w, aI_wn, aL_w, aL_wn, fI_sL, fI_wI, fI_wL, fL_sI, fL_wI, fL_wL, aI_sI, aI_sL, aI_wL, aL_sI, aL_sL, aL_wI, fR_sI, fR_sL, fR_wI, fR_wL, aN_sI, aN_sL, aN_wI, aN_wL, ne_eq, Nat.reduceEqDiff, not_false_eq_true, hk, reduceIte], by unfold enS; simp only [fI_s, fI_sn, fL_s, fL_sn, aI_w, aI_wn, aL_w, aL_wn, fI_sL, fI_wI, fI_wL, fL_sI, fL_wI, fL_wL, aI_sI, aI_sL, aI_wL, aL_sI, aL_sL, aL_wI, fR_sI, fR_sL, fR_wI, fR_wL, aN_sI, aN_sL, aN_wI, aN_wL, ne_eq, Nat.reduceEqDiff, not_false_eq_true, hk, reduceIte], by unfold enS; simp only [fI_s, fI_sn, fL_s, fL_sn, aI_w, aI_wn, aL_w, aL_wn, fI_sL, fI_wI, fI_wL, fL_sI, fL_wI, fL_wL, aI_sI, aI_sL, aI_wL, aL_sI, aL_sL, aL_wI, fR_sI, fR_sL, fR_wI, fR_wL, aN_sI, aN_sL, aN_wI, aN_wL, ne_eq, Nat.reduceEqDiff, not_false_eq_true, hk, reduceIte], by unfold enS; simp only [fI_s, fI_sn, fL_s, fL_sn, aI_w, aI_wn, aL_w, aL_wn, fI_sL, fI_wI, fI_wL, fL_sI, fL_wI, fL_wL, aI_sI, aI_sL, aI_wL, aL_sI, aL_sL, aL_wI, fR_sI, fR_sL, fR_wI, fR_wL, aN_sI, aN_sL, aN_wI, aN_wL, ne_eq, Nat.reduceEqDiff, not_false_eq_true, hk, reduceIte], by unfold enS; simp only [fI_s, fI_sn, fL_s, fL_sn, aI_w, aI_wn, aL_w, aL_wn, fI_sL, fI_wI, fI_wL, fL_sI, fL_wI, fL_wL, aI_sI, aI_sL, aI_wL, aL_sI, aL_sL, aL_wI, fR_sI, fR_sL, fR_wI, fR_wL, aN_sI, aN_sL, aN_wI, aN_wL, ne_eq, Nat.reduceEqDiff, not_false_eq_true, hk, reduceIte], by unfold enS; simp only [fI_s, fI_sn, fL_s, fL_sn, aI_w, aI_wn, aL_w, aL_wn, fI_sL, fI_wI, fI_wL, fL_sI, fL_wI, fL_wL, aI_sI, aI_sL, aI_wL, aL_sI, aL_sL, aL_wI, fR_sI, fR_sL, fR_wI, fR_wL, aN_sI, aN_sL, aN_wI, aN_wL, ne_eq, Nat.reduceEqDiff, not_false_eq_true, hk, reduceIte], by unfold enS; simp only [fI_s, fI_sn, fL_s, fL_sn, aI_w, aI_wn, aL_w, aL_wn, fI_sL, fI_wI, fI_wL, fL_sI, fL_wI, fL_wL, aI_sI, aI_sL, aI_wL, aL_sI, aL_sL, aL_wI, fR_sI, fR_sL, fR_wI, fR_wL, aN_sI, aN_sL, aN_wI, aN_wL, ne_eq, Nat.reduceEqDiff, not_false_eq_true, hk, reduceIte], by unfold enS; simp only [fI_s, fI_sn, fL_s, fL_sn, aI_w, aI_wn, aL_w, aL_wn, fI_sL, fI_wI, fI_wL, fL_sI, fL_wI, fL_wL, aI_sI, aI_sL, aI_wL, aL_sI, aL_sL, aL_wI, fR_sI, fR_sL, fR_wI, fR_wL, aN_sI, aN_sL, aN_wI, aN_wL, ne_eq, Nat.reduceEqDiff, not_false_eq_true, hk, reduceIte], by unfold enS; simp only [fI_s, fI_sn, fL_s, fL_sn, aI_w, aI_wn, aL_w, aL_wn, fI_sL, fI_wI, fI_wL, fL_sI, fL_wI, fL_wL, aI_sI, aI_sL, aI_wL, aL_sI, aL_sL, aL_wI, fR_sI, fR_sL, fR_wI, fR_wL, aN_sI, aN_sL, aN_wI, aN_wL, ne_eq, Nat.reduceEqDiff, not_false_eq_true, hk, reduceIte], by unfold enS; simp only [fI_s, fI_sn, fL_s, fL_sn, aI_w, aI_wn, aL_w, aL_wn, fI_sL, fI_wI, fI_wL, fL_sI, fL_wI, fL_wL, aI_sI, aI_sL, aI_wL, aL_sI, aL_sL, aL_wI, fR_sI, fR_sL, fR_wI, fR_wL, aN_sI, aN_sL, aN_wI, aN_wL, ne_eq, Nat.reduceEqDiff, not_false_eq_true, hk, reduceIte], by unfold enS; simp only [fI_s, fI_sn, fL_s, fL_sn, aI_w, aI_wn, aL_w, aL_wn, fI_sL, fI_wI, fI_wL, fL_sI, fL_wI, fL_wL, aI_sI, aI_sL, aI_wL, aL_sI, aL_sL, aL_wI, fR_sI, fR_sL, fR_wI, fR_wL, aN_sI, aN_sL, aN_wI, aN_wL, ne_eq, Nat.reduceEqDiff, not_false_eq_true, hk, reduceIte], by unfold enS; simp only [fI_s, fI_sn, fL_s, fL_sn, aI_w, aI_wn, aL_w, aL_wn, fI_sL, fI_wI, fI_wL, fL_sI, fL_wI, fL_wL, aI_sI, aI_sL, aI_wL, aL_sI, aL_sL, aL_wI, fR_sI, fR_sL, fR_wI, fR_wL, aN_sI, aN_sL, aN_wI, aN_wL, ne_eq, Nat.reduceEqDiff, not_false_eq_true, hk, reduceIte], by unfold enS; simp only [fI_s, fI_sn, fL_s, fL_sn, aI_w, aI_wn, aL_w, aL_wn, fI_sL, fI_wI, fI_wL, fL_sI, fL_wI, fL_wL, aI_sI, aI_sL, aI_wL, aL_sI, aL_sL, aL_wI, fR_sI, fR_sL, fR_wI, fR_wL, aN_sI, aN_sL, aN_wI, aN_wL, ne_eq, Nat.reduceEqDiff, not_false_eq_true]; rw [rp.2.1.2.2.2.2.2.2.2.2.2.2.2.2.2.2.2, if_neg hpn]; rfl⟩
  have kr : KPf R0 Sr1 := by rw [← hSr1]; exact ((rp.1.wI rfl).sI rfl).sI rfl
  refine hQ2 _ (rp.push h' p k2 hfr kr.en ss ?_ (fun k hk r r1 r2 => ?_) (fun i hi => ?_) (RpF.blk hr hx' a3 (by omega) kr (by rw [kr.a rfl]) (fun _ => ⟨fun _ z => by (rw [← hSr1, ← hS2]; simp only [fI_s, fI_sn, fL_s, fL_sn, aI_w, aI_wn, aL_w, aL_wn, fI_sL, fI_wI, fI_wL, fL_sI, fL_wI, fL_wL, aI_sI, aI_sL, aI_wL, aL_sI, aL_sL, aL_wI, fR_sI, fR_sL, fR_wI, fR_wL, aN_sI, aN_sL, aN_wI, aN_wL, ne_eq, Nat.reduceEqDiff, not_false_eq_true]; rw [uq_at, p.2.2.2.2.2.2.2.1 30 (by decide)]; exact rp.2.1.2.2.2.2.2.2.1 z), fun z => by omega, fun z => by omega⟩) (by omega)))
  · rw [← hSr1]; unfold enS
    exact ⟨⟨by simp only [fI_s, fI_sn, fL_s, fL_sn, aI_w, aI_wn, aL_w, aL_wn, fI_sL, fI_wI, fI_wL, fL_sI, fL_wI, fL_wL, aI_sI, aI_sL, aI_wL, aL_sI, aL_sL, aL_wI, fR_sI, fR_sL, fR_wI, fR_wL, aN_sI, aN_sL, aN_wI, aN_wL, ne_eq, Nat.reduceEqDiff, not_false_eq_true], by simp only [fI_s, fI_sn, fL_s, fL_sn, aI_w, aI_wn, aL_w, aL_wn, fI_sL, fI_wI, fI_wL, fL_sI, fL_wI, fL_wL, aI_sI, aI_sL, aI_wL, aL_sI, aL_sL, aL_wI, fR_sI, fR_sL, fR_wI, fR_wL, aN_sI, aN_sL, aN_wI, aN_wL, ne_eq, Nat.reduceEqDiff, not_false_eq_true], by simp only [fI_s, fI_sn, fL_s, fL_sn, aI_w, aI_wn, aL_w, aL_wn, fI_sL, fI_wI, fI_wL, fL_sI, fL_wI, fL_wL, aI_sI, aI_sL, aI_wL, aL_sI, aL_sL, aL_wI, fR_sI, fR_sL, fR_wI, fR_wL, aN_sI, aN_sL, aN_wI, aN_wL, ne_eq, Nat.reduceEqDiff, not_false_eq_true]⟩, fun r r1 r2 => ⟨by (have : r ≠ 86 ∧ r ≠ 87 ∧ r ≠ 88 ∧ r ≠ 89 ∧ r ≠ 90 ∧ r ≠ 92 ∧ r ≠ 94 ∧ r ≠ 95 := by omega); simp only [fI_s, fI_sn, fL_s, fL_sn, aI_w, aI_wn, aL_w, aL_wn, fI_sL, fI_wI, fI_wL, fL_sI, fL_wI, fL_wL, aI_sI, aI_sL, aI_wL, aL_sI, aL_sL, aL_wI, fR_sI, fR_sL, fR_wI, fR_wL, aN_sI, aN_sL, aN_wI, aN_wL, ne_eq, Nat.reduceEqDiff, not_false_eq_true, aI_wn _ _ _ _ _ r this.1, aI_wn _ _ _ _ _ r this.2.1, aI_wn _ _ _ _ _ r this.2.2.1, aI_wn _ _ _ _ _ r this.2.2.2.1, aI_wn _ _ _ _ _ r this.2.2.2.2.1, aI_wn _ _ _ _ _ r this.2.2.2.2.2.1], by (have : r ≠ 94 ∧ r ≠ 95 := by omega); simp only [fI_s, fI_sn, fL_s, fL_sn, aI_w, aI_wn, aL_w, aL_wn, fI_sL, fI_wI, fI_wL, fL_sI, fL_wI, fL_wL, aI_sI, aI_sL, aI_wL, aL_sI, aL_sL, aL_wI, fR_sI, fR_sL, fR_wI, fR_wL, aN_sI, aN_sL, aN_wI, aN_wL, ne_eq, Nat.reduceEqDiff, not_false_eq_true, aL_wn _ _ _ _ _ r this.1, aL_wn _ _ _ _ _ r this.2]⟩⟩
  · rw [← hSr1]; unfold enS
    have hne : k ≠ D := by omega
    exact ⟨by simp only [fI_s, fI_sn, fL_s, fL_sn, aI_w, aI_wn, aL_w, aL_wn, fI_sL, fI_wI, fI_wL, fL_sI, fL_wI, fL_wL, aI_sI, aI_sL, aI_wL, aL_sI, aL_sL, aL_wI, fR_sI, fR_sL, fR_wI, fR_wL, aN_sI, aN_sL, aN_wI, aN_wL, ne_eq, Nat.reduceEqDiff, not_false_eq_true, aI_wI, hne, and_false, if_false], by simp only [fI_s, fI_sn, fL_s, fL_sn, aI_w, aI_wn, aL_w, aL_wn, fI_sL, fI_wI, fI_wL, fL_sI, fL_wI, fL_wL, aI_sI, aI_sL, aI_wL, aL_sI, aL_sL, aL_wI, fR_sI, fR_sL, fR_wI, fR_wL, aN_sI, aN_sL, aN_wI, aN_wL, ne_eq, Nat.reduceEqDiff, not_false_eq_true, aL_wL, hne, and_false, if_false]⟩
  · rw [← hSr1]; unfold enS
    exact ⟨by simp only [fI_s, fI_sn, fL_s, fL_sn, aI_w, aI_wn, aL_w, aL_wn, fI_sL, fI_wI, fI_wL, fL_sI, fL_wI, fL_wL, aI_sI, aI_sL, aI_wL, aL_sI, aL_sL, aL_wI, fR_sI, fR_sL, fR_wI, fR_wL, aN_sI, aN_sL, aN_wI, aN_wL, ne_eq, Nat.reduceEqDiff, not_false_eq_true], by simp only [fI_s, fI_sn, fL_s, fL_sn, aI_w, aI_wn, aL_w, aL_wn, fI_sL, fI_wI, fI_wL, fL_sI, fL_wI, fL_wL, aI_sI, aI_sL, aI_wL, aL_sI, aL_sL, aL_wI, fR_sI, fR_sL, fR_wI, fR_wL, aN_sI, aN_sL, aN_wI, aN_wL, ne_eq, Nat.reduceEqDiff, not_false_eq_true]⟩

theorem k_tuplet {Q : Int32 → PS → Prop} (sc : StC S0 A B n pc N nd bh par ks lv) (h : CPf S S0 A B n N nd bh par ks lv D m st E V M t ln lp X Y C H F VF TB) (hx : Itm N par Y D x) (hk : ks x = 5)
    (hQ : ∀ S2 m1 F1, m1 = (if D < m then m else m + 1) → CPf S2 S0 A B n N nd bh par ks lv (D + 1) m1 st E V M t ln (if ks x = 3 then 28 else lp) (uq X D x) (uq Y D x) (uq C D x) (uq H D (H (D - 1))) F1 (uq VF D (VF (D - 1))) (uq TB D t) → GoB S0 A B n N nd bh par ks x S D E V M X Y C H F S2 (D + 1) E V M (uq X D x) (uq Y D x) (uq C D x) (uq H D (H (D - 1))) F1 → Q 1 S2)
    (hF : cp (pk ks 5) X (D - 1) = 8 → ∀ pl S2, CBad S0 S2 A m F (5, pl) → GoF S0 A B n N nd bh par ks x S D E V M X Y C H F (5, pl) → Q 0 S2) : wp_X3_begin (A 3) (nI (x - 1)) (kq D m) S Q := by
  have hx' := hx
  obtain ⟨x1, x2, x3⟩ := hx
  have h' := h
  obtain ⟨a1, a2, ⟨a3, a4⟩, a5, a6, a7, a8, a9, a10⟩ := h
  have hpg := sc.pg a1 a2
  have hA : Ad S A := sc.2.1.ext a1.1
  obtain ⟨R00, T0, wr0, sy0, g0, ow0, r0⟩ := sc.rsr
  obtain ⟨pl, pl1, pl2, ah⟩ := r0.hd x1 x2 (by omega)
  have hB : B pl = 84 := by
    obtain ⟨y1, _⟩ := ah
    rcases y1 with ⟨_, z, _⟩ | ⟨z, _⟩
    · omega
    · rcases z with ⟨q, z⟩ | ⟨q, z⟩ | ⟨q, z⟩ | ⟨q, z⟩
      all_goals first | exact q | omega
  obtain ⟨hD, fk⟩ := FrK.blk sc h' hx' (by omega)
  have hpn : ¬ pn S0 A ks x = true := by unfold pn; rw [decide_eq_true_iff]; omega
  have h17 := sc.2.2.2.1 x x1 x2
  have h24 := a5.1
  have ex : x - 1 + 1 = x := by omega
  have b5 : ∃ a b, 1 ≤ a ∧ a ≤ 9 ∧ 1 ≤ b ∧ b ≤ 9 ∧ aI S0 18 (A 18) (x - 1) = nI a ∧ aI S0 19 (A 19) (x - 1) = nI b := ah.2.2.2.2.1 hB
  unfold wp_X3_begin
  refine ⟨_, a2.1, s_kindOf hpg (by omega) pl2 pl1 ?_⟩
  rw [hB, if_neg (by decide), if_neg (by decide), if_neg (by decide), if_neg (by decide), if_neg (by decide), if_pos rfl]
  refine ⟨kq D m, ⟨Nat.le_refl _, Nat.le_refl _⟩, ?_⟩
  unfold wp_X3_openBlock
  refine ⟨_, a2.1, s_kindOf hpg (by omega) pl2 pl1 ?_⟩
  intro K hK
  rw [hB]
  rw [if_pos rfl]
  have hT := a5.2.2.2.2.2.2.2.1
  by_cases t8' : cp (pk ks 5) X (D - 1) = 8
  · rw [hT.1, t8', if_neg (by decide)]
    refine s_ptell a2 hpg (by omega) ?_
    rw [pl2]
    refine hF t8' pl _ ⟨kdm (by decide) (by decide), kws_bad a1, a2.st rfl, ?_, by simp only [fI_s, fI_sn, fL_s, fL_sn, aI_w, aI_wn, aL_w, aL_wn, fI_sL, fI_wI, fI_wL, fL_sI, fL_wI, fL_wL, aI_sI, aI_sL, aI_wL, aL_sI, aL_sL, aL_wI, fR_sI, fR_sL, fR_wI, fR_wL, aN_sI, aN_sL, aN_wI, aN_wL, ne_eq, Nat.reduceEqDiff, not_false_eq_true]; rfl, by simp only [fI_s, fI_sn, fL_s, fL_sn, aI_w, aI_wn, aL_w, aL_wn, fI_sL, fI_wI, fI_wL, fL_sI, fL_wI, fL_wL, aI_sI, aI_sL, aI_wL, aL_sI, aL_sL, aL_wI, fR_sI, fR_sL, fR_wI, fR_wL, aN_sI, aN_sL, aN_wI, aN_wL, ne_eq, Nat.reduceEqDiff, not_false_eq_true]⟩ ?_
    · have := a4.st (S1 := sI (sI S 0 (A 0) 5) 1 (A 0) (nI pl)) rfl
      exact ⟨this.1, this.2.1, this.2.2.1, by omega, this.2.2.2.2⟩
    intro R0 pc T wr sy g ow hr Sr rp Q2 hQ2
    have lm := rp.1.lay hr.1
    obtain ⟨at1, gx, owx⟩ := hr.at x1 x2
    obtain ⟨q, q1, q2, q3, q4⟩ := hr.pl x1 x2 (by omega)
    have eq : q = pl := by
      have := q2.symm.trans pl2
      have := hr.2.1.2.2.2.1
      rwa [nI_eq (by omega) (by omega)] at *
    subst eq
    unfold wp_X12_begin
    intro v1 hv1
    refine ⟨_, lm.f105, by rw [lm.n42]; exact vp_in_nI gx (by omega), ?_⟩
    rw [nI_clamp (by omega), rp.1.a rfl, hr.sort x1 x2, hk, if_neg (by decide), if_neg (by decide), if_neg (by decide), if_neg (by decide), if_neg (by decide), if_pos (by decide)]
    unfold wp_X12_tuplet
    rw [rp.2.1.2.2.2.2.2.2.2.2.1, hT.1, t8', if_pos (by decide)]
    exact r_pbad lm gx rp.2.1.1 (by rw [rp.1.a rfl]; exact q3) (hQ2 _ ⟨(rp.1.sI rfl).sI rfl, by simp only [fI_s, fI_sn, fL_s, fL_sn, aI_w, aI_wn, aL_w, aL_wn, fI_sL, fI_wI, fI_wL, fL_sI, fL_wI, fL_wL, aI_sI, aI_sL, aI_wL, aL_sI, aL_sL, aL_wI, fR_sI, fR_sL, fR_wI, fR_wL, aN_sI, aN_sL, aN_wI, aN_wL, ne_eq, Nat.reduceEqDiff, not_false_eq_true]; rfl, by simp only [fI_s, fI_sn, fL_s, fL_sn, aI_w, aI_wn, aL_w, aL_wn, fI_sL, fI_wI, fI_wL, fL_sI, fL_wI, fL_wL, aI_sI, aI_sL, aI_wL, aL_sI, aL_sL, aL_wI, fR_sI, fR_sL, fR_wI, fR_wL, aN_sI, aN_sL, aN_wI, aN_wL, ne_eq, Nat.reduceEqDiff, not_false_eq_true]⟩)
  have t8 : cp (pk ks 5) X (D - 1) < 8 := by have := hT.2; omega
  rw [hT.1, show (8 : Int32) = nI 8 from rfl, if_pos (nI_lt t8 (by omega))]
  apply hK
  refine ⟨_, a2.1, s_behind hpg (by omega) ?_⟩
  refine ⟨kq D m, ⟨Nat.le_refl _, Nat.le_refl _⟩, ?_⟩
  rw [h17, nI_1, ex]
  refine s_push hA a2 a4 h24 hD (fun S1 m1 F1 p => ⟨fun z => (by cases z), fun b hb => ?_⟩)
  injection hb with hb
  subst hb
  have hpg1 : Pg S1 S0 A B n N nd pc := sc.pg (p.2.2.2.2.2.1 S0 a1) p.2.1
  rw [hB]
  rw [if_neg (by decide), if_pos rfl]
  rintro _ rfl _ rfl
  refine ⟨_, p.2.1.1, s_two (hpg1.keep ((Keep.rf (J := jq) (R := rN)).sL rfl |>.sL rfl) rfl rfl rfl rfl (fun _ _ _ => rfl)) (by omega) ?_⟩
  rintro _ rfl
  refine ⟨_, p.2.1.1, s_one (hpg1.keep ((Keep.rf (J := jq) (R := rN)).sL rfl |>.sL rfl |>.sL rfl) rfl rfl rfl rfl (fun _ _ _ => rfl)) (by omega) ?_⟩
  rintro _ rfl _ rfl
  simp only [fI_s, fI_sn, fL_s, fL_sn, aI_w, aI_wn, aL_w, aL_wn, fI_sL, fI_wI, fI_wL, fL_sI, fL_wI, fL_wL, aI_sI, aI_sL, aI_wL, aL_sI, aL_sL, aL_wI, fR_sI, fR_sL, fR_wI, fR_wL, aN_sI, aN_sL, aN_wI, aN_wL, ne_eq, Nat.reduceEqDiff, not_false_eq_true]
  generalize hS2 : sI (sL (sL (sL (sL S1 8 (F1 D) (fL S1 33 (A 3))) 9 (F1 D) (fL S1 34 (A 3))) 33 (A 3) (fL S1 33 (A 3) * (aI S0 19 (A 19) (x - 1)).toInt64)) 34 (A 3) (fL S1 34 (A 3) * (aI S0 18 (A 18) (x - 1)).toInt64)) 32 (A 3) (fI S1 32 (A 3) + 1) = S2
  have k2 : Keep jq rN S1 S2 := by rw [← hS2]; exact ((((Keep.rf.sL rfl).sL rfl).sL rfl).sL rfl).sI rfl
  have w := p.w a1
  have kw : Kws (PW A S0) S0 S2 := by rw [← hS2]; exact (((((p.2.2.2.2.2.1 S0 a1).sL w).sL w).sL (PW.at rfl)).sL (PW.at rfl)).sI (PW.at rfl)
  have hfr : ∀ i, i < D → ∀ j, 2 ≤ j → j ≤ 16 → fI S2 j (F i) = fI S1 j (F i) ∧ fL S2 j (F i) = fL S1 j (F i) := fun i hi j j1 j2 => by
    have hne := p.ne hi
    rw [← hS2]
    exact ⟨by rw [fI_sn _ _ _ _ _ (by omega)]; rfl, by rw [fL_sI, fL_sn _ _ _ _ _ (by omega), fL_sn _ _ _ _ _ (by omega), fL_sL, if_neg (fun z => hne z.2), fL_sL, if_neg (fun z => hne z.2)]⟩
  have c : CpS S S2 S0 A ks D x (H (D - 1)) := by
    rw [← hS2]
    exact ⟨by simp only [fI_s, fI_sn, fL_s, fL_sn, aI_w, aI_wn, aL_w, aL_wn, fI_sL, fI_wI, fI_wL, fL_sI, fL_wI, fL_wL, aI_sI, aI_sL, aI_wL, aL_sI, aL_sL, aL_wI, fR_sI, fR_sL, fR_wI, fR_wL, aN_sI, aN_sL, aN_wI, aN_wL, ne_eq, Nat.reduceEqDiff, not_false_eq_true]; exact p.2.2.2.2.2.2.1, by simp only [fI_s, fI_sn, fL_s, fL_sn, aI_w, aI_wn, aL_w, aL_wn, fI_sL, fI_wI, fI_wL, fL_sI, fL_wI, fL_wL, aI_sI, aI_sL, aI_wL, aL_sI, aL_sL, aL_wI, fR_sI, fR_sL, fR_wI, fR_wL, aN_sI, aN_sL, aN_wI, aN_wL, ne_eq, Nat.reduceEqDiff, not_false_eq_true, hk, reduceIte]; exact p.2.2.2.2.2.2.2.1 26 (by decide), by simp only [fI_s, fI_sn, fL_s, fL_sn, aI_w, aI_wn, aL_w, aL_wn, fI_sL, fI_wI, fI_wL, fL_sI, fL_wI, fL_wL, aI_sI, aI_sL, aI_wL, aL_sI, aL_sL, aL_wI, fR_sI, fR_sL, fR_wI, fR_wL, aN_sI, aN_sL, aN_wI, aN_wL, ne_eq, Nat.reduceEqDiff, not_false_eq_true, hk, reduceIte]; exact p.2.2.2.2.2.2.2.1 27 (by decide), by simp only [fI_s, fI_sn, fL_s, fL_sn, aI_w, aI_wn, aL_w, aL_wn, fI_sL, fI_wI, fI_wL, fL_sI, fL_wI, fL_wL, aI_sI, aI_sL, aI_wL, aL_sI, aL_sL, aL_wI, fR_sI, fR_sL, fR_wI, fR_wL, aN_sI, aN_sL, aN_wI, aN_wL, ne_eq, Nat.reduceEqDiff, not_false_eq_true, hk, reduceIte]; exact p.2.2.2.2.2.2.2.2.1 28, by simp only [fI_s, fI_sn, fL_s, fL_sn, aI_w, aI_wn, aL_w, aL_wn, fI_sL, fI_wI, fI_wL, fL_sI, fL_wI, fL_wL, aI_sI, aI_sL, aI_wL, aL_sI, aL_sL, aL_wI, fR_sI, fR_sL, fR_wI, fR_wL, aN_sI, aN_sL, aN_wI, aN_wL, ne_eq, Nat.reduceEqDiff, not_false_eq_true, hk, reduceIte]; exact p.2.2.2.2.2.2.2.2.1 29, by simp only [fI_s, fI_sn, fL_s, fL_sn, aI_w, aI_wn, aL_w, aL_wn, fI_sL, fI_wI, fI_wL, fL_sI, fL_wI, fL_wL, aI_sI, aI_sL, aI_wL, aL_sI, aL_sL, aL_wI, fR_sI, fR_sL, fR_wI, fR_wL, aN_sI, aN_sL, aN_wI, aN_wL, ne_eq, Nat.reduceEqDiff, not_false_eq_true, hk, reduceIte]; exact p.2.2.2.2.2.2.2.1 30 (by decide), by simp only [fI_s, fI_sn, fL_s, fL_sn, aI_w, aI_wn, aL_w, aL_wn, fI_sL, fI_wI, fI_wL, fL_sI, fL_wI, fL_wL, aI_sI, aI_sL, aI_wL, aL_sI, aL_sL, aL_wI, fR_sI, fR_sL, fR_wI, fR_wL, aN_sI, aN_sL, aN_wI, aN_wL, ne_eq, Nat.reduceEqDiff, not_false_eq_true, hk, reduceIte]; exact p.2.2.2.2.2.2.2.1 31 (by decide), by simp only [fI_s, fI_sn, fL_s, fL_sn, aI_w, aI_wn, aL_w, aL_wn, fI_sL, fI_wI, fI_wL, fL_sI, fL_wI, fL_wL, aI_sI, aI_sL, aI_wL, aL_sI, aL_sL, aL_wI, fR_sI, fR_sL, fR_wI, fR_wL, aN_sI, aN_sL, aN_wI, aN_wL, ne_eq, Nat.reduceEqDiff, not_false_eq_true, hk, reduceIte]; rw [p.2.2.2.2.2.2.2.1 32 (by decide)], by simp only [fI_s, fI_sn, fL_s, fL_sn, aI_w, aI_wn, aL_w, aL_wn, fI_sL, fI_wI, fI_wL, fL_sI, fL_wI, fL_wL, aI_sI, aI_sL, aI_wL, aL_sI, aL_sL, aL_wI, fR_sI, fR_sL, fR_wI, fR_wL, aN_sI, aN_sL, aN_wI, aN_wL, ne_eq, Nat.reduceEqDiff, not_false_eq_true, hk, reduceIte]; rw [p.2.2.2.2.2.2.2.2.1 33], by simp only [fI_s, fI_sn, fL_s, fL_sn, aI_w, aI_wn, aL_w, aL_wn, fI_sL, fI_wI, fI_wL, fL_sI, fL_wI, fL_wL, aI_sI, aI_sL, aI_wL, aL_sI, aL_sL, aL_wI, fR_sI, fR_sL, fR_wI, fR_wL, aN_sI, aN_sL, aN_wI, aN_wL, ne_eq, Nat.reduceEqDiff, not_false_eq_true, hk, reduceIte]; rw [p.2.2.2.2.2.2.2.2.1 34], by simp only [fI_s, fI_sn, fL_s, fL_sn, aI_w, aI_wn, aL_w, aL_wn, fI_sL, fI_wI, fI_wL, fL_sI, fL_wI, fL_wL, aI_sI, aI_sL, aI_wL, aL_sI, aL_sL, aL_wI, fR_sI, fR_sL, fR_wI, fR_wL, aN_sI, aN_sL, aN_wI, aN_wL, ne_eq, Nat.reduceEqDiff, not_false_eq_true, hk, reduceIte]; exact p.2.2.2.2.2.2.2.1 35 (by decide), by simp only [fI_s, fI_sn, fL_s, fL_sn, aI_w, aI_wn, aL_w, aL_wn, fI_sL, fI_wI, fI_wL, fL_sI, fL_wI, fL_wL, aI_sI, aI_sL, aI_wL, aL_sI, aL_sL, aL_wI, fR_sI, fR_sL, fR_wI, fR_wL, aN_sI, aN_sL, aN_wI, aN_wL, ne_eq, Nat.reduceEqDiff, not_false_eq_true, hk, reduceIte]; exact p.2.2.2.2.2.2.2.1 36 (by decide), by simp only [fI_s, fI_sn, fL_s, fL_sn, aI_w, aI_wn, aL_w, aL_wn, fI_sL, fI_wI, fI_wL, fL_sI, fL_wI, fL_wL, aI_sI, aI_sL, aI_wL, aL_sI, aL_sL, aL_wI, fR_sI, fR_sL, fR_wI, fR_wL, aN_sI, aN_sL, aN_wI, aN_wL, ne_eq, Nat.reduceEqDiff, not_false_eq_true, hk, reduceIte]; exact p.2.2.2.2.2.2.2.1 37 (by decide), by simp only [fI_s, fI_sn, fL_s, fL_sn, aI_w, aI_wn, aL_w, aL_wn, fI_sL, fI_wI, fI_wL, fL_sI, fL_wI, fL_wL, aI_sI, aI_sL, aI_wL, aL_sI, aL_sL, aL_wI, fR_sI, fR_sL, fR_wI, fR_wL, aN_sI, aN_sL, aN_wI, aN_wL, ne_eq, Nat.reduceEqDiff, not_false_eq_true, hk, reduceIte]; exact p.2.2.2.2.2.2.2.1 38 (by decide), by simp only [fI_s, fI_sn, fL_s, fL_sn, aI_w, aI_wn, aL_w, aL_wn, fI_sL, fI_wI, fI_wL, fL_sI, fL_wI, fL_wL, aI_sI, aI_sL, aI_wL, aL_sI, aL_sL, aL_wI, fR_sI, fR_sL, fR_wI, fR_wL, aN_sI, aN_sL, aN_wI, aN_wL, ne_eq, Nat.reduceEqDiff, not_false_eq_true, hk, reduceIte]; exact p.2.2.2.2.2.2.2.1 39 (by decide)⟩
  have fr : FrC S2 S0 A N bh ks st (uq X D x) (uq Y D x) (uq C D x) (uq H D (H (D - 1))) F1 (uq VF D (VF (D - 1))) (uq TB D t) D := by
    refine FrC.blk x1 (by rw [← hS2]; simp only [fI_s, fI_sn, fL_s, fL_sn, aI_w, aI_wn, aL_w, aL_wn, fI_sL, fI_wI, fI_wL, fL_sI, fL_wI, fL_wL, aI_sI, aI_sL, aI_wL, aL_sI, aL_sL, aL_wI, fR_sI, fR_sL, fR_wI, fR_wL, aN_sI, aN_sL, aN_wI, aN_wL, ne_eq, Nat.reduceEqDiff, not_false_eq_true]; exact p.2.2.2.2.2.2.2.2.2.1.1) (by rw [← hS2]; simp only [fI_s, fI_sn, fL_s, fL_sn, aI_w, aI_wn, aL_w, aL_wn, fI_sL, fI_wI, fI_wL, fL_sI, fL_wI, fL_wL, aI_sI, aI_sL, aI_wL, aL_sI, aL_sL, aL_wI, fR_sI, fR_sL, fR_wI, fR_wL, aN_sI, aN_sL, aN_wI, aN_wL, ne_eq, Nat.reduceEqDiff, not_false_eq_true]; exact p.2.2.2.2.2.2.2.2.2.1.2.1) (by rw [← hS2]; simp only [fI_s, fI_sn, fL_s, fL_sn, aI_w, aI_wn, aL_w, aL_wn, fI_sL, fI_wI, fI_wL, fL_sI, fL_wI, fL_wL, aI_sI, aI_sL, aI_wL, aL_sI, aL_sL, aL_wI, fR_sI, fR_sL, fR_wI, fR_wL, aN_sI, aN_sL, aN_wI, aN_wL, ne_eq, Nat.reduceEqDiff, not_false_eq_true]; exact p.2.2.2.2.2.2.2.2.2.1.2.2) (by omega) a3 (fun z => by omega) (fun z => by omega) (fun _ => ⟨by rw [← hS2]; simp only [fI_s, fI_sn, fL_s, fL_sn, aI_w, aI_wn, aL_w, aL_wn, fI_sL, fI_wI, fI_wL, fL_sI, fL_wI, fL_wL, aI_sI, aI_sL, aI_wL, aL_sI, aL_sL, aL_wI, fR_sI, fR_sL, fR_wI, fR_wL, aN_sI, aN_sL, aN_wI, aN_wL, ne_eq, Nat.reduceEqDiff, not_false_eq_true]; rw [p.2.2.2.2.2.2.2.2.1 33]; exact a5.2.2.2.2.2.2.2.2.1, by rw [← hS2]; simp only [fI_s, fI_sn, fL_s, fL_sn, aI_w, aI_wn, aL_w, aL_wn, fI_sL, fI_wI, fI_wL, fL_sI, fL_wI, fL_wL, aI_sI, aI_sL, aI_wL, aL_sI, aL_sL, aL_wI, fR_sI, fR_sL, fR_wI, fR_wL, aN_sI, aN_sL, aN_wI, aN_wL, ne_eq, Nat.reduceEqDiff, not_false_eq_true]; rw [p.2.2.2.2.2.2.2.2.1 34]; exact a5.2.2.2.2.2.2.2.2.2.1⟩)
  refine hQ S2 m1 F1 p.2.2.2.2.1 (h'.push p k2 kw hfr (a5.push a3 c (fun _ => t8) (fun z => by omega) (fun _ => rfl) (fun _ => b5)) fk fr) ?_
  intro R0 pc T wr sy g ow hr Sr rp Q2 hQ2
  have lm := rp.1.lay hr.1
  obtain ⟨at1, gx, owx⟩ := hr.at x1 x2
  obtain ⟨pl', pl1', pl2', ah'⟩ := hr.hd x1 x2 (by omega)
  have e46 : aI R0 46 (A 46) (g x) = nI (ow x) := by
    rcases ah'.1 with ⟨_, z, _⟩ | ⟨_, _, z⟩
    · omega
    · exact z
  have hb := (a6 (D - 1) (by omega)).hb
  unfold wp_X12_begin
  intro v1 hv1
  rw [rp.2.1.2.1] at hv1
  subst hv1
  refine ⟨_, lm.f105, by rw [lm.n42]; exact vp_in_nI gx (by omega), ?_⟩
  rw [nI_clamp (by omega), rp.1.a rfl, hr.sort x1 x2, hk]
  rw [if_neg (by decide), if_neg (by decide), if_neg (by decide), if_neg (by decide), if_neg (by decide), if_pos (by decide)]
  unfold wp_X12_tuplet
  have hT := a5.2.2.2.2.2.2.2.1
  rw [rp.2.1.2.2.2.2.2.2.2.2.1, hT.1, show (8 : Int32) = nI 8 from rfl, if_neg (fun z => by have := (nI_eq (by omega) (by omega)).mp z; omega), rp.2.1.2.1]
  refine ⟨_, lm.f181, by rw [lm.n94]; exact vp_in_nI (by omega) (by omega), ?_⟩
  rw [nI_clamp (by omega)]
  rintro _ rfl
  refine ⟨_, lm.f182, by simp only [fI_s, fI_sn, fL_s, fL_sn, aI_w, aI_wn, aL_w, aL_wn, fI_sL, fI_wI, fI_wL, fL_sI, fL_wI, fL_wL, aI_sI, aI_sL, aI_wL, aL_sI, aL_sL, aL_wI, fR_sI, fR_sL, fR_wI, fR_wL, aN_sI, aN_sL, aN_wI, aN_wL, ne_eq, Nat.reduceEqDiff, not_false_eq_true]; rw [rp.2.1.2.1, lm.n95]; exact vp_in_nI (by omega) (by omega), ?_⟩
  simp only [fI_s, fI_sn, fL_s, fL_sn, aI_w, aI_wn, aL_w, aL_wn, fI_sL, fI_wI, fI_wL, fL_sI, fL_wI, fL_wL, aI_sI, aI_sL, aI_wL, aL_sI, aL_sL, aL_wI, fR_sI, fR_sL, fR_wI, fR_wL, aN_sI, aN_sL, aN_wI, aN_wL, ne_eq, Nat.reduceEqDiff, not_false_eq_true]
  rw [rp.2.1.2.1, nI_clamp (by omega)]
  rintro _ rfl _ rfl
  refine ⟨_, lm.f108, by simp only [fI_s, fI_sn, fL_s, fL_sn, aI_w, aI_wn, aL_w, aL_wn, fI_sL, fI_wI, fI_wL, fL_sI, fL_wI, fL_wL, aI_sI, aI_sL, aI_wL, aL_sI, aL_sL, aL_wI, fR_sI, fR_sL, fR_wI, fR_wL, aN_sI, aN_sL, aN_wI, aN_wL, ne_eq, Nat.reduceEqDiff, not_false_eq_true]; rw [lm.n45]; exact vp_in_nI gx (by omega), ?_⟩
  rintro _ rfl
  refine ⟨_, lm.f107, by simp only [fI_s, fI_sn, fL_s, fL_sn, aI_w, aI_wn, aL_w, aL_wn, fI_sL, fI_wI, fI_wL, fL_sI, fL_wI, fL_wL, aI_sI, aI_sL, aI_wL, aL_sI, aL_sL, aL_wI, fR_sI, fR_sL, fR_wI, fR_wL, aN_sI, aN_sL, aN_wI, aN_wL, ne_eq, Nat.reduceEqDiff, not_false_eq_true]; rw [lm.n44]; exact vp_in_nI gx (by omega), ?_⟩
  rintro _ rfl
  simp only [fI_s, fI_sn, fL_s, fL_sn, aI_w, aI_wn, aL_w, aL_wn, fI_sL, fI_wI, fI_wL, fL_sI, fL_wI, fL_wL, aI_sI, aI_sL, aI_wL, aL_sI, aL_sL, aL_wI, fR_sI, fR_sL, fR_wI, fR_wL, aN_sI, aN_sL, aN_wI, aN_wL, ne_eq, Nat.reduceEqDiff, not_false_eq_true]
  rw [nI_clamp (by omega), rp.1.a (r := 45) rfl, rp.1.a (r := 44) rfl]
  generalize hSr1 : sL (sL (sI (wL (wL Sr 94 (A 94) D (fL Sr 161 (A 9))) 95 (A 95) D (fL Sr 162 (A 9))) 160 (A 9) (fI Sr 160 (A 9) + 1)) 161 (A 9) (fL Sr 161 (A 9) * (aI R0 45 (A 45) (g x)).toInt64)) 162 (A 9) (fL Sr 162 (A 9) * (aI R0 44 (A 44) (g x)).toInt64) = Sr1
  have st1 : St Sr1 = St Sr := by rw [← hSr1]; rfl
  have lm1 := lm.st st1
  have d1 : fI Sr1 188 (A 9) = nI D := by rw [← hSr1]; simp only [fI_s, fI_sn, fL_s, fL_sn, aI_w, aI_wn, aL_w, aL_wn, fI_sL, fI_wI, fI_wL, fL_sI, fL_wI, fL_wL, aI_sI, aI_sL, aI_wL, aL_sI, aL_sL, aL_wI, fR_sI, fR_sL, fR_wI, fR_wL, aN_sI, aN_sL, aN_wI, aN_wL, ne_eq, Nat.reduceEqDiff, not_false_eq_true]; exact rp.2.1.2.1
  refine ⟨_, lm.f109, by rw [lm.n46]; exact vp_in_nI gx (by omega), ?_⟩
  rw [rp.1.a (r := 46) rfl, e46]
  refine r_enter lm1 d1 (by omega) owx ?_
  have ss : RpS S2 (enS Sr1 A D (nI (g x)) (ow x) (hw S0 A ks X (H (D - 1)))) S0 A ks (D + 1) (uq X D x) := by
    refine rp.2.1.push a3 (R0 := R0) (gx := g x) c ?_ (fun _ => ⟨ah'.2.1, ah'.2.2.1⟩)
    rw [← hSr1]
    exact ⟨by unfold enS; simp only [fI_s, fI_sn, fL_s, fL_sn, aI_w, aI_wn, aL_w, aL_wn, fI_sL, fI_wI, fI_wL, fL_sI, fL_wI, fL_wL, aI_sI, aI_sL, aI_wL, aL_sI, aL_sL, aL_wI, fR_sI, fR_sL, fR_wI, fR_wL, aN_sI, aN_sL, aN_wI, aN_wL, ne_eq, Nat.reduceEqDiff, not_false_eq_true, hk, reduceIte], by unfold enS; simp only [fI_s, fI_sn, fL_s, fL_sn, aI_w, aI_wn, aL_w, aL_wn, fI_sL, fI_wI, fI_wL, fL_sI, fL_wI, fL_wL, aI_sI, aI_sL, aI_wL, aL_sI, aL_sL, aL_wI, fR_sI, fR_sL, fR_wI, fR_wL, aN_sI, aN_sL, aN_wI, aN_wL, ne_eq, Nat.reduceEqDiff, not_false_eq_true], by unfold enS; simp only [fI_s, fI_sn, fL_s, fL_sn, aI_w, aI_wn, aL_w, aL_wn, fI_sL, fI_wI, fI_wL, fL_sI, fL_wI, fL_wL, aI_sI, aI_sL, aI_wL, aL_sI, aL_sL, aL_wI, fR_sI, fR_sL, fR_wI, fR_wL, aN_sI, aN_sL, aN_wI, aN_wL, ne_eq, Nat.reduceEqDiff, not_false_eq_true, hk, reduceIte], by unfold enS; simp only [fI_s, fI_sn, fL_s, fL_sn, aI_w, aI_wn, aL_w, aL_wn, fI_sL, fI_wI, fI_wL, fL_sI, fL_wI, fL_wL, aI_sI, aI_sL, aI_wL, aL_sI, aL_sL, aL_wI, fR_sI, fR_sL, fR_wI, fR_wL, aN_sI, aN_sL, aN_wI, aN_wL, ne_eq, Nat.reduceEqDiff, not_false_eq_true, hk, reduceIte], by unfold enS; simp only [fI_s, fI_sn, fL_s, fL_sn, aI_w, aI_wn, aL_w, aL_wn, fI_sL, fI_wI, fI_wL, fL_sI, fL_wI, fL_wL, aI_sI, aI_sL, aI_wL, aL_sI, aL_sL, aL_wI, fR_sI, fR_sL, fR_wI, fR_wL, aN_sI, aN_sL, aN_wI, aN_wL, ne_eq, Nat.reduceEqDiff, not_false_eq_true, hk, reduceIte], by unfold enS; simp only [fI_s, fI_sn, fL_s, fL_sn, aI_w, aI_wn, aL_w, aL_wn, fI_sL, fI_wI, fI_wL, fL_sI, fL_wI, fL_wL, aI_sI, aI_sL, aI_wL, aL_sI, aL_sL, aL_wI, fR_sI, fR_sL, fR_wI, fR_wL, aN_sI, aN_sL, aN_wI, aN_wL, ne_eq, Nat.reduceEqDiff, not_false_eq_true, hk, reduceIte], by unfold enS; simp only [fI_s, fI_sn, fL_s, fL_sn, aI_w, aI_wn, aL_w, aL_wn, fI_sL, fI_wI, fI_wL, fL_sI, fL_wI, fL_wL, aI_sI, aI_sL, aI_wL, aL_sI, aL_sL, aL_wI, fR_sI, fR_sL, fR_wI, fR_wL, aN_sI, aN_sL, aN_wI, aN_wL, ne_eq, Nat.reduceEqDiff, not_false_eq_true, hk, reduceIte], by unfold enS; simp only [fI_s, fI_sn, fL_s, fL_sn, aI_w, aI_wn, aL_w, aL_wn, fI_sL, fI_wI, fI_wL, fL_sI, fL_wI, fL_wL, aI_sI, aI_sL, aI_wL, aL_sI, aL_sL, aL_wI, fR_sI, fR_sL, fR_wI, fR_wL, aN_sI, aN_sL, aN_wI, aN_wL, ne_eq, Nat.reduceEqDiff, not_false_eq_true, hk, reduceIte], by unfold enS; simp only [fI_s, fI_sn, fL_s, fL_sn, aI_w, aI_wn, aL_w, aL_wn, fI_sL, fI_wI, fI_wL, fL_sI, fL_wI, fL_wL, aI_sI, aI_sL, aI_wL, aL_sI, aL_sL, aL_wI, fR_sI, fR_sL, fR_wI, fR_wL, aN_sI, aN_sL, aN_wI, aN_wL, ne_eq, Nat.reduceEqDiff, not_false_eq_true, hk, reduceIte], by unfold enS; simp only [fI_s, fI_sn, fL_s, fL_sn, aI_w, aI_wn, aL_w, aL_wn, fI_sL, fI_wI, fI_wL, fL_sI, fL_wI, fL_wL, aI_sI, aI_sL, aI_wL, aL_sI, aL_sL, aL_wI, fR_sI, fR_sL, fR_wI, fR_wL, aN_sI, aN_sL, aN_wI, aN_wL, ne_eq, Nat.reduceEqDiff, not_false_eq_true, hk, reduceIte], by unfold enS; simp only [fI_s, fI_sn, fL_s, fL_sn, aI_w, aI_wn, aL_w, aL_wn, fI_sL, fI_wI, fI_wL, fL_sI, fL_wI, fL_wL, aI_sI, aI_sL, aI_wL, aL_sI, aL_sL, aL_wI, fR_sI, fR_sL, fR_wI, fR_wL, aN_sI, aN_sL, aN_wI, aN_wL, ne_eq, Nat.reduceEqDiff, not_false_eq_true, hk, reduceIte], by unfold enS; simp only [fI_s, fI_sn, fL_s, fL_sn, aI_w, aI_wn, aL_w, aL_wn, fI_sL, fI_wI, fI_wL, fL_sI, fL_wI, fL_wL, aI_sI, aI_sL, aI_wL, aL_sI, aL_sL, aL_wI, fR_sI, fR_sL, fR_wI, fR_wL, aN_sI, aN_sL, aN_wI, aN_wL, ne_eq, Nat.reduceEqDiff, not_false_eq_true, hk, reduceIte], by unfold enS; simp only [fI_s, fI_sn, fL_s, fL_sn, aI_w, aI_wn, aL_w, aL_wn, fI_sL, fI_wI, fI_wL, fL_sI, fL_wI, fL_wL, aI_sI, aI_sL, aI_wL, aL_sI, aL_sL, aL_wI, fR_sI, fR_sL, fR_wI, fR_wL, aN_sI, aN_sL, aN_wI, aN_wL, ne_eq, Nat.reduceEqDiff, not_false_eq_true, hk, reduceIte], by unfold enS; simp only [fI_s, fI_sn, fL_s, fL_sn, aI_w, aI_wn, aL_w, aL_wn, fI_sL, fI_wI, fI_wL, fL_sI, fL_wI, fL_wL, aI_sI, aI_sL, aI_wL, aL_sI, aL_sL, aL_wI, fR_sI, fR_sL, fR_wI, fR_wL, aN_sI, aN_sL, aN_wI, aN_wL, ne_eq, Nat.reduceEqDiff, not_false_eq_true, hk, reduceIte], by unfold enS; simp only [fI_s, fI_sn, fL_s, fL_sn, aI_w, aI_wn, aL_w, aL_wn, fI_sL, fI_wI, fI_wL, fL_sI, fL_wI, fL_wL, aI_sI, aI_sL, aI_wL, aL_sI, aL_sL, aL_wI, fR_sI, fR_sL, fR_wI, fR_wL, aN_sI, aN_sL, aN_wI, aN_wL, ne_eq, Nat.reduceEqDiff, not_false_eq_true, hk, reduceIte], by unfold enS; simp only [fI_s, fI_sn, fL_s, fL_sn, aI_w, aI_wn, aL_w, aL_wn, fI_sL, fI_wI, fI_wL, fL_sI, fL_wI, fL_wL, aI_sI, aI_sL, aI_wL, aL_sI, aL_sL, aL_wI, fR_sI, fR_sL, fR_wI, fR_wL, aN_sI, aN_sL, aN_wI, aN_wL, ne_eq, Nat.reduceEqDiff, not_false_eq_true]; rw [rp.2.1.2.2.2.2.2.2.2.2.2.2.2.2.2.2.2, if_neg hpn]; rfl⟩
  have kr : KPf R0 Sr1 := by rw [← hSr1]; exact ((((rp.1.wL rfl).wL rfl).sI rfl).sL rfl).sL rfl
  refine hQ2 _ (rp.push h' p k2 hfr kr.en ss ?_ (fun k hk r r1 r2 => ?_) (fun i hi => ?_) (RpF.blk hr hx' a3 (by omega) kr (by rw [kr.a rfl]) (fun _ => ⟨fun z => by omega, fun z => by omega, fun _ => by (rw [← hSr1, ← hS2]; simp only [fI_s, fI_sn, fL_s, fL_sn, aI_w, aI_wn, aL_w, aL_wn, fI_sL, fI_wI, fI_wL, fL_sI, fL_wI, fL_wL, aI_sI, aI_sL, aI_wL, aL_sI, aL_sL, aL_wI, fR_sI, fR_sL, fR_wI, fR_wL, aN_sI, aN_sL, aN_wI, aN_wL, ne_eq, Nat.reduceEqDiff, not_false_eq_true]; rw [uq_at, uq_at, p.2.2.2.2.2.2.2.2.1 33, p.2.2.2.2.2.2.2.2.1 34]; exact ⟨rp.2.1.2.2.2.2.2.2.2.2.2.1, rp.2.1.2.2.2.2.2.2.2.2.2.2.1⟩)⟩) (by omega)))
  · rw [← hSr1]; unfold enS
    exact ⟨⟨by simp only [fI_s, fI_sn, fL_s, fL_sn, aI_w, aI_wn, aL_w, aL_wn, fI_sL, fI_wI, fI_wL, fL_sI, fL_wI, fL_wL, aI_sI, aI_sL, aI_wL, aL_sI, aL_sL, aL_wI, fR_sI, fR_sL, fR_wI, fR_wL, aN_sI, aN_sL, aN_wI, aN_wL, ne_eq, Nat.reduceEqDiff, not_false_eq_true], by simp only [fI_s, fI_sn, fL_s, fL_sn, aI_w, aI_wn, aL_w, aL_wn, fI_sL, fI_wI, fI_wL, fL_sI, fL_wI, fL_wL, aI_sI, aI_sL, aI_wL, aL_sI, aL_sL, aL_wI, fR_sI, fR_sL, fR_wI, fR_wL, aN_sI, aN_sL, aN_wI, aN_wL, ne_eq, Nat.reduceEqDiff, not_false_eq_true], by simp only [fI_s, fI_sn, fL_s, fL_sn, aI_w, aI_wn, aL_w, aL_wn, fI_sL, fI_wI, fI_wL, fL_sI, fL_wI, fL_wL, aI_sI, aI_sL, aI_wL, aL_sI, aL_sL, aL_wI, fR_sI, fR_sL, fR_wI, fR_wL, aN_sI, aN_sL, aN_wI, aN_wL, ne_eq, Nat.reduceEqDiff, not_false_eq_true]⟩, fun r r1 r2 => ⟨by (have : r ≠ 86 ∧ r ≠ 87 ∧ r ≠ 88 ∧ r ≠ 89 ∧ r ≠ 90 ∧ r ≠ 92 ∧ r ≠ 94 ∧ r ≠ 95 := by omega); simp only [fI_s, fI_sn, fL_s, fL_sn, aI_w, aI_wn, aL_w, aL_wn, fI_sL, fI_wI, fI_wL, fL_sI, fL_wI, fL_wL, aI_sI, aI_sL, aI_wL, aL_sI, aL_sL, aL_wI, fR_sI, fR_sL, fR_wI, fR_wL, aN_sI, aN_sL, aN_wI, aN_wL, ne_eq, Nat.reduceEqDiff, not_false_eq_true, aI_wn _ _ _ _ _ r this.1, aI_wn _ _ _ _ _ r this.2.1, aI_wn _ _ _ _ _ r this.2.2.1, aI_wn _ _ _ _ _ r this.2.2.2.1, aI_wn _ _ _ _ _ r this.2.2.2.2.1, aI_wn _ _ _ _ _ r this.2.2.2.2.2.1], by (have : r ≠ 94 ∧ r ≠ 95 := by omega); simp only [fI_s, fI_sn, fL_s, fL_sn, aI_w, aI_wn, aL_w, aL_wn, fI_sL, fI_wI, fI_wL, fL_sI, fL_wI, fL_wL, aI_sI, aI_sL, aI_wL, aL_sI, aL_sL, aL_wI, fR_sI, fR_sL, fR_wI, fR_wL, aN_sI, aN_sL, aN_wI, aN_wL, ne_eq, Nat.reduceEqDiff, not_false_eq_true, aL_wn _ _ _ _ _ r this.1, aL_wn _ _ _ _ _ r this.2]⟩⟩
  · rw [← hSr1]; unfold enS
    have hne : k ≠ D := by omega
    exact ⟨by simp only [fI_s, fI_sn, fL_s, fL_sn, aI_w, aI_wn, aL_w, aL_wn, fI_sL, fI_wI, fI_wL, fL_sI, fL_wI, fL_wL, aI_sI, aI_sL, aI_wL, aL_sI, aL_sL, aL_wI, fR_sI, fR_sL, fR_wI, fR_wL, aN_sI, aN_sL, aN_wI, aN_wL, ne_eq, Nat.reduceEqDiff, not_false_eq_true, aI_wI, hne, and_false, if_false], by simp only [fI_s, fI_sn, fL_s, fL_sn, aI_w, aI_wn, aL_w, aL_wn, fI_sL, fI_wI, fI_wL, fL_sI, fL_wI, fL_wL, aI_sI, aI_sL, aI_wL, aL_sI, aL_sL, aL_wI, fR_sI, fR_sL, fR_wI, fR_wL, aN_sI, aN_sL, aN_wI, aN_wL, ne_eq, Nat.reduceEqDiff, not_false_eq_true, aL_wL, hne, and_false, if_false]⟩
  · rw [← hSr1]; unfold enS
    exact ⟨by simp only [fI_s, fI_sn, fL_s, fL_sn, aI_w, aI_wn, aL_w, aL_wn, fI_sL, fI_wI, fI_wL, fL_sI, fL_wI, fL_wL, aI_sI, aI_sL, aI_wL, aL_sI, aL_sL, aL_wI, fR_sI, fR_sL, fR_wI, fR_wL, aN_sI, aN_sL, aN_wI, aN_wL, ne_eq, Nat.reduceEqDiff, not_false_eq_true], by simp only [fI_s, fI_sn, fL_s, fL_sn, aI_w, aI_wn, aL_w, aL_wn, fI_sL, fI_wI, fI_wL, fL_sI, fL_wI, fL_wL, aI_sI, aI_sL, aI_wL, aL_sI, aL_sL, aL_wI, fR_sI, fR_sL, fR_wI, fR_wL, aN_sI, aN_sL, aN_wI, aN_wL, ne_eq, Nat.reduceEqDiff, not_false_eq_true]⟩

theorem k_move {Q : Int32 → PS → Prop} (sc : StC S0 A B n pc N nd bh par ks lv) (h : CPf S S0 A B n N nd bh par ks lv D m st E V M t ln lp X Y C H F VF TB) (hx : Itm N par Y D x) (hk : ks x = 6)
    (hQ : ∀ S2 m1 F1, m1 = (if D < m then m else m + 1) → CPf S2 S0 A B n N nd bh par ks lv (D + 1) m1 st E V M t ln (if ks x = 3 then 28 else lp) (uq X D x) (uq Y D x) (uq C D x) (uq H D (H (D - 1))) F1 (uq VF D (VF (D - 1))) (uq TB D t) → GoB S0 A B n N nd bh par ks x S D E V M X Y C H F S2 (D + 1) E V M (uq X D x) (uq Y D x) (uq C D x) (uq H D (H (D - 1))) F1 → Q 1 S2) : wp_X3_begin (A 3) (nI (x - 1)) (kq D m) S Q := by
  have hx' := hx
  obtain ⟨x1, x2, x3⟩ := hx
  have h' := h
  obtain ⟨a1, a2, ⟨a3, a4⟩, a5, a6, a7, a8, a9, a10⟩ := h
  have hpg := sc.pg a1 a2
  have hA : Ad S A := sc.2.1.ext a1.1
  obtain ⟨R00, T0, wr0, sy0, g0, ow0, r0⟩ := sc.rsr
  obtain ⟨pl, pl1, pl2, ah⟩ := r0.hd x1 x2 (by omega)
  have hB : B pl = 88 := by
    obtain ⟨y1, _⟩ := ah
    rcases y1 with ⟨_, z, _⟩ | ⟨z, _⟩
    · omega
    · rcases z with ⟨q, z⟩ | ⟨q, z⟩ | ⟨q, z⟩ | ⟨q, z⟩
      all_goals first | exact q | omega
  obtain ⟨hD, fk⟩ := FrK.blk sc h' hx' (by omega)
  have hpn : ¬ pn S0 A ks x = true := by unfold pn; rw [decide_eq_true_iff]; omega
  have h17 := sc.2.2.2.1 x x1 x2
  have h24 := a5.1
  have ex : x - 1 + 1 = x := by omega
  unfold wp_X3_begin
  refine ⟨_, a2.1, s_kindOf hpg (by omega) pl2 pl1 ?_⟩
  rw [hB, if_neg (by decide), if_neg (by decide), if_neg (by decide), if_neg (by decide), if_neg (by decide), if_neg (by decide), if_neg (by decide), if_pos rfl]
  refine ⟨kq D m, ⟨Nat.le_refl _, Nat.le_refl _⟩, ?_⟩
  unfold wp_X3_openBlock
  refine ⟨_, a2.1, s_kindOf hpg (by omega) pl2 pl1 ?_⟩
  intro K hK
  rw [hB]
  rw [if_neg (by decide)]
  apply hK
  refine ⟨_, a2.1, s_behind hpg (by omega) ?_⟩
  refine ⟨kq D m, ⟨Nat.le_refl _, Nat.le_refl _⟩, ?_⟩
  rw [h17, nI_1, ex]
  refine s_push hA a2 a4 h24 hD (fun S1 m1 F1 p => ⟨fun z => (by cases z), fun b hb => ?_⟩)
  injection hb with hb
  subst hb
  have hpg1 : Pg S1 S0 A B n N nd pc := sc.pg (p.2.2.2.2.2.1 S0 a1) p.2.1
  rw [hB]
  rw [if_neg (by decide), if_neg (by decide), if_pos rfl]
  refine ⟨_, p.2.1.1, s_one hpg1 (by omega) ?_⟩
  rintro _ rfl
  refine ⟨_, p.2.1.1, s_two (hpg1.keep ((Keep.rf (J := jq) (R := rN)).sI rfl) rfl rfl rfl rfl (fun _ _ _ => rfl)) (by omega) ?_⟩
  rintro _ rfl
  simp only [fI_s, fI_sn, fL_s, fL_sn, aI_w, aI_wn, aL_w, aL_wn, fI_sL, fI_wI, fI_wL, fL_sI, fL_wI, fL_wL, aI_sI, aI_sL, aI_wL, aL_sI, aL_sL, aL_wI, fR_sI, fR_sL, fR_wI, fR_wL, aN_sI, aN_sL, aN_wI, aN_wL, ne_eq, Nat.reduceEqDiff, not_false_eq_true]
  generalize hS2 : sI (sI S1 35 (A 3) (fI S1 35 (A 3) + aI S0 18 (A 18) (x - 1))) 36 (A 3) (fI S1 36 (A 3) + aI S0 19 (A 19) (x - 1)) = S2
  have k2 : Keep jq rN S1 S2 := by rw [← hS2]; exact (Keep.rf.sI rfl).sI rfl
  have w := p.w a1
  have kw : Kws (PW A S0) S0 S2 := by rw [← hS2]; exact ((p.2.2.2.2.2.1 S0 a1).sI (PW.at rfl)).sI (PW.at rfl)
  have hfr : ∀ i, i < D → ∀ j, 2 ≤ j → j ≤ 16 → fI S2 j (F i) = fI S1 j (F i) ∧ fL S2 j (F i) = fL S1 j (F i) := fun i hi j j1 j2 => by
    have hne := p.ne hi
    rw [← hS2]
    exact ⟨by rw [fI_sn _ _ _ _ _ (by omega), fI_sn _ _ _ _ _ (by omega)], rfl⟩
  have c : CpS S S2 S0 A ks D x (H (D - 1)) := by
    rw [← hS2]
    exact ⟨by simp only [fI_s, fI_sn, fL_s, fL_sn, aI_w, aI_wn, aL_w, aL_wn, fI_sL, fI_wI, fI_wL, fL_sI, fL_wI, fL_wL, aI_sI, aI_sL, aI_wL, aL_sI, aL_sL, aL_wI, fR_sI, fR_sL, fR_wI, fR_wL, aN_sI, aN_sL, aN_wI, aN_wL, ne_eq, Nat.reduceEqDiff, not_false_eq_true]; exact p.2.2.2.2.2.2.1, by simp only [fI_s, fI_sn, fL_s, fL_sn, aI_w, aI_wn, aL_w, aL_wn, fI_sL, fI_wI, fI_wL, fL_sI, fL_wI, fL_wL, aI_sI, aI_sL, aI_wL, aL_sI, aL_sL, aL_wI, fR_sI, fR_sL, fR_wI, fR_wL, aN_sI, aN_sL, aN_wI, aN_wL, ne_eq, Nat.reduceEqDiff, not_false_eq_true, hk, reduceIte]; exact p.2.2.2.2.2.2.2.1 26 (by decide), by simp only [fI_s, fI_sn, fL_s, fL_sn, aI_w, aI_wn, aL_w, aL_wn, fI_sL, fI_wI, fI_wL, fL_sI, fL_wI, fL_wL, aI_sI, aI_sL, aI_wL, aL_sI, aL_sL, aL_wI, fR_sI, fR_sL, fR_wI, fR_wL, aN_sI, aN_sL, aN_wI, aN_wL, ne_eq, Nat.reduceEqDiff, not_false_eq_true, hk, reduceIte]; exact p.2.2.2.2.2.2.2.1 27 (by decide), by simp only [fI_s, fI_sn, fL_s, fL_sn, aI_w, aI_wn, aL_w, aL_wn, fI_sL, fI_wI, fI_wL, fL_sI, fL_wI, fL_wL, aI_sI, aI_sL, aI_wL, aL_sI, aL_sL, aL_wI, fR_sI, fR_sL, fR_wI, fR_wL, aN_sI, aN_sL, aN_wI, aN_wL, ne_eq, Nat.reduceEqDiff, not_false_eq_true, hk, reduceIte]; exact p.2.2.2.2.2.2.2.2.1 28, by simp only [fI_s, fI_sn, fL_s, fL_sn, aI_w, aI_wn, aL_w, aL_wn, fI_sL, fI_wI, fI_wL, fL_sI, fL_wI, fL_wL, aI_sI, aI_sL, aI_wL, aL_sI, aL_sL, aL_wI, fR_sI, fR_sL, fR_wI, fR_wL, aN_sI, aN_sL, aN_wI, aN_wL, ne_eq, Nat.reduceEqDiff, not_false_eq_true, hk, reduceIte]; exact p.2.2.2.2.2.2.2.2.1 29, by simp only [fI_s, fI_sn, fL_s, fL_sn, aI_w, aI_wn, aL_w, aL_wn, fI_sL, fI_wI, fI_wL, fL_sI, fL_wI, fL_wL, aI_sI, aI_sL, aI_wL, aL_sI, aL_sL, aL_wI, fR_sI, fR_sL, fR_wI, fR_wL, aN_sI, aN_sL, aN_wI, aN_wL, ne_eq, Nat.reduceEqDiff, not_false_eq_true, hk, reduceIte]; exact p.2.2.2.2.2.2.2.1 30 (by decide), by simp only [fI_s, fI_sn, fL_s, fL_sn, aI_w, aI_wn, aL_w, aL_wn, fI_sL, fI_wI, fI_wL, fL_sI, fL_wI, fL_wL, aI_sI, aI_sL, aI_wL, aL_sI, aL_sL, aL_wI, fR_sI, fR_sL, fR_wI, fR_wL, aN_sI, aN_sL, aN_wI, aN_wL, ne_eq, Nat.reduceEqDiff, not_false_eq_true, hk, reduceIte]; exact p.2.2.2.2.2.2.2.1 31 (by decide), by simp only [fI_s, fI_sn, fL_s, fL_sn, aI_w, aI_wn, aL_w, aL_wn, fI_sL, fI_wI, fI_wL, fL_sI, fL_wI, fL_wL, aI_sI, aI_sL, aI_wL, aL_sI, aL_sL, aL_wI, fR_sI, fR_sL, fR_wI, fR_wL, aN_sI, aN_sL, aN_wI, aN_wL, ne_eq, Nat.reduceEqDiff, not_false_eq_true, hk, reduceIte]; exact p.2.2.2.2.2.2.2.1 32 (by decide), by simp only [fI_s, fI_sn, fL_s, fL_sn, aI_w, aI_wn, aL_w, aL_wn, fI_sL, fI_wI, fI_wL, fL_sI, fL_wI, fL_wL, aI_sI, aI_sL, aI_wL, aL_sI, aL_sL, aL_wI, fR_sI, fR_sL, fR_wI, fR_wL, aN_sI, aN_sL, aN_wI, aN_wL, ne_eq, Nat.reduceEqDiff, not_false_eq_true, hk, reduceIte]; exact p.2.2.2.2.2.2.2.2.1 33, by simp only [fI_s, fI_sn, fL_s, fL_sn, aI_w, aI_wn, aL_w, aL_wn, fI_sL, fI_wI, fI_wL, fL_sI, fL_wI, fL_wL, aI_sI, aI_sL, aI_wL, aL_sI, aL_sL, aL_wI, fR_sI, fR_sL, fR_wI, fR_wL, aN_sI, aN_sL, aN_wI, aN_wL, ne_eq, Nat.reduceEqDiff, not_false_eq_true, hk, reduceIte]; exact p.2.2.2.2.2.2.2.2.1 34, by simp only [fI_s, fI_sn, fL_s, fL_sn, aI_w, aI_wn, aL_w, aL_wn, fI_sL, fI_wI, fI_wL, fL_sI, fL_wI, fL_wL, aI_sI, aI_sL, aI_wL, aL_sI, aL_sL, aL_wI, fR_sI, fR_sL, fR_wI, fR_wL, aN_sI, aN_sL, aN_wI, aN_wL, ne_eq, Nat.reduceEqDiff, not_false_eq_true, hk, reduceIte]; rw [p.2.2.2.2.2.2.2.1 35 (by decide)], by simp only [fI_s, fI_sn, fL_s, fL_sn, aI_w, aI_wn, aL_w, aL_wn, fI_sL, fI_wI, fI_wL, fL_sI, fL_wI, fL_wL, aI_sI, aI_sL, aI_wL, aL_sI, aL_sL, aL_wI, fR_sI, fR_sL, fR_wI, fR_wL, aN_sI, aN_sL, aN_wI, aN_wL, ne_eq, Nat.reduceEqDiff, not_false_eq_true, hk, reduceIte]; rw [p.2.2.2.2.2.2.2.1 36 (by decide)], by simp only [fI_s, fI_sn, fL_s, fL_sn, aI_w, aI_wn, aL_w, aL_wn, fI_sL, fI_wI, fI_wL, fL_sI, fL_wI, fL_wL, aI_sI, aI_sL, aI_wL, aL_sI, aL_sL, aL_wI, fR_sI, fR_sL, fR_wI, fR_wL, aN_sI, aN_sL, aN_wI, aN_wL, ne_eq, Nat.reduceEqDiff, not_false_eq_true, hk, reduceIte]; exact p.2.2.2.2.2.2.2.1 37 (by decide), by simp only [fI_s, fI_sn, fL_s, fL_sn, aI_w, aI_wn, aL_w, aL_wn, fI_sL, fI_wI, fI_wL, fL_sI, fL_wI, fL_wL, aI_sI, aI_sL, aI_wL, aL_sI, aL_sL, aL_wI, fR_sI, fR_sL, fR_wI, fR_wL, aN_sI, aN_sL, aN_wI, aN_wL, ne_eq, Nat.reduceEqDiff, not_false_eq_true, hk, reduceIte]; exact p.2.2.2.2.2.2.2.1 38 (by decide), by simp only [fI_s, fI_sn, fL_s, fL_sn, aI_w, aI_wn, aL_w, aL_wn, fI_sL, fI_wI, fI_wL, fL_sI, fL_wI, fL_wL, aI_sI, aI_sL, aI_wL, aL_sI, aL_sL, aL_wI, fR_sI, fR_sL, fR_wI, fR_wL, aN_sI, aN_sL, aN_wI, aN_wL, ne_eq, Nat.reduceEqDiff, not_false_eq_true, hk, reduceIte]; exact p.2.2.2.2.2.2.2.1 39 (by decide)⟩
  have fr : FrC S2 S0 A N bh ks st (uq X D x) (uq Y D x) (uq C D x) (uq H D (H (D - 1))) F1 (uq VF D (VF (D - 1))) (uq TB D t) D := by
    refine FrC.blk x1 (by rw [← hS2]; simp only [fI_s, fI_sn, fL_s, fL_sn, aI_w, aI_wn, aL_w, aL_wn, fI_sL, fI_wI, fI_wL, fL_sI, fL_wI, fL_wL, aI_sI, aI_sL, aI_wL, aL_sI, aL_sL, aL_wI, fR_sI, fR_sL, fR_wI, fR_wL, aN_sI, aN_sL, aN_wI, aN_wL, ne_eq, Nat.reduceEqDiff, not_false_eq_true]; exact p.2.2.2.2.2.2.2.2.2.1.1) (by rw [← hS2]; simp only [fI_s, fI_sn, fL_s, fL_sn, aI_w, aI_wn, aL_w, aL_wn, fI_sL, fI_wI, fI_wL, fL_sI, fL_wI, fL_wL, aI_sI, aI_sL, aI_wL, aL_sI, aL_sL, aL_wI, fR_sI, fR_sL, fR_wI, fR_wL, aN_sI, aN_sL, aN_wI, aN_wL, ne_eq, Nat.reduceEqDiff, not_false_eq_true]; exact p.2.2.2.2.2.2.2.2.2.1.2.1) (by rw [← hS2]; simp only [fI_s, fI_sn, fL_s, fL_sn, aI_w, aI_wn, aL_w, aL_wn, fI_sL, fI_wI, fI_wL, fL_sI, fL_wI, fL_wL, aI_sI, aI_sL, aI_wL, aL_sI, aL_sL, aL_wI, fR_sI, fR_sL, fR_wI, fR_wL, aN_sI, aN_sL, aN_wI, aN_wL, ne_eq, Nat.reduceEqDiff, not_false_eq_true]; exact p.2.2.2.2.2.2.2.2.2.1.2.2) (by omega) a3 (fun z => by omega) (fun z => by omega) (fun z => by omega)
  refine hQ S2 m1 F1 p.2.2.2.2.1 (h'.push p k2 kw hfr (a5.push a3 c (fun z => by omega) (fun z => by omega) (fun _ => rfl) (fun z => by omega)) fk fr) ?_
  intro R0 pc T wr sy g ow hr Sr rp Q2 hQ2
  have lm := rp.1.lay hr.1
  obtain ⟨at1, gx, owx⟩ := hr.at x1 x2
  obtain ⟨pl', pl1', pl2', ah'⟩ := hr.hd x1 x2 (by omega)
  have e46 : aI R0 46 (A 46) (g x) = nI (ow x) := by
    rcases ah'.1 with ⟨_, z, _⟩ | ⟨_, _, z⟩
    · omega
    · exact z
  have hb := (a6 (D - 1) (by omega)).hb
  unfold wp_X12_begin
  intro v1 hv1
  rw [rp.2.1.2.1] at hv1
  subst hv1
  refine ⟨_, lm.f105, by rw [lm.n42]; exact vp_in_nI gx (by omega), ?_⟩
  rw [nI_clamp (by omega), rp.1.a rfl, hr.sort x1 x2, hk]
  rw [if_neg (by decide), if_neg (by decide), if_neg (by decide), if_neg (by decide), if_neg (by decide), if_neg (by decide), if_pos (by decide)]
  refine ⟨_, lm.f107, by rw [lm.n44]; exact vp_in_nI gx (by omega), ?_⟩
  rintro _ rfl
  refine ⟨_, lm.f108, by simp only [fI_s, fI_sn, fL_s, fL_sn, aI_w, aI_wn, aL_w, aL_wn, fI_sL, fI_wI, fI_wL, fL_sI, fL_wI, fL_wL, aI_sI, aI_sL, aI_wL, aL_sI, aL_sL, aL_wI, fR_sI, fR_sL, fR_wI, fR_wL, aN_sI, aN_sL, aN_wI, aN_wL, ne_eq, Nat.reduceEqDiff, not_false_eq_true]; rw [lm.n45]; exact vp_in_nI gx (by omega), ?_⟩
  rintro _ rfl
  simp only [fI_s, fI_sn, fL_s, fL_sn, aI_w, aI_wn, aL_w, aL_wn, fI_sL, fI_wI, fI_wL, fL_sI, fL_wI, fL_wL, aI_sI, aI_sL, aI_wL, aL_sI, aL_sL, aL_wI, fR_sI, fR_sL, fR_wI, fR_wL, aN_sI, aN_sL, aN_wI, aN_wL, ne_eq, Nat.reduceEqDiff, not_false_eq_true]
  rw [rp.1.a (r := 45) rfl, rp.1.a (r := 44) rfl]
  generalize hSr1 : sI (sI Sr 163 (A 9) (fI Sr 163 (A 9) + aI R0 44 (A 44) (g x))) 164 (A 9) (fI Sr 164 (A 9) + aI R0 45 (A 45) (g x)) = Sr1
  have st1 : St Sr1 = St Sr := by rw [← hSr1]; rfl
  have lm1 := lm.st st1
  have d1 : fI Sr1 188 (A 9) = nI D := by rw [← hSr1]; simp only [fI_s, fI_sn, fL_s, fL_sn, aI_w, aI_wn, aL_w, aL_wn, fI_sL, fI_wI, fI_wL, fL_sI, fL_wI, fL_wL, aI_sI, aI_sL, aI_wL, aL_sI, aL_sL, aL_wI, fR_sI, fR_sL, fR_wI, fR_wL, aN_sI, aN_sL, aN_wI, aN_wL, ne_eq, Nat.reduceEqDiff, not_false_eq_true]; exact rp.2.1.2.1
  refine ⟨_, lm.f109, by rw [lm.n46]; exact vp_in_nI gx (by omega), ?_⟩
  rw [rp.1.a (r := 46) rfl, e46]
  refine r_enter lm1 d1 (by omega) owx ?_
  have ss : RpS S2 (enS Sr1 A D (nI (g x)) (ow x) (hw S0 A ks X (H (D - 1)))) S0 A ks (D + 1) (uq X D x) := by
    refine rp.2.1.push a3 (R0 := R0) (gx := g x) c ?_ (fun _ => ⟨ah'.2.1, ah'.2.2.1⟩)
    rw [← hSr1]
    exact ⟨by unfold enS; simp only [fI_s, fI_sn, fL_s, fL_sn, aI_w, aI_wn, aL_w, aL_wn, fI_sL, fI_wI, fI_wL, fL_sI, fL_wI, fL_wL, aI_sI, aI_sL, aI_wL, aL_sI, aL_sL, aL_wI, fR_sI, fR_sL, fR_wI, fR_wL, aN_sI, aN_sL, aN_wI, aN_wL, ne_eq, Nat.reduceEqDiff, not_false_eq_true, hk, reduceIte], by unfold enS; simp only [fI_s, fI_sn, fL_s, fL_sn, aI_w, aI_wn, aL_w, aL_wn, fI_sL, fI_wI, fI_wL, fL_sI, fL_wI, fL_wL, aI_sI, aI_sL, aI_wL, aL_sI, aL_sL, aL_wI, fR_sI, fR_sL, fR_wI, fR_wL, aN_sI, aN_sL, aN_wI, aN_wL, ne_eq, Nat.reduceEqDiff, not_false_eq_true], by unfold enS; simp only [fI_s, fI_sn, fL_s, fL_sn, aI_w, aI_wn, aL_w, aL_wn, fI_sL, fI_wI, fI_wL, fL_sI, fL_wI, fL_wL, aI_sI, aI_sL, aI_wL, aL_sI, aL_sL, aL_wI, fR_sI, fR_sL, fR_wI, fR_wL, aN_sI, aN_sL, aN_wI, aN_wL, ne_eq, Nat.reduceEqDiff, not_false_eq_true, hk, reduceIte], by unfold enS; simp only [fI_s, fI_sn, fL_s, fL_sn, aI_w, aI_wn, aL_w, aL_wn, fI_sL, fI_wI, fI_wL, fL_sI, fL_wI, fL_wL, aI_sI, aI_sL, aI_wL, aL_sI, aL_sL, aL_wI, fR_sI, fR_sL, fR_wI, fR_wL, aN_sI, aN_sL, aN_wI, aN_wL, ne_eq, Nat.reduceEqDiff, not_false_eq_true, hk, reduceIte], by unfold enS; simp only [fI_s, fI_sn, fL_s, fL_sn, aI_w, aI_wn, aL_w, aL_wn, fI_sL, fI_wI, fI_wL, fL_sI, fL_wI, fL_wL, aI_sI, aI_sL, aI_wL, aL_sI, aL_sL, aL_wI, fR_sI, fR_sL, fR_wI, fR_wL, aN_sI, aN_sL, aN_wI, aN_wL, ne_eq, Nat.reduceEqDiff, not_false_eq_true, hk, reduceIte], by unfold enS; simp only [fI_s, fI_sn, fL_s, fL_sn, aI_w, aI_wn, aL_w, aL_wn, fI_sL, fI_wI, fI_wL, fL_sI, fL_wI, fL_wL, aI_sI, aI_sL, aI_wL, aL_sI, aL_sL, aL_wI, fR_sI, fR_sL, fR_wI, fR_wL, aN_sI, aN_sL, aN_wI, aN_wL, ne_eq, Nat.reduceEqDiff, not_false_eq_true, hk, reduceIte], by unfold enS; simp only [fI_s, fI_sn, fL_s, fL_sn, aI_w, aI_wn, aL_w, aL_wn, fI_sL, fI_wI, fI_wL, fL_sI, fL_wI, fL_wL, aI_sI, aI_sL, aI_wL, aL_sI, aL_sL, aL_wI, fR_sI, fR_sL, fR_wI, fR_wL, aN_sI, aN_sL, aN_wI, aN_wL, ne_eq, Nat.reduceEqDiff, not_false_eq_true, hk, reduceIte], by unfold enS; simp only [fI_s, fI_sn, fL_s, fL_sn, aI_w, aI_wn, aL_w, aL_wn, fI_sL, fI_wI, fI_wL, fL_sI, fL_wI, fL_wL, aI_sI, aI_sL, aI_wL, aL_sI, aL_sL, aL_wI, fR_sI, fR_sL, fR_wI, fR_wL, aN_sI, aN_sL, aN_wI, aN_wL, ne_eq, Nat.reduceEqDiff, not_false_eq_true, hk, reduceIte], by unfold enS; simp only [fI_s, fI_sn, fL_s, fL_sn, aI_w, aI_wn, aL_w, aL_wn, fI_sL, fI_wI, fI_wL, fL_sI, fL_wI, fL_wL, aI_sI, aI_sL, aI_wL, aL_sI, aL_sL, aL_wI, fR_sI, fR_sL, fR_wI, fR_wL, aN_sI, aN_sL, aN_wI, aN_wL, ne_eq, Nat.reduceEqDiff, not_false_eq_true, hk, reduceIte], by unfold enS; simp only [fI_s, fI_sn, fL_s, fL_sn, aI_w, aI_wn, aL_w, aL_wn, fI_sL, fI_wI, fI_wL, fL_sI, fL_wI, fL_wL, aI_sI, aI_sL, aI_wL, aL_sI, aL_sL, aL_wI, fR_sI, fR_sL, fR_wI, fR_wL, aN_sI, aN_sL, aN_wI, aN_wL, ne_eq, Nat.reduceEqDiff, not_false_eq_true, hk, reduceIte], by unfold enS; simp only [fI_s, fI_sn, fL_s, fL_sn, aI_w, aI_wn, aL_w, aL_wn, fI_sL, fI_wI, fI_wL, fL_sI, fL_wI, fL_wL, aI_sI, aI_sL, aI_wL, aL_sI, aL_sL, aL_wI, fR_sI, fR_sL, fR_wI, fR_wL, aN_sI, aN_sL, aN_wI, aN_wL, ne_eq, Nat.reduceEqDiff, not_false_eq_true, hk, reduceIte], by unfold enS; simp only [fI_s, fI_sn, fL_s, fL_sn, aI_w, aI_wn, aL_w, aL_wn, fI_sL, fI_wI, fI_wL, fL_sI, fL_wI, fL_wL, aI_sI, aI_sL, aI_wL, aL_sI, aL_sL, aL_wI, fR_sI, fR_sL, fR_wI, fR_wL, aN_sI, aN_sL, aN_wI, aN_wL, ne_eq, Nat.reduceEqDiff, not_false_eq_true, hk, reduceIte], by unfold enS; simp only [fI_s, fI_sn, fL_s, fL_sn, aI_w, aI_wn, aL_w, aL_wn, fI_sL, fI_wI, fI_wL, fL_sI, fL_wI, fL_wL, aI_sI, aI_sL, aI_wL, aL_sI, aL_sL, aL_wI, fR_sI, fR_sL, fR_wI, fR_wL, aN_sI, aN_sL, aN_wI, aN_wL, ne_eq, Nat.reduceEqDiff, not_false_eq_true, hk, reduceIte], by unfold enS; simp only [fI_s, fI_sn, fL_s, fL_sn, aI_w, aI_wn, aL_w, aL_wn, fI_sL, fI_wI, fI_wL, fL_sI, fL_wI, fL_wL, aI_sI, aI_sL, aI_wL, aL_sI, aL_sL, aL_wI, fR_sI, fR_sL, fR_wI, fR_wL, aN_sI, aN_sL, aN_wI, aN_wL, ne_eq, Nat.reduceEqDiff, not_false_eq_true, hk, reduceIte], by unfold enS; simp only [fI_s, fI_sn, fL_s, fL_sn, aI_w, aI_wn, aL_w, aL_wn, fI_sL, fI_wI, fI_wL, fL_sI, fL_wI, fL_wL, aI_sI, aI_sL, aI_wL, aL_sI, aL_sL, aL_wI, fR_sI, fR_sL, fR_wI, fR_wL, aN_sI, aN_sL, aN_wI, aN_wL, ne_eq, Nat.reduceEqDiff, not_false_eq_true, hk, reduceIte], by unfold enS; simp only [fI_s, fI_sn, fL_s, fL_sn, aI_w, aI_wn, aL_w, aL_wn, fI_sL, fI_wI, fI_wL, fL_sI, fL_wI, fL_wL, aI_sI, aI_sL, aI_wL, aL_sI, aL_sL, aL_wI, fR_sI, fR_sL, fR_wI, fR_wL, aN_sI, aN_sL, aN_wI, aN_wL, ne_eq, Nat.reduceEqDiff, not_false_eq_true]; rw [rp.2.1.2.2.2.2.2.2.2.2.2.2.2.2.2.2.2, if_neg hpn]; rfl⟩
  have kr : KPf R0 Sr1 := by rw [← hSr1]; exact (rp.1.sI rfl).sI rfl
  refine hQ2 _ (rp.push h' p k2 hfr kr.en ss ?_ (fun k hk r r1 r2 => ?_) (fun i hi => ?_) (RpF.blk hr hx' a3 (by omega) kr (by rw [kr.a rfl]) (fun _ => ⟨fun z => by omega, fun z => by omega, fun z => by omega⟩) (by omega)))
  · rw [← hSr1]; unfold enS
    exact ⟨⟨by simp only [fI_s, fI_sn, fL_s, fL_sn, aI_w, aI_wn, aL_w, aL_wn, fI_sL, fI_wI, fI_wL, fL_sI, fL_wI, fL_wL, aI_sI, aI_sL, aI_wL, aL_sI, aL_sL, aL_wI, fR_sI, fR_sL, fR_wI, fR_wL, aN_sI, aN_sL, aN_wI, aN_wL, ne_eq, Nat.reduceEqDiff, not_false_eq_true], by simp only [fI_s, fI_sn, fL_s, fL_sn, aI_w, aI_wn, aL_w, aL_wn, fI_sL, fI_wI, fI_wL, fL_sI, fL_wI, fL_wL, aI_sI, aI_sL, aI_wL, aL_sI, aL_sL, aL_wI, fR_sI, fR_sL, fR_wI, fR_wL, aN_sI, aN_sL, aN_wI, aN_wL, ne_eq, Nat.reduceEqDiff, not_false_eq_true], by simp only [fI_s, fI_sn, fL_s, fL_sn, aI_w, aI_wn, aL_w, aL_wn, fI_sL, fI_wI, fI_wL, fL_sI, fL_wI, fL_wL, aI_sI, aI_sL, aI_wL, aL_sI, aL_sL, aL_wI, fR_sI, fR_sL, fR_wI, fR_wL, aN_sI, aN_sL, aN_wI, aN_wL, ne_eq, Nat.reduceEqDiff, not_false_eq_true]⟩, fun r r1 r2 => ⟨by (have : r ≠ 86 ∧ r ≠ 87 ∧ r ≠ 88 ∧ r ≠ 89 ∧ r ≠ 90 ∧ r ≠ 92 ∧ r ≠ 94 ∧ r ≠ 95 := by omega); simp only [fI_s, fI_sn, fL_s, fL_sn, aI_w, aI_wn, aL_w, aL_wn, fI_sL, fI_wI, fI_wL, fL_sI, fL_wI, fL_wL, aI_sI, aI_sL, aI_wL, aL_sI, aL_sL, aL_wI, fR_sI, fR_sL, fR_wI, fR_wL, aN_sI, aN_sL, aN_wI, aN_wL, ne_eq, Nat.reduceEqDiff, not_false_eq_true, aI_wn _ _ _ _ _ r this.1, aI_wn _ _ _ _ _ r this.2.1, aI_wn _ _ _ _ _ r this.2.2.1, aI_wn _ _ _ _ _ r this.2.2.2.1, aI_wn _ _ _ _ _ r this.2.2.2.2.1, aI_wn _ _ _ _ _ r this.2.2.2.2.2.1], by (have : r ≠ 94 ∧ r ≠ 95 := by omega); simp only [fI_s, fI_sn, fL_s, fL_sn, aI_w, aI_wn, aL_w, aL_wn, fI_sL, fI_wI, fI_wL, fL_sI, fL_wI, fL_wL, aI_sI, aI_sL, aI_wL, aL_sI, aL_sL, aL_wI, fR_sI, fR_sL, fR_wI, fR_wL, aN_sI, aN_sL, aN_wI, aN_wL, ne_eq, Nat.reduceEqDiff, not_false_eq_true, aL_wn _ _ _ _ _ r this.1, aL_wn _ _ _ _ _ r this.2]⟩⟩
  · rw [← hSr1]; unfold enS
    have hne : k ≠ D := by omega
    exact ⟨by simp only [fI_s, fI_sn, fL_s, fL_sn, aI_w, aI_wn, aL_w, aL_wn, fI_sL, fI_wI, fI_wL, fL_sI, fL_wI, fL_wL, aI_sI, aI_sL, aI_wL, aL_sI, aL_sL, aL_wI, fR_sI, fR_sL, fR_wI, fR_wL, aN_sI, aN_sL, aN_wI, aN_wL, ne_eq, Nat.reduceEqDiff, not_false_eq_true, aI_wI, hne, and_false, if_false], by simp only [fI_s, fI_sn, fL_s, fL_sn, aI_w, aI_wn, aL_w, aL_wn, fI_sL, fI_wI, fI_wL, fL_sI, fL_wI, fL_wL, aI_sI, aI_sL, aI_wL, aL_sI, aL_sL, aL_wI, fR_sI, fR_sL, fR_wI, fR_wL, aN_sI, aN_sL, aN_wI, aN_wL, ne_eq, Nat.reduceEqDiff, not_false_eq_true, aL_wL, hne, and_false, if_false]⟩
  · rw [← hSr1]; unfold enS
    exact ⟨by simp only [fI_s, fI_sn, fL_s, fL_sn, aI_w, aI_wn, aL_w, aL_wn, fI_sL, fI_wI, fI_wL, fL_sI, fL_wI, fL_wL, aI_sI, aI_sL, aI_wL, aL_sI, aL_sL, aL_wI, fR_sI, fR_sL, fR_wI, fR_wL, aN_sI, aN_sL, aN_wI, aN_wL, ne_eq, Nat.reduceEqDiff, not_false_eq_true], by simp only [fI_s, fI_sn, fL_s, fL_sn, aI_w, aI_wn, aL_w, aL_wn, fI_sL, fI_wI, fI_wL, fL_sI, fL_wI, fL_wL, aI_sI, aI_sL, aI_wL, aL_sI, aL_sL, aL_wI, fR_sI, fR_sL, fR_wI, fR_wL, aN_sI, aN_sL, aN_wI, aN_wL, ne_eq, Nat.reduceEqDiff, not_false_eq_true]⟩
end
