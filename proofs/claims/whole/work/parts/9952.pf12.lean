/-! Performing: an R begins. -/
section
variable {S S1 S2 S0 Sr Sr1 Sr2 R0 : PS} {A : Nat → Nat} {B : Nat → Int32} {n N nd pc : Nat} {bh par ks lv g ow : Nat → Nat}
variable {D m st E V M t ln sy x : Nat} {lp : Int} {X Y C H F VF TB : Nat → Nat}
theorem CPf.stp (h : CPf S S0 A B n N nd bh par ks lv D m st E V M t ln lp X Y C H F VF TB) (hs : st < 3000) : CPf (sI S 26 (A 3) (nI (st + 1))) S0 A B n N nd bh par ks lv D m (st + 1) E V M t ln lp X Y C H F VF TB := by
  obtain ⟨a1, a2, ⟨a3, a4⟩, a5, a6, a7, a8, a9, a10⟩ := h
  refine ⟨a1.sI (PW.at rfl), a2.st rfl, ⟨a3, a4.st rfl⟩, a5.step hs (fun j j1 j2 => by rw [fI_sn _ _ _ _ _ j1]) (fun j => rfl) (by simp only [fI_s, fI_sn, fL_s, fL_sn, aI_w, aI_wn, aL_w, aL_wn, fI_sL, fI_wI, fI_wL, fL_sI, fL_wI, fL_wL, aI_sI, aI_sL, aI_wL, aL_sI, aL_sL, aL_wI, fR_sI, fR_sL, fR_wI, fR_wL, aN_sI, aN_sL, aN_wI, aN_wL, ne_eq, Nat.reduceEqDiff, not_false_eq_true]), a6, fun k hk => ?_, a8, a9.eq ⟨by simp only [fI_s, fI_sn, fL_s, fL_sn, aI_w, aI_wn, aL_w, aL_wn, fI_sL, fI_wI, fI_wL, fL_sI, fL_wI, fL_wL, aI_sI, aI_sL, aI_wL, aL_sI, aL_sL, aL_wI, fR_sI, fR_sL, fR_wI, fR_wL, aN_sI, aN_sL, aN_wI, aN_wL, ne_eq, Nat.reduceEqDiff, not_false_eq_true], fun r _ _ => ⟨rfl, rfl⟩⟩, a10.eq ⟨by simp only [fI_s, fI_sn, fL_s, fL_sn, aI_w, aI_wn, aL_w, aL_wn, fI_sL, fI_wI, fI_wL, fL_sI, fL_wI, fL_wL, aI_sI, aI_sL, aI_wL, aL_sI, aL_sL, aL_wI, fR_sI, fR_sL, fR_wI, fR_wL, aN_sI, aN_sL, aN_wI, aN_wL, ne_eq, Nat.reduceEqDiff, not_false_eq_true], by simp only [fI_s, fI_sn, fL_s, fL_sn, aI_w, aI_wn, aL_w, aL_wn, fI_sL, fI_wI, fI_wL, fL_sI, fL_wI, fL_wL, aI_sI, aI_sL, aI_wL, aL_sI, aL_sL, aL_wI, fR_sI, fR_sL, fR_wI, fR_wL, aN_sI, aN_sL, aN_wI, aN_wL, ne_eq, Nat.reduceEqDiff, not_false_eq_true], fun r _ _ => ⟨rfl, rfl⟩⟩⟩
  exact (a7 k hk).cg (by omega) (fun _ _ => rfl) rfl (fun _ _ => rfl) rfl (fun _ _ => rfl) rfl (by rw [fI_sn _ _ _ _ _ (by decide)]; exact (a7 k hk).2.1) (fun j j1 j2 j3 => ⟨by rw [fI_sn _ _ _ _ _ (by omega)], rfl⟩)
theorem RpS.stp {v : Int32} (h : RpS S Sr S0 A ks D X) : RpS (sI S 26 (A 3) v) (sI Sr 154 (A 9) v) S0 A ks D X := by
  obtain ⟨d1, d2, d3, d4, d5, d6, d7, d8, d9, d10, d11, d12, d13, d14, d15, d16⟩ := h
  refine ⟨?_, ?_, ?_, ?_, ?_, ?_, fun y => ?_, ?_, ?_, ?_, ?_, ?_, ?_, ?_, ?_, ?_⟩
  all_goals simp only [fI_s, fI_sn, fL_s, fL_sn, aI_w, aI_wn, aL_w, aL_wn, fI_sL, fI_wI, fI_wL, fL_sI, fL_wI, fL_wL, aI_sI, aI_sL, aI_wL, aL_sI, aL_sL, aL_wI, fR_sI, fR_sL, fR_wI, fR_wL, aN_sI, aN_sL, aN_wI, aN_wL, ne_eq, Nat.reduceEqDiff, not_false_eq_true]
  all_goals first | assumption | exact d7 y
/-- a block was pushed, and is gone again -/
theorem CPf.back {m1 : Nat} {F1 : Nat → Nat} {e0 c0 l0 : Int32} (h : CPf S S0 A B n N nd bh par ks lv D m st E V M t ln lp X Y C H F VF TB) (p : Psh S S1 A D m m1 F F1 e0 c0 l0) (k2 : Keep (fun j => decide (j = 3 ∨ j = 5 ∨ j = 24)) rN S1 S2) (kw : Kws (PW A S0) S0 S2) (e24 : fI S2 24 (A 3) = nI D)
    (hfr : ∀ i, i < D → ∀ j, 2 ≤ j → j ≤ 16 → fI S2 j (F i) = fI S1 j (F i) ∧ fL S2 j (F i) = fL S1 j (F i)) : CPf S2 S0 A B n N nd bh par ks lv D m1 st E V M t ln lp X Y C H F1 VF TB := by
  obtain ⟨a1, a2, ⟨a3, a4⟩, a5, a6, a7, a8, a9, a10⟩ := h
  obtain ⟨p1, p2, p3, p4, p5, p6, p7, p8, p9, p10, p11, p12, p13⟩ := p
  refine ⟨kw, p2.st k2.1, ⟨a3, ?_⟩, ?_, a6, fun k hk => ?_, a8, a9.eq (p13.tr (EqM.of k2 rfl (fun _ _ _ => rfl))), a10.eq (p12.tr (EqE.of k2 rfl rfl (fun _ _ _ => rfl)))⟩
  · have := p3.st k2.1
    exact ⟨this.1, this.2.1, this.2.2.1, by have := this.2.2.2.1; omega, this.2.2.2.2⟩
  · have c : ∀ j, 24 < j → fI S2 j (A 3) = fI S j (A 3) := fun j hj => by rw [(k2.2.1 j (by simp only [decide_eq_false_iff_not]; omega)).1]; exact p8 j hj
    have cl : ∀ j, 24 < j → fL S2 j (A 3) = fL S j (A 3) := fun j hj => by rw [(k2.2.1 j (by simp only [decide_eq_false_iff_not]; omega)).2]; exact p9 j
    unfold PfS
    rw [e24, c 26 (by decide), c 27 (by decide), cl 28 (by decide), cl 29 (by decide), c 30 (by decide), c 31 (by decide), c 32 (by decide), cl 33 (by decide), cl 34 (by decide), c 35 (by decide), c 36 (by decide), c 37 (by decide), c 38 (by decide), c 39 (by decide)]
    obtain ⟨z1, z2⟩ := a5
    exact ⟨rfl, z2⟩
  · have hh : ∀ j, 2 ≤ j → j ≤ 16 → fI S2 j (F k) = fI S j (F k) ∧ fL S2 j (F k) = fL S j (F k) := fun j j1 j2 => ⟨(hfr k hk j j1 j2).1.trans (p11 k hk j (by omega)).1, (hfr k hk j j1 j2).2.trans (p11 k hk j (by omega)).2⟩
    exact (a7 k hk).cg (Nat.le_refl st) (fun _ _ => rfl) rfl (fun _ _ => rfl) (p4 k hk) (fun _ _ => rfl) rfl (by rw [(hh 3 (by omega) (by omega)).1]; exact (a7 k hk).2.1) (fun j j1 j2 _ => hh j j1 j2)
theorem k_rounds {Q : Int32 → PS → Prop} (sc : StC S0 A B n pc N nd bh par ks lv) (h : CPf S S0 A B n N nd bh par ks lv D m st E V M t ln lp X Y C H F VF TB) (hx : Itm N par Y D x) (hk : ks x = 4)
    (hQ : ∀ S2 m1 F1, m1 = (if D < m then m else m + 1) → PfL S2 A → PfA S2 A (D + 1) m1 F1 → fI S2 24 (A 3) = nI (D + 1) → fI S2 4 (F1 D) = fI S2 3 (F1 D) →
      (∀ Q2 : Int32 → PS → Prop,
        (∀ S3, CPf S3 S0 A B n N nd bh par ks lv D m1 st E V M t ln lp X Y C H F1 VF TB → GoB S0 A B n N nd bh par ks x S D E V M X Y C H F S3 D E V M X Y C H F1 → Q2 1 S3) →
        (st < 3000 → ∀ S3, CPf S3 S0 A B n N nd bh par ks lv (D + 1) m1 (st + 1) E V M t ln lp (uq X D x) (uq Y D x) (uq C D x) (uq H D (H (D - 1))) F1 (uq VF D (VF (D - 1))) (uq TB D t) → GoB S0 A B n N nd bh par ks x S D E V M X Y C H F S3 (D + 1) E V M (uq X D x) (uq Y D x) (uq C D x) (uq H D (H (D - 1))) F1 → Q2 1 S3) →
        (st = 3000 → ∀ S3 pl, CBad S0 S3 A m1 F1 (5, pl) → GoF S0 A B n N nd bh par ks x S D E V M X Y C H F (5, pl) → Q2 0 S3) → wp_X3_end (A 3) (F1 D) S2 Q2) → Q 1 S2) : wp_X3_begin (A 3) (nI (x - 1)) (kq D m) S Q := by
  have hx' := hx
  obtain ⟨x1, x2, x3⟩ := hx
  have h' := h
  obtain ⟨a1, a2, ⟨a3, a4⟩, a5, a6, a7, a8, a9, a10⟩ := h
  have hpg := sc.pg a1 a2
  have hA : Ad S A := sc.2.1.ext a1.1
  obtain ⟨R00, T0, wr0, sy0, g0, ow0, r0⟩ := sc.rsr
  obtain ⟨pl, pl1, pl2, ah⟩ := r0.hd x1 x2 (by omega)
  have hB : B pl = 82 := by
    obtain ⟨y1, _⟩ := ah
    rcases y1 with ⟨_, z, _⟩ | ⟨z, _⟩
    · omega
    · rcases z with ⟨q, z⟩ | ⟨q, z⟩ | ⟨q, z⟩ | ⟨q, z⟩
      all_goals first | exact q | omega
  obtain ⟨hD, fk⟩ := FrK.blk sc h' hx' (by omega)
  have hpn : ¬ pn S0 A ks x = true := by unfold pn; rw [decide_eq_true_iff]; omega
  have h17 := sc.2.2.2.1 x x1 x2
  have h24 := a5.1
  have ex : x - 1 + 1 = x := by omega
  obtain ⟨r, r1, r2⟩ := ah.2.2.2.1 hB
  have hst := a5.2.1
  unfold wp_X3_begin
  refine ⟨_, a2.1, s_kindOf hpg (by omega) pl2 pl1 ?_⟩
  rw [hB, if_neg (by decide), if_neg (by decide), if_neg (by decide), if_neg (by decide), if_pos rfl]
  refine ⟨kq D m, ⟨Nat.le_refl _, Nat.le_refl _⟩, ?_⟩
  unfold wp_X3_openBlock
  refine ⟨_, a2.1, s_kindOf hpg (by omega) pl2 pl1 ?_⟩
  intro K hK
  rw [hB, if_neg (by decide)]
  apply hK
  refine ⟨_, a2.1, s_behind hpg (by omega) ?_⟩
  refine ⟨kq D m, ⟨Nat.le_refl _, Nat.le_refl _⟩, ?_⟩
  rw [h17, nI_1, ex]
  refine s_push hA a2 a4 h24 hD (fun S1 m1 F1 p => ⟨fun z => (by cases z), fun b hb => ?_⟩)
  injection hb with hb
  subst hb
  have kw1 := p.2.2.2.2.2.1 S0 a1
  have hpg1 : Pg S1 S0 A B n N nd pc := sc.pg kw1 p.2.1
  have w := p.w a1
  rw [hB, if_neg (by decide), if_neg (by decide), if_neg (by decide)]
  refine ⟨_, p.2.1.1, s_one hpg1 (by omega) ?_⟩
  rw [r2]
  rintro _ rfl _ rfl
  simp only [fI_s, fI_sn, fL_s, fL_sn, aI_w, aI_wn, aL_w, aL_wn, fI_sL, fI_wI, fI_wL, fL_sI, fL_wI, fL_wL, aI_sI, aI_sL, aI_wL, aL_sI, aL_sL, aL_wI, fR_sI, fR_sL, fR_wI, fR_wL, aN_sI, aN_sL, aN_wI, aN_wL, ne_eq, Nat.reduceEqDiff, not_false_eq_true]
  rw [p.2.2.2.2.2.2.2.2.2.1.2.2]
  generalize hS2 : sI (sI S1 5 (F1 D) (nI r)) 3 (F1 D) (nI (bh x)) = S2
  have st2 : St S2 = St S1 := by rw [← hS2]; rfl
  refine hQ S2 m1 F1 p.2.2.2.2.1 (p.2.1.st st2) (p.2.2.1.st st2) (by rw [← hS2]; simp only [fI_s, fI_sn, fL_s, fL_sn, aI_w, aI_wn, aL_w, aL_wn, fI_sL, fI_wI, fI_wL, fL_sI, fL_wI, fL_wL, aI_sI, aI_sL, aI_wL, aL_sI, aL_sL, aL_wI, fR_sI, fR_sL, fR_wI, fR_wL, aN_sI, aN_sL, aN_wI, aN_wL, ne_eq, Nat.reduceEqDiff, not_false_eq_true]; exact p.2.2.2.2.2.2.1) (by rw [← hS2]; simp only [fI_s, fI_sn, fL_s, fL_sn, aI_w, aI_wn, aL_w, aL_wn, fI_sL, fI_wI, fI_wL, fL_sI, fL_wI, fL_wL, aI_sI, aI_sL, aI_wL, aL_sI, aL_sL, aL_wI, fR_sI, fR_sL, fR_wI, fR_wL, aN_sI, aN_sL, aN_wI, aN_wL, ne_eq, Nat.reduceEqDiff, not_false_eq_true]; exact p.2.2.2.2.2.2.2.2.2.1.2.2) (fun Q2 q1 q2 q3 => ?_)
  have kw2 : Kws (PW A S0) S0 S2 := by rw [← hS2]; exact (kw1.sI w).sI w
  have hpg2 : Pg S2 S0 A B n N nd pc := sc.pg kw2 (p.2.1.st st2)
  have c2 : fI S2 2 (F1 D) = nI (x - 1) := by rw [← hS2]; simp only [fI_s, fI_sn, fL_s, fL_sn, aI_w, aI_wn, aL_w, aL_wn, fI_sL, fI_wI, fI_wL, fL_sI, fL_wI, fL_wL, aI_sI, aI_sL, aI_wL, aL_sI, aL_sL, aL_wI, fR_sI, fR_sL, fR_wI, fR_wL, aN_sI, aN_sL, aN_wI, aN_wL, ne_eq, Nat.reduceEqDiff, not_false_eq_true]; exact p.2.2.2.2.2.2.2.2.2.1.1
  have c5 : fI S2 5 (F1 D) = nI r := by rw [← hS2]; simp only [fI_s, fI_sn, fL_s, fL_sn, aI_w, aI_wn, aL_w, aL_wn, fI_sL, fI_wI, fI_wL, fL_sI, fL_wI, fL_wL, aI_sI, aI_sL, aI_wL, aL_sI, aL_sL, aL_wI, fR_sI, fR_sL, fR_wI, fR_wL, aN_sI, aN_sL, aN_wI, aN_wL, ne_eq, Nat.reduceEqDiff, not_false_eq_true]
  -- the reference's own part
  have rf : ∀ R0 pc T wr sy g ow, RSR S0 R0 A B n N nd bh par ks pc T wr sy g ow → ∀ Sr, RPf S Sr S0 R0 A B n sy N bh ks g ow D E V M X Y C H F → ∀ Q : PS → Prop,
      (r = 0 → Q (wI Sr 89 (A 89) D (nI r))) → (r ≠ 0 → st < 3000 → Q (enS (sI (wI Sr 89 (A 89) D (nI r)) 154 (A 9) (nI (st + 1))) A D (nI (g x)) (ow x) (hw S0 A ks X (H (D - 1))))) →
      (r ≠ 0 → st = 3000 → ∀ pl', aI R0 43 (A 43) (g x) = nI pl' → ∀ Sr1, RBad R0 Sr1 A (5, pl') → Q Sr1) → wp_X12_begin (A 9) (nI (g x)) (hw S0 A ks X (H (D - 1))) Sr Q := by
    intro R0 pc T wr sy g ow hr Sr rp Q q1 q2 q3
    have lm := rp.1.lay hr.1
    obtain ⟨at1, gx, owx⟩ := hr.at x1 x2
    obtain ⟨pl', p1', p2', ah'⟩ := hr.hd x1 x2 (by omega)
    have e46 : aI R0 46 (A 46) (g x) = nI (ow x) := by
      rcases ah'.1 with ⟨_, z, _⟩ | ⟨_, _, z⟩
      · omega
      · exact z
    have e44 : aI R0 44 (A 44) (g x) = nI r := ah'.2.1.trans r2
    unfold wp_X12_begin
    intro v1 hv1
    rw [rp.2.1.2.1] at hv1
    subst hv1
    refine ⟨_, lm.f105, by rw [lm.n42]; exact vp_in_nI gx (by omega), ?_⟩
    rw [nI_clamp (by omega), rp.1.a rfl, hr.sort x1 x2, hk, if_neg (by decide), if_neg (by decide), if_neg (by decide), if_neg (by decide), if_pos (by decide)]
    refine ⟨_, lm.f176, _, lm.f107, by rw [lm.n44]; exact vp_in_nI gx (by omega), by rw [lm.n89]; exact vp_in_nI (by omega) (by omega), ?_⟩
    rw [nI_clamp (by omega), rp.1.a rfl, e44]
    rintro _ rfl
    have lm1 : LayM (wI Sr 89 (A 89) D (nI r)) A := lm.st rfl
    refine ⟨_, lm.f107, by simp only [fI_s, fI_sn, fL_s, fL_sn, aI_w, aI_wn, aL_w, aL_wn, fI_sL, fI_wI, fI_wL, fL_sI, fL_wI, fL_wL, aI_sI, aI_sL, aI_wL, aL_sI, aL_sL, aL_wI, fR_sI, fR_sL, fR_wI, fR_wL, aN_sI, aN_sL, aN_wI, aN_wL, ne_eq, Nat.reduceEqDiff, not_false_eq_true]; rw [lm.n44]; exact vp_in_nI gx (by omega), ?_⟩
    simp only [fI_s, fI_sn, fL_s, fL_sn, aI_w, aI_wn, aL_w, aL_wn, fI_sL, fI_wI, fI_wL, fL_sI, fL_wI, fL_wL, aI_sI, aI_sL, aI_wL, aL_sI, aL_sL, aL_wI, fR_sI, fR_sL, fR_wI, fR_wL, aN_sI, aN_sL, aN_wI, aN_wL, ne_eq, Nat.reduceEqDiff, not_false_eq_true]
    rw [rp.1.a rfl, e44]
    by_cases z : r = 0
    · rw [if_pos (by rw [z]; decide)]; exact q1 z
    · rw [if_neg (nI_nle (by omega) (by omega))]
      obtain ⟨pl', p1, p2, p3, _⟩ := hr.pl x1 x2 (by omega)
      have fin : ∀ Sr1, KPf R0 Sr1 → fI Sr1 188 (A 9) = nI D → Q (enS Sr1 A D (nI (g x)) (ow x) (hw S0 A ks X (H (D - 1)))) → (∃ b24, fR Sr1 109 (A 9) = some b24 ∧ (vp_in (nI (g x)) (aN Sr1 b24) ∧ wp_X12_enter (A 9) (nI (g x)) (aI Sr1 46 b24 (g x)) (hw S0 A ks X (H (D - 1))) Sr1 (fun (S25 : PS) => Q S25))) := by
        intro Sr1 k1 d1 hq
        have lm1 := k1.lay hr.1
        refine ⟨_, lm1.f109, by rw [lm1.n46]; exact vp_in_nI gx (by omega), ?_⟩
        rw [k1.a rfl, e46]
        exact r_enter lm1 d1 (by omega) owx hq
      refine r_pstep lm1 gx (by simp only [fI_s, fI_sn, fL_s, fL_sn, aI_w, aI_wn, aL_w, aL_wn, fI_sL, fI_wI, fI_wL, fL_sI, fL_wI, fL_wL, aI_sI, aI_sL, aI_wL, aL_sI, aL_sL, aL_wI, fR_sI, fR_sL, fR_wI, fR_wL, aN_sI, aN_sL, aN_wI, aN_wL, ne_eq, Nat.reduceEqDiff, not_false_eq_true]; rw [rp.2.1.2.2.1]; exact hst.1) hst.2 (by simp only [fI_s, fI_sn, fL_s, fL_sn, aI_w, aI_wn, aL_w, aL_wn, fI_sL, fI_wI, fI_wL, fL_sI, fL_wI, fL_wL, aI_sI, aI_sL, aI_wL, aL_sI, aL_sL, aL_wI, fR_sI, fR_sL, fR_wI, fR_wL, aN_sI, aN_sL, aN_wI, aN_wL, ne_eq, Nat.reduceEqDiff, not_false_eq_true]; exact rp.2.1.1) (by simp only [fI_s, fI_sn, fL_s, fL_sn, aI_w, aI_wn, aL_w, aL_wn, fI_sL, fI_wI, fI_wL, fL_sI, fL_wI, fL_wL, aI_sI, aI_sL, aI_wL, aL_sI, aL_sL, aL_wI, fR_sI, fR_sL, fR_wI, fR_wL, aN_sI, aN_sL, aN_wI, aN_wL, ne_eq, Nat.reduceEqDiff, not_false_eq_true]; rw [rp.1.a rfl]; exact p3) (fun s1 => ?_) (fun s0 => ?_)
      · exact fin _ ((rp.1.wI rfl).sI rfl) (by simp only [fI_s, fI_sn, fL_s, fL_sn, aI_w, aI_wn, aL_w, aL_wn, fI_sL, fI_wI, fI_wL, fL_sI, fL_wI, fL_wL, aI_sI, aI_sL, aI_wL, aL_sI, aL_sL, aL_wI, fR_sI, fR_sL, fR_wI, fR_wL, aN_sI, aN_sL, aN_wI, aN_wL, ne_eq, Nat.reduceEqDiff, not_false_eq_true]; exact rp.2.1.2.1) (q2 z s1)
      · have kb : KPf R0 (sI (sI (wI Sr 89 (A 89) D (nI r)) 102 (A 9) 5) 103 (A 9) (nI pl')) := ((rp.1.wI rfl).sI rfl).sI rfl
        exact fin _ kb (by simp only [fI_s, fI_sn, fL_s, fL_sn, aI_w, aI_wn, aL_w, aL_wn, fI_sL, fI_wI, fI_wL, fL_sI, fL_wI, fL_wL, aI_sI, aI_sL, aI_wL, aL_sI, aL_sL, aL_wI, fR_sI, fR_sL, fR_wI, fR_wL, aN_sI, aN_sL, aN_wI, aN_wL, ne_eq, Nat.reduceEqDiff, not_false_eq_true]; exact rp.2.1.2.1) (q3 z s0 pl' p3 _ ⟨kb.en, by unfold enS; simp only [fI_s, fI_sn, fL_s, fL_sn, aI_w, aI_wn, aL_w, aL_wn, fI_sL, fI_wI, fI_wL, fL_sI, fL_wI, fL_wL, aI_sI, aI_sL, aI_wL, aL_sI, aL_sL, aL_wI, fR_sI, fR_sL, fR_wI, fR_wL, aN_sI, aN_sL, aN_wI, aN_wL, ne_eq, Nat.reduceEqDiff, not_false_eq_true]; rfl, by unfold enS; simp only [fI_s, fI_sn, fL_s, fL_sn, aI_w, aI_wn, aL_w, aL_wn, fI_sL, fI_wI, fI_wL, fL_sI, fL_wI, fL_wL, aI_sI, aI_sL, aI_wL, aL_sI, aL_sL, aL_wI, fR_sI, fR_sL, fR_wI, fR_wL, aN_sI, aN_sL, aN_wI, aN_wL, ne_eq, Nat.reduceEqDiff, not_false_eq_true]⟩)
  unfold wp_X3_end
  rw [c2]
  refine ⟨_, (p.2.1.st st2).1, s_kindOf hpg2 (by omega) pl2 pl1 ?_⟩
  intro K hK
  rw [hB, if_neg (by decide), if_neg (by decide), if_pos rfl]
  unfold wp_X3_nextRound
  rw [c5]
  have hne : ∀ i, i < D → F i ≠ F1 D := fun i hi => p.ne hi
  by_cases z : r = 0
  · rw [if_neg (by rw [z]; decide)]
    rintro _ rfl
    have e24 : fI S2 24 (A 3) - 1 = nI D := by rw [← hS2]; simp only [fI_s, fI_sn, fL_s, fL_sn, aI_w, aI_wn, aL_w, aL_wn, fI_sL, fI_wI, fI_wL, fL_sI, fL_wI, fL_wL, aI_sI, aI_sL, aI_wL, aL_sI, aL_sL, aL_wI, fR_sI, fR_sL, fR_wI, fR_wL, aN_sI, aN_sL, aN_wI, aN_wL, ne_eq, Nat.reduceEqDiff, not_false_eq_true]; rw [p.2.2.2.2.2.2.1, nI_pred]
    rw [e24]
    have k2 : Keep (fun j => decide (j = 3 ∨ j = 5 ∨ j = 24)) rN S1 (sI S2 24 (A 3) (nI D)) := by rw [← hS2]; exact ((Keep.rf.sI rfl).sI rfl).sI rfl
    have hfr : ∀ i, i < D → ∀ j, 2 ≤ j → j ≤ 16 → fI (sI S2 24 (A 3) (nI D)) j (F i) = fI S1 j (F i) ∧ fL (sI S2 24 (A 3) (nI D)) j (F i) = fL S1 j (F i) := fun i hi j j1 j2 => by
      rw [← hS2]
      exact ⟨by rw [fI_sn _ _ _ _ _ (by omega), fI_sI, if_neg (fun y => hne i hi y.2), fI_sI, if_neg (fun y => hne i hi y.2)], rfl⟩
    refine q1 _ (h'.back p k2 (kw2.sI (PW.at rfl)) (by simp only [fI_s, fI_sn, fL_s, fL_sn, aI_w, aI_wn, aL_w, aL_wn, fI_sL, fI_wI, fI_wL, fL_sI, fL_wI, fL_wL, aI_sI, aI_sL, aI_wL, aL_sI, aL_sL, aL_wI, fR_sI, fR_sL, fR_wI, fR_wL, aN_sI, aN_sL, aN_wI, aN_wL, ne_eq, Nat.reduceEqDiff, not_false_eq_true]) hfr) ?_
    intro R0 pc T wr sy g ow hr Sr rp Q3 hQ3
    refine rf R0 pc T wr sy g ow hr Sr rp Q3 (fun _ => ?_) (fun y => absurd z y) (fun y => absurd z y)
    obtain ⟨b1, b2, b3, b4⟩ := rp
    refine hQ3 _ ⟨b1.wI rfl, ?_, fun k hk1 => ?_, b4.eq (p.2.2.2.2.2.2.2.2.2.2.2.1.tr (EqE.of k2 rfl rfl (fun _ _ _ => rfl))) (p.2.2.2.2.2.2.2.2.2.2.2.2.tr (EqM.of k2 rfl (fun _ _ _ => rfl))) ⟨⟨by simp only [fI_s, fI_sn, fL_s, fL_sn, aI_w, aI_wn, aL_w, aL_wn, fI_sL, fI_wI, fI_wL, fL_sI, fL_wI, fL_wL, aI_sI, aI_sL, aI_wL, aL_sI, aL_sL, aL_wI, fR_sI, fR_sL, fR_wI, fR_wL, aN_sI, aN_sL, aN_wI, aN_wL, ne_eq, Nat.reduceEqDiff, not_false_eq_true], by simp only [fI_s, fI_sn, fL_s, fL_sn, aI_w, aI_wn, aL_w, aL_wn, fI_sL, fI_wI, fI_wL, fL_sI, fL_wI, fL_wL, aI_sI, aI_sL, aI_wL, aL_sI, aL_sL, aL_wI, fR_sI, fR_sL, fR_wI, fR_wL, aN_sI, aN_sL, aN_wI, aN_wL, ne_eq, Nat.reduceEqDiff, not_false_eq_true], by simp only [fI_s, fI_sn, fL_s, fL_sn, aI_w, aI_wn, aL_w, aL_wn, fI_sL, fI_wI, fI_wL, fL_sI, fL_wI, fL_wL, aI_sI, aI_sL, aI_wL, aL_sI, aL_sL, aL_wI, fR_sI, fR_sL, fR_wI, fR_wL, aN_sI, aN_sL, aN_wI, aN_wL, ne_eq, Nat.reduceEqDiff, not_false_eq_true]⟩, fun q q1 q2 => ⟨by rw [aI_wn _ _ _ _ _ _ (by omega)], rfl⟩⟩⟩
    · have c : ∀ j, 24 < j → fI (sI S2 24 (A 3) (nI D)) j (A 3) = fI S j (A 3) := fun j hj => by rw [(k2.2.1 j (by simp only [decide_eq_false_iff_not]; omega)).1]; exact p.2.2.2.2.2.2.2.1 j hj
      have cl : ∀ j, 24 < j → fL (sI S2 24 (A 3) (nI D)) j (A 3) = fL S j (A 3) := fun j hj => by rw [(k2.2.1 j (by simp only [decide_eq_false_iff_not]; omega)).2]; exact p.2.2.2.2.2.2.2.2.1 j
      unfold RpS
      rw [c 26 (by decide), c 27 (by decide), cl 28 (by decide), cl 29 (by decide), c 30 (by decide), c 31 (by decide), c 32 (by decide), cl 33 (by decide), cl 34 (by decide), c 35 (by decide), c 36 (by decide), c 37 (by decide), c 38 (by decide)]
      exact b2
    · have hkD : k ≠ D := by omega
      refine (b3 k hk1).cg (a6 k hk1).hb (by have := (a6 (k - 1) (by omega)).hb; omega) (fun _ _ => rfl) rfl rfl rfl (p.2.2.2.1 k hk1) (fun j j1 j2 j3 => ⟨(hfr k hk1 j j1 j2).1.trans (p.2.2.2.2.2.2.2.2.2.2.1 k hk1 j (by omega)).1, (hfr k hk1 j j1 j2).2.trans (p.2.2.2.2.2.2.2.2.2.2.1 k hk1 j (by omega)).2⟩) ?_ (fun q q1 q2 => ?_) (fun _ _ => ⟨by simp only [fI_s, fI_sn, fL_s, fL_sn, aI_w, aI_wn, aL_w, aL_wn, fI_sL, fI_wI, fI_wL, fL_sI, fL_wI, fL_wL, aI_sI, aI_sL, aI_wL, aL_sI, aL_sL, aL_wI, fR_sI, fR_sL, fR_wI, fR_wL, aN_sI, aN_sL, aN_wI, aN_wL, ne_eq, Nat.reduceEqDiff, not_false_eq_true], by simp only [fI_s, fI_sn, fL_s, fL_sn, aI_w, aI_wn, aL_w, aL_wn, fI_sL, fI_wI, fI_wL, fL_sI, fL_wI, fL_wL, aI_sI, aI_sL, aI_wL, aL_sI, aL_sL, aL_wI, fR_sI, fR_sL, fR_wI, fR_wL, aN_sI, aN_sL, aN_wI, aN_wL, ne_eq, Nat.reduceEqDiff, not_false_eq_true]⟩)
      · simp only [fI_s, fI_sn, fL_s, fL_sn, aI_w, aI_wn, aL_w, aL_wn, fI_sL, fI_wI, fI_wL, fL_sI, fL_wI, fL_wL, aI_sI, aI_sL, aI_wL, aL_sI, aL_sL, aL_wI, fR_sI, fR_sL, fR_wI, fR_wL, aN_sI, aN_sL, aN_wI, aN_wL, ne_eq, Nat.reduceEqDiff, not_false_eq_true]; exact (b3 k hk1).2.1
      · exact ⟨by simp only [fI_s, fI_sn, fL_s, fL_sn, aI_w, aI_wn, aL_w, aL_wn, fI_sL, fI_wI, fI_wL, fL_sI, fL_wI, fL_wL, aI_sI, aI_sL, aI_wL, aL_sI, aL_sL, aL_wI, fR_sI, fR_sL, fR_wI, fR_wL, aN_sI, aN_sL, aN_wI, aN_wL, ne_eq, Nat.reduceEqDiff, not_false_eq_true, aI_wI, hkD, and_false, if_false], rfl⟩
  · rw [if_pos (show (0 : Int32) < nI r from nI_lt (a := 0) (by omega) (by omega))]
    rintro _ rfl _ rfl
    simp only [fI_s, fI_sn, fL_s, fL_sn, aI_w, aI_wn, aL_w, aL_wn, fI_sL, fI_wI, fI_wL, fL_sI, fL_wI, fL_wL, aI_sI, aI_sL, aI_wL, aL_sI, aL_sL, aL_wI, fR_sI, fR_sL, fR_wI, fR_wL, aN_sI, aN_sL, aN_wI, aN_wL, ne_eq, Nat.reduceEqDiff, not_false_eq_true]
    rw [c2, nI_1, nI_pr (by omega), ex]
    generalize hS3 : sI (sI S2 5 (F1 D) (nI (r - 1))) 3 (F1 D) (nI x) = S3
    have st3 : St S3 = St S1 := by rw [← hS3, ← hS2]; rfl
    have kw3 : Kws (PW A S0) S0 S3 := by rw [← hS3]; exact (kw2.sI w).sI w
    have hpg3 : Pg S3 S0 A B n N nd pc := sc.pg kw3 (p.2.1.st st3)
    have k3 : Keep jq rN S1 S3 := by rw [← hS3, ← hS2]; exact (((Keep.rf.sI rfl).sI rfl).sI rfl).sI rfl
    have hfr3 : ∀ i, i < D → ∀ j, 2 ≤ j → j ≤ 16 → fI S3 j (F i) = fI S1 j (F i) ∧ fL S3 j (F i) = fL S1 j (F i) := fun i hi j j1 j2 => by
      rw [← hS3, ← hS2]
      exact ⟨by rw [fI_sI, if_neg (fun y => hne i hi y.2), fI_sI, if_neg (fun y => hne i hi y.2), fI_sI, if_neg (fun y => hne i hi y.2), fI_sI, if_neg (fun y => hne i hi y.2)], rfl⟩
    have cJ : ∀ j, 24 < j → fI S3 j (A 3) = fI S j (A 3) := fun j hj => by rw [← hS3, ← hS2, fI_sn _ _ _ _ _ (by omega), fI_sn _ _ _ _ _ (by omega), fI_sn _ _ _ _ _ (by omega), fI_sn _ _ _ _ _ (by omega)]; exact p.2.2.2.2.2.2.2.1 j hj
    have cL : ∀ j, fL S3 j (A 3) = fL S j (A 3) := fun j => by rw [← hS3, ← hS2]; exact p.2.2.2.2.2.2.2.2.1 j
    have c : CpS S S3 S0 A ks D x (H (D - 1)) := by
      unfold CpS
      rw [cJ 26 (by decide), cJ 27 (by decide), cL 28, cL 29, cJ 30 (by decide), cJ 31 (by decide), cJ 32 (by decide), cL 33, cL 34, cJ 35 (by decide), cJ 36 (by decide), cJ 37 (by decide), cJ 38 (by decide), cJ 39 (by decide)]
      exact ⟨by rw [← hS3, ← hS2]; simp only [fI_s, fI_sn, fL_s, fL_sn, aI_w, aI_wn, aL_w, aL_wn, fI_sL, fI_wI, fI_wL, fL_sI, fL_wI, fL_wL, aI_sI, aI_sL, aI_wL, aL_sI, aL_sL, aL_wI, fR_sI, fR_sL, fR_wI, fR_wL, aN_sI, aN_sL, aN_wI, aN_wL, ne_eq, Nat.reduceEqDiff, not_false_eq_true]; exact p.2.2.2.2.2.2.1, rfl, rfl, rfl, rfl, (if_neg (by omega)).symm, (if_neg (by omega)).symm, (if_neg (by omega)).symm, (if_neg (by omega)).symm, (if_neg (by omega)).symm, (if_neg (by omega)).symm, (if_neg (by omega)).symm, (if_neg (by omega)).symm, (if_neg (by omega)).symm, (if_neg (by omega)).symm⟩
    have fr : FrC S3 S0 A N bh ks st (uq X D x) (uq Y D x) (uq C D x) (uq H D (H (D - 1))) F1 (uq VF D (VF (D - 1))) (uq TB D t) D :=
      FrC.blk x1 (by rw [← hS3]; simp only [fI_s, fI_sn, fL_s, fL_sn, aI_w, aI_wn, aL_w, aL_wn, fI_sL, fI_wI, fI_wL, fL_sI, fL_wI, fL_wL, aI_sI, aI_sL, aI_wL, aL_sI, aL_sL, aL_wI, fR_sI, fR_sL, fR_wI, fR_wL, aN_sI, aN_sL, aN_wI, aN_wL, ne_eq, Nat.reduceEqDiff, not_false_eq_true]; exact c2) (by rw [← hS3]; simp only [fI_s, fI_sn, fL_s, fL_sn, aI_w, aI_wn, aL_w, aL_wn, fI_sL, fI_wI, fI_wL, fL_sI, fL_wI, fL_wL, aI_sI, aI_sL, aI_wL, aL_sI, aL_sL, aL_wI, fR_sI, fR_sL, fR_wI, fR_wL, aN_sI, aN_sL, aN_wI, aN_wL, ne_eq, Nat.reduceEqDiff, not_false_eq_true]) (by rw [← hS3, ← hS2]; simp only [fI_s, fI_sn, fL_s, fL_sn, aI_w, aI_wn, aL_w, aL_wn, fI_sL, fI_wI, fI_wL, fL_sI, fL_wI, fL_wL, aI_sI, aI_sL, aI_wL, aL_sI, aL_sL, aL_wI, fR_sI, fR_sL, fR_wI, fR_wL, aN_sI, aN_sL, aN_wI, aN_wL, ne_eq, Nat.reduceEqDiff, not_false_eq_true]; exact p.2.2.2.2.2.2.2.2.2.1.2.2) (by omega) a3 (fun y => by omega) (fun _ => ⟨r - 1, by omega, by rw [← hS3]; simp only [fI_s, fI_sn, fL_s, fL_sn, aI_w, aI_wn, aL_w, aL_wn, fI_sL, fI_wI, fI_wL, fL_sI, fL_wI, fL_wL, aI_sI, aI_sL, aI_wL, aL_sI, aL_sL, aL_wI, fR_sI, fR_sL, fR_wI, fR_wL, aN_sI, aN_sL, aN_wI, aN_wL, ne_eq, Nat.reduceEqDiff, not_false_eq_true]⟩) (fun y => by omega)
    have cp3 := h'.push p k3 kw3 hfr3 (a5.push a3 c (fun y => by omega) (fun y => by omega) (fun _ => rfl) (fun y => by omega)) fk fr
    rw [if_neg (show ¬ ks x = 3 by omega)] at cp3
    refine s_pstep (p.2.1.st st3) hpg3 (by omega) (by rw [cJ 26 (by decide)]; exact hst.1) hst.2 (fun s1 => ?_) (fun s0 => ?_)
    · refine q2 s1 _ (cp3.stp s1) ?_
      intro R0 pc T wr sy g ow hr Sr rp Q3 hQ3
      refine rf R0 pc T wr sy g ow hr Sr rp Q3 (fun y => absurd y z) (fun _ _ => ?_) (fun _ y => by omega)
      obtain ⟨pl', p1', p2', ah'⟩ := hr.hd x1 x2 (by omega)
      have hb := (a6 (D - 1) (by omega)).hb
      have ss : RpS S3 (enS (wI Sr 89 (A 89) D (nI r)) A D (nI (g x)) (ow x) (hw S0 A ks X (H (D - 1)))) S0 A ks (D + 1) (uq X D x) := by
        refine rp.2.1.push a3 (R0 := R0) (gx := g x) c ?_ (fun _ => ⟨ah'.2.1, ah'.2.2.1⟩)
        exact ⟨by unfold enS; simp only [fI_s, fI_sn, fL_s, fL_sn, aI_w, aI_wn, aL_w, aL_wn, fI_sL, fI_wI, fI_wL, fL_sI, fL_wI, fL_wL, aI_sI, aI_sL, aI_wL, aL_sI, aL_sL, aL_wI, fR_sI, fR_sL, fR_wI, fR_wL, aN_sI, aN_sL, aN_wI, aN_wL, ne_eq, Nat.reduceEqDiff, not_false_eq_true, hk, reduceIte], by unfold enS; simp only [fI_s, fI_sn, fL_s, fL_sn, aI_w, aI_wn, aL_w, aL_wn, fI_sL, fI_wI, fI_wL, fL_sI, fL_wI, fL_wL, aI_sI, aI_sL, aI_wL, aL_sI, aL_sL, aL_wI, fR_sI, fR_sL, fR_wI, fR_wL, aN_sI, aN_sL, aN_wI, aN_wL, ne_eq, Nat.reduceEqDiff, not_false_eq_true], by unfold enS; simp only [fI_s, fI_sn, fL_s, fL_sn, aI_w, aI_wn, aL_w, aL_wn, fI_sL, fI_wI, fI_wL, fL_sI, fL_wI, fL_wL, aI_sI, aI_sL, aI_wL, aL_sI, aL_sL, aL_wI, fR_sI, fR_sL, fR_wI, fR_wL, aN_sI, aN_sL, aN_wI, aN_wL, ne_eq, Nat.reduceEqDiff, not_false_eq_true, hk, reduceIte], by unfold enS; simp only [fI_s, fI_sn, fL_s, fL_sn, aI_w, aI_wn, aL_w, aL_wn, fI_sL, fI_wI, fI_wL, fL_sI, fL_wI, fL_wL, aI_sI, aI_sL, aI_wL, aL_sI, aL_sL, aL_wI, fR_sI, fR_sL, fR_wI, fR_wL, aN_sI, aN_sL, aN_wI, aN_wL, ne_eq, Nat.reduceEqDiff, not_false_eq_true, hk, reduceIte], by unfold enS; simp only [fI_s, fI_sn, fL_s, fL_sn, aI_w, aI_wn, aL_w, aL_wn, fI_sL, fI_wI, fI_wL, fL_sI, fL_wI, fL_wL, aI_sI, aI_sL, aI_wL, aL_sI, aL_sL, aL_wI, fR_sI, fR_sL, fR_wI, fR_wL, aN_sI, aN_sL, aN_wI, aN_wL, ne_eq, Nat.reduceEqDiff, not_false_eq_true, hk, reduceIte], by unfold enS; simp only [fI_s, fI_sn, fL_s, fL_sn, aI_w, aI_wn, aL_w, aL_wn, fI_sL, fI_wI, fI_wL, fL_sI, fL_wI, fL_wL, aI_sI, aI_sL, aI_wL, aL_sI, aL_sL, aL_wI, fR_sI, fR_sL, fR_wI, fR_wL, aN_sI, aN_sL, aN_wI, aN_wL, ne_eq, Nat.reduceEqDiff, not_false_eq_true, hk, reduceIte], by unfold enS; simp only [fI_s, fI_sn, fL_s, fL_sn, aI_w, aI_wn, aL_w, aL_wn, fI_sL, fI_wI, fI_wL, fL_sI, fL_wI, fL_wL, aI_sI, aI_sL, aI_wL, aL_sI, aL_sL, aL_wI, fR_sI, fR_sL, fR_wI, fR_wL, aN_sI, aN_sL, aN_wI, aN_wL, ne_eq, Nat.reduceEqDiff, not_false_eq_true, hk, reduceIte], by unfold enS; simp only [fI_s, fI_sn, fL_s, fL_sn, aI_w, aI_wn, aL_w, aL_wn, fI_sL, fI_wI, fI_wL, fL_sI, fL_wI, fL_wL, aI_sI, aI_sL, aI_wL, aL_sI, aL_sL, aL_wI, fR_sI, fR_sL, fR_wI, fR_wL, aN_sI, aN_sL, aN_wI, aN_wL, ne_eq, Nat.reduceEqDiff, not_false_eq_true, hk, reduceIte], by unfold enS; simp only [fI_s, fI_sn, fL_s, fL_sn, aI_w, aI_wn, aL_w, aL_wn, fI_sL, fI_wI, fI_wL, fL_sI, fL_wI, fL_wL, aI_sI, aI_sL, aI_wL, aL_sI, aL_sL, aL_wI, fR_sI, fR_sL, fR_wI, fR_wL, aN_sI, aN_sL, aN_wI, aN_wL, ne_eq, Nat.reduceEqDiff, not_false_eq_true, hk, reduceIte], by unfold enS; simp only [fI_s, fI_sn, fL_s, fL_sn, aI_w, aI_wn, aL_w, aL_wn, fI_sL, fI_wI, fI_wL, fL_sI, fL_wI, fL_wL, aI_sI, aI_sL, aI_wL, aL_sI, aL_sL, aL_wI, fR_sI, fR_sL, fR_wI, fR_wL, aN_sI, aN_sL, aN_wI, aN_wL, ne_eq, Nat.reduceEqDiff, not_false_eq_true, hk, reduceIte], by unfold enS; simp only [fI_s, fI_sn, fL_s, fL_sn, aI_w, aI_wn, aL_w, aL_wn, fI_sL, fI_wI, fI_wL, fL_sI, fL_wI, fL_wL, aI_sI, aI_sL, aI_wL, aL_sI, aL_sL, aL_wI, fR_sI, fR_sL, fR_wI, fR_wL, aN_sI, aN_sL, aN_wI, aN_wL, ne_eq, Nat.reduceEqDiff, not_false_eq_true, hk, reduceIte], by unfold enS; simp only [fI_s, fI_sn, fL_s, fL_sn, aI_w, aI_wn, aL_w, aL_wn, fI_sL, fI_wI, fI_wL, fL_sI, fL_wI, fL_wL, aI_sI, aI_sL, aI_wL, aL_sI, aL_sL, aL_wI, fR_sI, fR_sL, fR_wI, fR_wL, aN_sI, aN_sL, aN_wI, aN_wL, ne_eq, Nat.reduceEqDiff, not_false_eq_true, hk, reduceIte], by unfold enS; simp only [fI_s, fI_sn, fL_s, fL_sn, aI_w, aI_wn, aL_w, aL_wn, fI_sL, fI_wI, fI_wL, fL_sI, fL_wI, fL_wL, aI_sI, aI_sL, aI_wL, aL_sI, aL_sL, aL_wI, fR_sI, fR_sL, fR_wI, fR_wL, aN_sI, aN_sL, aN_wI, aN_wL, ne_eq, Nat.reduceEqDiff, not_false_eq_true, hk, reduceIte], by unfold enS; simp only [fI_s, fI_sn, fL_s, fL_sn, aI_w, aI_wn, aL_w, aL_wn, fI_sL, fI_wI, fI_wL, fL_sI, fL_wI, fL_wL, aI_sI, aI_sL, aI_wL, aL_sI, aL_sL, aL_wI, fR_sI, fR_sL, fR_wI, fR_wL, aN_sI, aN_sL, aN_wI, aN_wL, ne_eq, Nat.reduceEqDiff, not_false_eq_true, hk, reduceIte], by unfold enS; simp only [fI_s, fI_sn, fL_s, fL_sn, aI_w, aI_wn, aL_w, aL_wn, fI_sL, fI_wI, fI_wL, fL_sI, fL_wI, fL_wL, aI_sI, aI_sL, aI_wL, aL_sI, aL_sL, aL_wI, fR_sI, fR_sL, fR_wI, fR_wL, aN_sI, aN_sL, aN_wI, aN_wL, ne_eq, Nat.reduceEqDiff, not_false_eq_true, hk, reduceIte], by unfold enS; simp only [fI_s, fI_sn, fL_s, fL_sn, aI_w, aI_wn, aL_w, aL_wn, fI_sL, fI_wI, fI_wL, fL_sI, fL_wI, fL_wL, aI_sI, aI_sL, aI_wL, aL_sI, aL_sL, aL_wI, fR_sI, fR_sL, fR_wI, fR_wL, aN_sI, aN_sL, aN_wI, aN_wL, ne_eq, Nat.reduceEqDiff, not_false_eq_true]; rw [rp.2.1.2.2.2.2.2.2.2.2.2.2.2.2.2.2.2, if_neg hpn]; rfl⟩
      have kr : KPf R0 (sI (wI Sr 89 (A 89) D (nI r)) 154 (A 9) (nI (st + 1))) := (rp.1.wI rfl).sI rfl
      have k4 : Keep jq rN S1 (sI S3 26 (A 3) (nI (st + 1))) := k3.sI rfl
      have hfr4 : ∀ i, i < D → ∀ j, 2 ≤ j → j ≤ 16 → fI (sI S3 26 (A 3) (nI (st + 1))) j (F i) = fI S1 j (F i) ∧ fL (sI S3 26 (A 3) (nI (st + 1))) j (F i) = fL S1 j (F i) := fun i hi j j1 j2 => ⟨by rw [fI_sn _ _ _ _ _ (by omega)]; exact (hfr3 i hi j j1 j2).1, (hfr3 i hi j j1 j2).2⟩
      refine hQ3 _ (rp.push h' p k4 hfr4 kr.en ?_ ?_ (fun k hk r r1 r2 => ?_) (fun i hi => ?_) (RpF.blk hr hx' a3 (by omega) kr (by simp only [fI_s, fI_sn, fL_s, fL_sn, aI_w, aI_wn, aL_w, aL_wn, fI_sL, fI_wI, fI_wL, fL_sI, fL_wI, fL_wL, aI_sI, aI_sL, aI_wL, aL_sI, aL_sL, aL_wI, fR_sI, fR_sL, fR_wI, fR_wL, aN_sI, aN_sL, aN_wI, aN_wL, ne_eq, Nat.reduceEqDiff, not_false_eq_true]; rw [rp.1.a rfl]) (fun _ => ⟨fun y => by omega, fun _ => ?_, fun y => by omega⟩) (by omega)))
      · have := ss.stp (v := nI (st + 1))
        unfold enS at this ⊢
        unfold RpS at this ⊢
        simp only [fI_s, fI_sn, fL_s, fL_sn, aI_w, aI_wn, aL_w, aL_wn, fI_sL, fI_wI, fI_wL, fL_sI, fL_wI, fL_wL, aI_sI, aI_sL, aI_wL, aL_sI, aL_sL, aL_wI, fR_sI, fR_sL, fR_wI, fR_wL, aN_sI, aN_sL, aN_wI, aN_wL, ne_eq, Nat.reduceEqDiff, not_false_eq_true] at this ⊢
        exact this
      · unfold enS
        exact ⟨⟨by simp only [fI_s, fI_sn, fL_s, fL_sn, aI_w, aI_wn, aL_w, aL_wn, fI_sL, fI_wI, fI_wL, fL_sI, fL_wI, fL_wL, aI_sI, aI_sL, aI_wL, aL_sI, aL_sL, aL_wI, fR_sI, fR_sL, fR_wI, fR_wL, aN_sI, aN_sL, aN_wI, aN_wL, ne_eq, Nat.reduceEqDiff, not_false_eq_true], by simp only [fI_s, fI_sn, fL_s, fL_sn, aI_w, aI_wn, aL_w, aL_wn, fI_sL, fI_wI, fI_wL, fL_sI, fL_wI, fL_wL, aI_sI, aI_sL, aI_wL, aL_sI, aL_sL, aL_wI, fR_sI, fR_sL, fR_wI, fR_wL, aN_sI, aN_sL, aN_wI, aN_wL, ne_eq, Nat.reduceEqDiff, not_false_eq_true], by simp only [fI_s, fI_sn, fL_s, fL_sn, aI_w, aI_wn, aL_w, aL_wn, fI_sL, fI_wI, fI_wL, fL_sI, fL_wI, fL_wL, aI_sI, aI_sL, aI_wL, aL_sI, aL_sL, aL_wI, fR_sI, fR_sL, fR_wI, fR_wL, aN_sI, aN_sL, aN_wI, aN_wL, ne_eq, Nat.reduceEqDiff, not_false_eq_true]⟩, fun r r1 r2 => ⟨by (have : r ≠ 86 ∧ r ≠ 87 ∧ r ≠ 88 ∧ r ≠ 89 ∧ r ≠ 92 := by omega); simp only [fI_s, fI_sn, fL_s, fL_sn, aI_w, aI_wn, aL_w, aL_wn, fI_sL, fI_wI, fI_wL, fL_sI, fL_wI, fL_wL, aI_sI, aI_sL, aI_wL, aL_sI, aL_sL, aL_wI, fR_sI, fR_sL, fR_wI, fR_wL, aN_sI, aN_sL, aN_wI, aN_wL, ne_eq, Nat.reduceEqDiff, not_false_eq_true, aI_wn _ _ _ _ _ r this.1, aI_wn _ _ _ _ _ r this.2.1, aI_wn _ _ _ _ _ r this.2.2.1, aI_wn _ _ _ _ _ r this.2.2.2.1, aI_wn _ _ _ _ _ r this.2.2.2.2], rfl⟩⟩
      · unfold enS
        have hne : k ≠ D := by omega
        exact ⟨by simp only [fI_s, fI_sn, fL_s, fL_sn, aI_w, aI_wn, aL_w, aL_wn, fI_sL, fI_wI, fI_wL, fL_sI, fL_wI, fL_wL, aI_sI, aI_sL, aI_wL, aL_sI, aL_sL, aL_wI, fR_sI, fR_sL, fR_wI, fR_wL, aN_sI, aN_sL, aN_wI, aN_wL, ne_eq, Nat.reduceEqDiff, not_false_eq_true, aI_wI, hne, and_false, if_false], rfl⟩
      · unfold enS
        exact ⟨by simp only [fI_s, fI_sn, fL_s, fL_sn, aI_w, aI_wn, aL_w, aL_wn, fI_sL, fI_wI, fI_wL, fL_sI, fL_wI, fL_wL, aI_sI, aI_sL, aI_wL, aL_sI, aL_sL, aL_wI, fR_sI, fR_sL, fR_wI, fR_wL, aN_sI, aN_sL, aN_wI, aN_wL, ne_eq, Nat.reduceEqDiff, not_false_eq_true], by simp only [fI_s, fI_sn, fL_s, fL_sn, aI_w, aI_wn, aL_w, aL_wn, fI_sL, fI_wI, fI_wL, fL_sI, fL_wI, fL_wL, aI_sI, aI_sL, aI_wL, aL_sI, aL_sL, aL_wI, fR_sI, fR_sL, fR_wI, fR_wL, aN_sI, aN_sL, aN_wI, aN_wL, ne_eq, Nat.reduceEqDiff, not_false_eq_true]⟩
      · simp only [fI_s, fI_sn, fL_s, fL_sn, aI_w, aI_wn, aL_w, aL_wn, fI_sL, fI_wI, fI_wL, fL_sI, fL_wI, fL_wL, aI_sI, aI_sL, aI_wL, aL_sI, aL_sL, aL_wI, fR_sI, fR_sL, fR_wI, fR_wL, aN_sI, aN_sL, aN_wI, aN_wL, ne_eq, Nat.reduceEqDiff, not_false_eq_true]
        rw [uq_at, ← hS3]
        simp only [fI_s, fI_sn, fL_s, fL_sn, aI_w, aI_wn, aL_w, aL_wn, fI_sL, fI_wI, fI_wL, fL_sI, fL_wI, fL_wL, aI_sI, aI_sL, aI_wL, aL_sI, aL_sL, aL_wI, fR_sI, fR_sL, fR_wI, fR_wL, aN_sI, aN_sL, aN_wI, aN_wL, ne_eq, Nat.reduceEqDiff, not_false_eq_true]
        rw [nI_1]
        congr 1; omega
    · rw [pl2]
      refine q3 s0 _ pl (CBad.mk (kdm (by decide) (by decide)) kw3 (p.2.1.st st3) (p.2.2.1.st st3)) ?_
      intro R0 pc T wr sy g ow hr Sr rp Q3 hQ3
      refine rf R0 pc T wr sy g ow hr Sr rp Q3 (fun y => absurd y z) (fun _ y => by omega) (fun _ _ pl' p' Sr1 rb => ?_)
      obtain ⟨q, q1, q2, q3, _⟩ := hr.pl x1 x2 (by omega)
      refine hQ3 Sr1 ⟨rb.1, rb.2.1, ?_⟩
      have e1 : nI pl' = nI pl := by rw [← p', q3, ← q2, pl2]
      exact rb.2.2.trans e1
end
