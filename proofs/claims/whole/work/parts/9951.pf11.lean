/-! Performing: the rounds of an R. -/
section
variable {S S1 S2 S0 Sr Sr1 Sr2 R0 : PS} {A : Nat → Nat} {B : Nat → Int32} {n N nd pc : Nat} {bh par ks lv g ow : Nat → Nat}
variable {D m st E V M t ln sy x : Nat} {lp : Int} {X Y C H F VF TB : Nat → Nat}
/-- another round: a step, the list from its beginning -/
def rdS (S : PS) (A F : Nat → Nat) (k st x r : Nat) : PS := sI (sI (sI S 5 (F k) (nI r)) 3 (F k) (nI x)) 26 (A 3) (nI (st + 1))
theorem CBad.mk {k0 pl : Nat} (hk : Kd (k0, pl)) (a1 : Kws (PW A S0) S0 S) (a2 : PfL S A) (a4 : PfA S A D m F) : CBad S0 (sI (sI S 0 (A 0) (nI k0)) 1 (A 0) (nI pl)) A m F (k0, pl) := by
  have := a4.st (S1 := sI (sI S 0 (A 0) (nI k0)) 1 (A 0) (nI pl)) rfl
  exact ⟨hk, kws_bad a1, a2.st rfl, ⟨this.1, this.2.1, this.2.2.1, Nat.zero_le _, this.2.2.2.2⟩, by simp only [fI_s, fI_sn, fL_s, fL_sn, aI_w, aI_wn, aL_w, aL_wn, fI_sL, fI_wI, fI_wL, fL_sI, fL_wI, fL_wL, aI_sI, aI_sL, aI_wL, aL_sI, aL_sL, aL_wI, fR_sI, fR_sL, fR_wI, fR_wL, aN_sI, aN_sL, aN_wI, aN_wL, ne_eq, Nat.reduceEqDiff, not_false_eq_true], by simp only [fI_s, fI_sn, fL_s, fL_sn, aI_w, aI_wn, aL_w, aL_wn, fI_sL, fI_wI, fI_wL, fL_sI, fL_wI, fL_wL, aI_sI, aI_sL, aI_wL, aL_sI, aL_sL, aL_wI, fR_sI, fR_sL, fR_wI, fR_wL, aN_sI, aN_sL, aN_wI, aN_wL, ne_eq, Nat.reduceEqDiff, not_false_eq_true]⟩
theorem s_pstep {Q : Int32 → PS → Prop} {e : Nat} (a2 : PfL S A) (hpg : Pg S S0 A B n N nd pc) (he : e < N) (hs : fI S 26 (A 3) = nI st) (hb : st ≤ 3000) (h1 : st < 3000 → Q 1 (sI S 26 (A 3) (nI (st + 1)))) (h0 : st = 3000 → Q 0 (sI (sI S 0 (A 0) 5) 1 (A 0) (aI S0 16 (A 16) e))) : wp_X3_step (A 3) (nI e) S Q := by
  unfold wp_X3_step
  rw [hs, show (3000 : Int32) = nI 3000 from rfl]
  by_cases c : st = 3000
  · rw [if_neg (by rw [c]; decide)]
    exact s_ptell a2 hpg he (h0 c)
  · rw [if_pos (nI_lt (by omega) (by omega)), nI_1]
    rintro _ rfl
    exact h1 (by omega)
/-- the class's frame of an R at its next round -/
theorem CPf.round {r : Nat} (sc : StC S0 A B n pc N nd bh par ks lv) (h : CPf S S0 A B n N nd bh par ks lv D m st E V M t ln lp X Y C H F VF TB) (hD : 2 ≤ D) (hk : ks (X (D - 1)) = 4) (hr : r ≤ 50) (hs : st < 3000) : CPf (rdS S A F (D - 1) st (X (D - 1)) r) S0 A B n N nd bh par ks lv D m (st + 1) E V M t ln lp X Y (uq C (D - 1) (X (D - 1))) H F VF TB := by
  obtain ⟨a1, a2, ⟨a3, a4⟩, a5, a6, a7, a8, a9, a10⟩ := h
  have f := a6 (D - 1) (by omega)
  have tr := sc.2.2.2.2.1
  have w : PW A S0 (F (D - 1)) ∨ F (D - 1) ∉ pL S0 := PW.fr a1.1 (a4.1 (D - 1) (by have := a4.2.2.2.1; omega)).2
  refine ⟨((a1.sI w).sI w).sI (PW.at rfl), a2.st rfl, ⟨a3, a4.st rfl⟩, a5.step hs (fun j j1 j2 => ?_) (fun j => rfl) ?_, fun k hk1 => ?_, fun k hk1 => ?_, a8, a9.eq ?_, a10.eq ?_⟩
  · unfold rdS; rw [fI_sn _ _ _ _ _ j1, fI_sn _ _ _ _ _ (by omega), fI_sn _ _ _ _ _ (by omega)]
  · unfold rdS; simp only [fI_s, fI_sn, fL_s, fL_sn, aI_w, aI_wn, aL_w, aL_wn, fI_sL, fI_wI, fI_wL, fL_sI, fL_wI, fL_wL, aI_sI, aI_sL, aI_wL, aL_sI, aL_sL, aL_wI, fR_sI, fR_sL, fR_wI, fR_wL, aN_sI, aN_sL, aN_wI, aN_wL, ne_eq, Nat.reduceEqDiff, not_false_eq_true]
  · by_cases e : k = D - 1
    · subst e
      obtain ⟨b1, b2, b3, b4, b5, b6, b7⟩ := f
      obtain ⟨x1, x2, x3, x4⟩ := b6 (by omega)
      have hy : Y (D - 1) = X (D - 1) := x4.elim (fun z => z.2.1) (fun z => z.elim (fun z => by omega) (fun z => by omega))
      have tx := tr.1 _ x1 x2
      refine ⟨b1, ?_, fun z => ?_, b4, b5, b6, b7⟩
      · rw [uq_at, hy, bn_pos x1]; exact tx.2.1
      · rw [uq_at] at z ⊢
        rw [hy] at z ⊢
        exact tr.2.1 _ (by rw [bn_pos x1] at z; omega) z
    · exact (a6 k hk1).cg (fun _ _ => rfl) (fun _ _ => rfl) (uq_ne e) (fun _ _ => rfl)
  · by_cases e : k = D - 1
    · subst e
      obtain ⟨c1, c2, c3, c4⟩ := a7 (D - 1) hk1
      refine ⟨by unfold rdS; simp only [fI_s, fI_sn, fL_s, fL_sn, aI_w, aI_wn, aL_w, aL_wn, fI_sL, fI_wI, fI_wL, fL_sI, fL_wI, fL_wL, aI_sI, aI_sL, aI_wL, aL_sI, aL_sL, aL_wI, fR_sI, fR_sL, fR_wI, fR_wL, aN_sI, aN_sL, aN_wI, aN_wL, ne_eq, Nat.reduceEqDiff, not_false_eq_true]; exact c1, by unfold rdS; simp only [fI_s, fI_sn, fL_s, fL_sn, aI_w, aI_wn, aL_w, aL_wn, fI_sL, fI_wI, fI_wL, fL_sI, fL_wI, fL_wL, aI_sI, aI_sL, aI_wL, aL_sI, aL_sL, aL_wI, fR_sI, fR_sL, fR_wI, fR_wL, aN_sI, aN_sL, aN_wI, aN_wL, ne_eq, Nat.reduceEqDiff, not_false_eq_true]; rw [uq_at], by unfold rdS; simp only [fI_s, fI_sn, fL_s, fL_sn, aI_w, aI_wn, aL_w, aL_wn, fI_sL, fI_wI, fI_wL, fL_sI, fL_wI, fL_wL, aI_sI, aI_sL, aI_wL, aL_sI, aL_sL, aL_wI, fR_sI, fR_sL, fR_wI, fR_wL, aN_sI, aN_sL, aN_wI, aN_wL, ne_eq, Nat.reduceEqDiff, not_false_eq_true]; exact c3, fun z => ?_⟩
      obtain ⟨d1, d2, d3, d4, d5, d6⟩ := c4 z
      exact ⟨fun y => by omega, fun _ => ⟨r, hr, by unfold rdS; simp only [fI_s, fI_sn, fL_s, fL_sn, aI_w, aI_wn, aL_w, aL_wn, fI_sL, fI_wI, fI_wL, fL_sI, fL_wI, fL_wL, aI_sI, aI_sL, aI_wL, aL_sI, aL_sL, aL_wI, fR_sI, fR_sL, fR_wI, fR_wL, aN_sI, aN_sL, aN_wI, aN_wL, ne_eq, Nat.reduceEqDiff, not_false_eq_true]⟩, fun y => by omega, fun y => by omega, fun y => by omega, d6⟩
    · have hne : F k ≠ F (D - 1) := a4.ne (by have := a4.2.2.2.1; omega) (by have := a4.2.2.2.1; omega) e
      refine (a7 k hk1).cg (by omega) (fun _ _ => rfl) rfl (fun _ _ => rfl) rfl (fun _ _ => rfl) rfl ?_ (fun j j1 j2 j3 => ?_)
      · unfold rdS
        rw [fI_sn _ _ _ _ _ (by decide), fI_sI, if_neg (fun z => hne z.2), fI_sn _ _ _ _ _ (by decide), uq_ne e]; exact (a7 k hk1).2.1
      · unfold rdS
        exact ⟨by rw [fI_sn _ _ _ _ _ (by omega), fI_sn _ _ _ _ _ j3, fI_sI, if_neg (fun z => hne z.2)], rfl⟩
  · unfold rdS; exact ⟨by simp only [fI_s, fI_sn, fL_s, fL_sn, aI_w, aI_wn, aL_w, aL_wn, fI_sL, fI_wI, fI_wL, fL_sI, fL_wI, fL_wL, aI_sI, aI_sL, aI_wL, aL_sI, aL_sL, aL_wI, fR_sI, fR_sL, fR_wI, fR_wL, aN_sI, aN_sL, aN_wI, aN_wL, ne_eq, Nat.reduceEqDiff, not_false_eq_true], fun r _ _ => ⟨rfl, rfl⟩⟩
  · unfold rdS; exact ⟨by simp only [fI_s, fI_sn, fL_s, fL_sn, aI_w, aI_wn, aL_w, aL_wn, fI_sL, fI_wI, fI_wL, fL_sI, fL_wI, fL_wL, aI_sI, aI_sL, aI_wL, aL_sI, aL_sL, aL_wI, fR_sI, fR_sL, fR_wI, fR_wL, aN_sI, aN_sL, aN_wI, aN_wL, ne_eq, Nat.reduceEqDiff, not_false_eq_true], by simp only [fI_s, fI_sn, fL_s, fL_sn, aI_w, aI_wn, aL_w, aL_wn, fI_sL, fI_wI, fI_wL, fL_sI, fL_wI, fL_wL, aI_sI, aI_sL, aI_wL, aL_sI, aL_sL, aL_wI, fR_sI, fR_sL, fR_wI, fR_wL, aN_sI, aN_sL, aN_wI, aN_wL, ne_eq, Nat.reduceEqDiff, not_false_eq_true], fun r _ _ => ⟨rfl, rfl⟩⟩
/-- the end of a list of an R -/
theorem e_rounds {Q : Int32 → PS → Prop} (sc : StC S0 A B n pc N nd bh par ks lv) (h : CPf S S0 A B n N nd bh par ks lv D m st E V M t ln lp X Y C H F VF TB) (hD : 2 ≤ D) (hk : ks (X (D - 1)) = 4)
    (hQ : ∀ S2, CPf S2 S0 A B n N nd bh par ks lv (D - 1) m st E V M t ln lp X Y C H F VF TB → GoL S0 A B n N nd bh par ks S D E V M X Y C H F S2 (D - 1) E V M X Y C H F → Q 1 S2)
    (hR : st < 3000 → ∀ S2, CPf S2 S0 A B n N nd bh par ks lv D m (st + 1) E V M t ln lp X Y (uq C (D - 1) (X (D - 1))) H F VF TB → GoL S0 A B n N nd bh par ks S D E V M X Y C H F S2 D E V M X Y (uq C (D - 1) (X (D - 1))) H F → Q 1 S2)
    (hF : st = 3000 → ∀ S2 pl, CBad S0 S2 A m F (5, pl) → GoLF S0 A B n N nd bh par ks S D E V M X Y C H F (5, pl) → Q 0 S2) : wp_X3_end (A 3) (F (D - 1)) S Q := by
  have h' := h
  obtain ⟨a1, a2, ⟨a3, a4⟩, a5, a6, a7, a8, a9, a10⟩ := h
  have fk := (a6 (D - 1) (by omega)).2.2.2.2.2.1 (by omega)
  obtain ⟨x1, x2, x3, x4⟩ := fk
  obtain ⟨c1, c2, c3, c4⟩ := a7 (D - 1) (by omega)
  have c4 := c4 (by omega)
  have hpg := sc.pg a1 a2
  obtain ⟨R00, T0, wr0, sy0, g0, ow0, r0⟩ := sc.rsr
  obtain ⟨pl, pl1, pl2, ah⟩ := r0.hd x1 x2 (by omega)
  have hB : B pl = 82 := by
    obtain ⟨y1, _⟩ := ah
    rcases y1 with ⟨_, z, _⟩ | ⟨z, _⟩
    · omega
    · rcases z with ⟨q, z⟩ | ⟨q, z⟩ | ⟨q, z⟩ | ⟨q, z⟩
      all_goals first | exact q | omega
  have hpn : ¬ pn S0 A ks (X (D - 1)) = true := by unfold pn; rw [decide_eq_true_iff]; omega
  have e2 : D - 1 - 1 = D - 2 := by omega
  have hy : Y (D - 1) = X (D - 1) := x4.elim (fun z => z.2.1) (fun z => z.elim (fun z => by omega) (fun z => by omega))
  rw [hz_pos x1] at c1
  obtain ⟨r, r1, r2⟩ := c4.2.1 hk
  have d201 := a4.2.2.2
  have hst := a5.2.1
  -- the reference's own part
  have rf : ∀ R0 pc T wr sy g ow, RSR S0 R0 A B n N nd bh par ks pc T wr sy g ow → ∀ Sr, RPf S Sr S0 R0 A B n sy N bh ks g ow D E V M X Y C H F → ∀ Q : PS → Prop,
      (r = 0 → Q (sI (wI Sr 89 (A 89) (D - 1) (nI r)) 188 (A 9) (nI (D - 1)))) → (r ≠ 0 → st < 3000 → Q (wI (sI (wI Sr 89 (A 89) (D - 1) (nI r)) 154 (A 9) (nI (st + 1))) 86 (A 86) (D - 1) (aI R0 46 (A 46) (ow (X (D - 1)))))) →
      (r ≠ 0 → st = 3000 → ∀ pl', aI R0 43 (A 43) (g (X (D - 1))) = nI pl' → ∀ Sr1, RBad R0 Sr1 A (5, pl') → Q Sr1) → wp_X12_leave (A 9) (nI (D - 1)) (nI (g (X (D - 1)))) Sr Q := by
    intro R0 pc T wr sy g ow hr Sr rp Q q1 q2 q3
    have lm := rp.1.lay hr.1
    obtain ⟨at1, gx, owx⟩ := hr.at x1 x2
    have rf := (rp.2.2.1 (D - 1) (by omega)).2.2.2.2 (by omega)
    have e89 : aI Sr 89 (A 89) (D - 1) - 1 = nI r := by rw [rf.2.1 hk, r2, Int32.add_sub_cancel]
    have e92 := (rp.2.2.1 (D - 1) (by omega)).2.2.1
    rw [hy] at e92
    unfold wp_X12_leave
    rw [if_neg (nI_ne_neg (by omega))]
    refine ⟨_, lm.f105, by rw [lm.n42]; exact vp_in_nI gx (by omega), ?_⟩
    intro K hK
    rw [nI_clamp (by omega), rp.1.a rfl, hr.sort x1 x2, hk, if_neg (by decide), if_pos (by decide)]
    refine ⟨_, lm.f176, by rw [lm.n89]; exact vp_in_nI (by omega) (by omega), by rw [lm.n89]; exact vp_in_nI (by omega) (by omega), ?_⟩
    rw [nI_clamp (by omega), e89]
    rintro _ rfl
    have lm1 : LayM (wI Sr 89 (A 89) (D - 1) (nI r)) A := lm.st rfl
    refine ⟨_, lm.f176, by simp only [fI_s, fI_sn, fL_s, fL_sn, aI_w, aI_wn, aL_w, aL_wn, fI_sL, fI_wI, fI_wL, fL_sI, fL_wI, fL_wL, aI_sI, aI_sL, aI_wL, aL_sI, aL_sL, aL_wI, fR_sI, fR_sL, fR_wI, fR_wL, aN_sI, aN_sL, aN_wI, aN_wL, ne_eq, Nat.reduceEqDiff, not_false_eq_true]; rw [lm.n89]; exact vp_in_nI (by omega) (by omega), ?_⟩
    simp only [fI_s, fI_sn, fL_s, fL_sn, aI_w, aI_wn, aL_w, aL_wn, fI_sL, fI_wI, fI_wL, fL_sI, fL_wI, fL_wL, aI_sI, aI_sL, aI_wL, aL_sI, aL_sL, aL_wI, fR_sI, fR_sL, fR_wI, fR_wL, aN_sI, aN_sL, aN_wI, aN_wL, ne_eq, Nat.reduceEqDiff, not_false_eq_true]
    rw [uq_at]
    by_cases z : r = 0
    · rw [if_pos (by rw [z]; decide)]
      apply hK
      rintro _ rfl
      simp only [fI_s, fI_sn, fL_s, fL_sn, aI_w, aI_wn, aL_w, aL_wn, fI_sL, fI_wI, fI_wL, fL_sI, fL_wI, fL_wL, aI_sI, aI_sL, aI_wL, aL_sI, aL_sL, aL_wI, fR_sI, fR_sL, fR_wI, fR_wL, aN_sI, aN_sL, aN_wI, aN_wL, ne_eq, Nat.reduceEqDiff, not_false_eq_true]
      rw [rp.2.1.2.1, nI_pr (by omega)]
      exact q1 z
    · rw [if_neg (nI_nle (by omega) (by omega))]
      obtain ⟨pl', p1, p2, p3, _⟩ := hr.pl x1 x2 (by omega)
      refine r_pstep lm1 gx (by simp only [fI_s, fI_sn, fL_s, fL_sn, aI_w, aI_wn, aL_w, aL_wn, fI_sL, fI_wI, fI_wL, fL_sI, fL_wI, fL_wL, aI_sI, aI_sL, aI_wL, aL_sI, aL_sL, aL_wI, fR_sI, fR_sL, fR_wI, fR_wL, aN_sI, aN_sL, aN_wI, aN_wL, ne_eq, Nat.reduceEqDiff, not_false_eq_true]; rw [rp.2.1.2.2.1]; exact hst.1) hst.2 (by simp only [fI_s, fI_sn, fL_s, fL_sn, aI_w, aI_wn, aL_w, aL_wn, fI_sL, fI_wI, fI_wL, fL_sI, fL_wI, fL_wL, aI_sI, aI_sL, aI_wL, aL_sI, aL_sL, aL_wI, fR_sI, fR_sL, fR_wI, fR_wL, aN_sI, aN_sL, aN_wI, aN_wL, ne_eq, Nat.reduceEqDiff, not_false_eq_true]; exact rp.2.1.1) (by simp only [fI_s, fI_sn, fL_s, fL_sn, aI_w, aI_wn, aL_w, aL_wn, fI_sL, fI_wI, fI_wL, fL_sI, fL_wI, fL_wL, aI_sI, aI_sL, aI_wL, aL_sI, aL_sL, aL_wI, fR_sI, fR_sL, fR_wI, fR_wL, aN_sI, aN_sL, aN_wI, aN_wL, ne_eq, Nat.reduceEqDiff, not_false_eq_true]; rw [rp.1.a rfl]; exact p3) (fun s1 => ?_) (fun s0 => ?_)
      · refine ⟨_, lm.f173, _, lm.f109, _, lm.f179, by simp only [fI_s, fI_sn, fL_s, fL_sn, aI_w, aI_wn, aL_w, aL_wn, fI_sL, fI_wI, fI_wL, fL_sI, fL_wI, fL_wL, aI_sI, aI_sL, aI_wL, aL_sI, aL_sL, aL_wI, fR_sI, fR_sL, fR_wI, fR_wL, aN_sI, aN_sL, aN_wI, aN_wL, ne_eq, Nat.reduceEqDiff, not_false_eq_true]; rw [lm.n92]; exact vp_in_nI (by omega) (by omega), ?_⟩
        simp only [fI_s, fI_sn, fL_s, fL_sn, aI_w, aI_wn, aL_w, aL_wn, fI_sL, fI_wI, fI_wL, fL_sI, fL_wI, fL_wL, aI_sI, aI_sL, aI_wL, aL_sI, aL_sL, aL_wI, fR_sI, fR_sL, fR_wI, fR_wL, aN_sI, aN_sL, aN_wI, aN_wL, ne_eq, Nat.reduceEqDiff, not_false_eq_true]
        rw [e92]
        refine ⟨by rw [lm.n46]; exact vp_in_nI owx (by omega), by rw [lm.n86]; exact vp_in_nI (by omega) (by omega), ?_⟩
        rintro _ rfl
        rw [nI_clamp (by omega), rp.1.a rfl]
        exact q2 z s1
      · -- a fault: what follows writes pItem alone
        refine ⟨_, lm.f173, _, lm.f109, _, lm.f179, by simp only [fI_s, fI_sn, fL_s, fL_sn, aI_w, aI_wn, aL_w, aL_wn, fI_sL, fI_wI, fI_wL, fL_sI, fL_wI, fL_wL, aI_sI, aI_sL, aI_wL, aL_sI, aL_sL, aL_wI, fR_sI, fR_sL, fR_wI, fR_wL, aN_sI, aN_sL, aN_wI, aN_wL, ne_eq, Nat.reduceEqDiff, not_false_eq_true]; rw [lm.n92]; exact vp_in_nI (by omega) (by omega), ?_⟩
        simp only [fI_s, fI_sn, fL_s, fL_sn, aI_w, aI_wn, aL_w, aL_wn, fI_sL, fI_wI, fI_wL, fL_sI, fL_wI, fL_wL, aI_sI, aI_sL, aI_wL, aL_sI, aL_sL, aL_wI, fR_sI, fR_sL, fR_wI, fR_wL, aN_sI, aN_sL, aN_wI, aN_wL, ne_eq, Nat.reduceEqDiff, not_false_eq_true]
        rw [e92]
        refine ⟨by rw [lm.n46]; exact vp_in_nI owx (by omega), by rw [lm.n86]; exact vp_in_nI (by omega) (by omega), ?_⟩
        rintro _ rfl
        exact q3 z s0 pl' p3 _ ⟨(((rp.1.wI rfl).sI rfl).sI rfl).wI rfl, by simp only [fI_s, fI_sn, fL_s, fL_sn, aI_w, aI_wn, aL_w, aL_wn, fI_sL, fI_wI, fI_wL, fL_sI, fL_wI, fL_wL, aI_sI, aI_sL, aI_wL, aL_sI, aL_sL, aL_wI, fR_sI, fR_sL, fR_wI, fR_wL, aN_sI, aN_sL, aN_wI, aN_wL, ne_eq, Nat.reduceEqDiff, not_false_eq_true]; rfl, by simp only [fI_s, fI_sn, fL_s, fL_sn, aI_w, aI_wn, aL_w, aL_wn, fI_sL, fI_wI, fI_wL, fL_sI, fL_wI, fL_wL, aI_sI, aI_sL, aI_wL, aL_sI, aL_sL, aL_wI, fR_sI, fR_sL, fR_wI, fR_wL, aN_sI, aN_sL, aN_wI, aN_wL, ne_eq, Nat.reduceEqDiff, not_false_eq_true]⟩
  unfold wp_X3_end
  rw [c1]
  refine ⟨_, a2.1, s_kindOf hpg (by omega) pl2 pl1 ?_⟩
  intro K hK
  rw [hB, if_neg (by decide), if_neg (by decide), if_pos rfl]
  unfold wp_X3_nextRound
  rw [r2]
  by_cases z : r = 0
  · rw [if_neg (by rw [z]; decide)]
    rintro _ rfl
    rw [a5.1, nI_pr a3]
    have k2 : Keep jo rN S (sI S 24 (A 3) (nI (D - 1))) := Keep.rf.sI rfl
    have c : CoS S (sI S 24 (A 3) (nI (D - 1))) S0 A ks D (X (D - 1)) F := ⟨by simp only [fI_s, fI_sn, fL_s, fL_sn, aI_w, aI_wn, aL_w, aL_wn, fI_sL, fI_wI, fI_wL, fL_sI, fL_wI, fL_wL, aI_sI, aI_sL, aI_wL, aL_sI, aL_sL, aL_wI, fR_sI, fR_sL, fR_wI, fR_wL, aN_sI, aN_sL, aN_wI, aN_wL, ne_eq, Nat.reduceEqDiff, not_false_eq_true], by simp only [fI_s, fI_sn, fL_s, fL_sn, aI_w, aI_wn, aL_w, aL_wn, fI_sL, fI_wI, fI_wL, fL_sI, fL_wI, fL_wL, aI_sI, aI_sL, aI_wL, aL_sI, aL_sL, aL_wI, fR_sI, fR_sL, fR_wI, fR_wL, aN_sI, aN_sL, aN_wI, aN_wL, ne_eq, Nat.reduceEqDiff, not_false_eq_true], by simp only [fI_s, fI_sn, fL_s, fL_sn, aI_w, aI_wn, aL_w, aL_wn, fI_sL, fI_wI, fI_wL, fL_sI, fL_wI, fL_wL, aI_sI, aI_sL, aI_wL, aL_sI, aL_sL, aL_wI, fR_sI, fR_sL, fR_wI, fR_wL, aN_sI, aN_sL, aN_wI, aN_wL, ne_eq, Nat.reduceEqDiff, not_false_eq_true], by simp only [fI_s, fI_sn, fL_s, fL_sn, aI_w, aI_wn, aL_w, aL_wn, fI_sL, fI_wI, fI_wL, fL_sI, fL_wI, fL_wL, aI_sI, aI_sL, aI_wL, aL_sI, aL_sL, aL_wI, fR_sI, fR_sL, fR_wI, fR_wL, aN_sI, aN_sL, aN_wI, aN_wL, ne_eq, Nat.reduceEqDiff, not_false_eq_true], by simp only [fI_s, fI_sn, fL_s, fL_sn, aI_w, aI_wn, aL_w, aL_wn, fI_sL, fI_wI, fI_wL, fL_sI, fL_wI, fL_wL, aI_sI, aI_sL, aI_wL, aL_sI, aL_sL, aL_wI, fR_sI, fR_sL, fR_wI, fR_wL, aN_sI, aN_sL, aN_wI, aN_wL, ne_eq, Nat.reduceEqDiff, not_false_eq_true], by simp only [fI_s, fI_sn, fL_s, fL_sn, aI_w, aI_wn, aL_w, aL_wn, fI_sL, fI_wI, fI_wL, fL_sI, fL_wI, fL_wL, aI_sI, aI_sL, aI_wL, aL_sI, aL_sL, aL_wI, fR_sI, fR_sL, fR_wI, fR_wL, aN_sI, aN_sL, aN_wI, aN_wL, ne_eq, Nat.reduceEqDiff, not_false_eq_true, hk, reduceIte], by simp only [fI_s, fI_sn, fL_s, fL_sn, aI_w, aI_wn, aL_w, aL_wn, fI_sL, fI_wI, fI_wL, fL_sI, fL_wI, fL_wL, aI_sI, aI_sL, aI_wL, aL_sI, aL_sL, aL_wI, fR_sI, fR_sL, fR_wI, fR_wL, aN_sI, aN_sL, aN_wI, aN_wL, ne_eq, Nat.reduceEqDiff, not_false_eq_true, hk, reduceIte], by simp only [fI_s, fI_sn, fL_s, fL_sn, aI_w, aI_wn, aL_w, aL_wn, fI_sL, fI_wI, fI_wL, fL_sI, fL_wI, fL_wL, aI_sI, aI_sL, aI_wL, aL_sI, aL_sL, aL_wI, fR_sI, fR_sL, fR_wI, fR_wL, aN_sI, aN_sL, aN_wI, aN_wL, ne_eq, Nat.reduceEqDiff, not_false_eq_true, hk, reduceIte], by simp only [fI_s, fI_sn, fL_s, fL_sn, aI_w, aI_wn, aL_w, aL_wn, fI_sL, fI_wI, fI_wL, fL_sI, fL_wI, fL_wL, aI_sI, aI_sL, aI_wL, aL_sI, aL_sL, aL_wI, fR_sI, fR_sL, fR_wI, fR_wL, aN_sI, aN_sL, aN_wI, aN_wL, ne_eq, Nat.reduceEqDiff, not_false_eq_true, hk, reduceIte], by simp only [fI_s, fI_sn, fL_s, fL_sn, aI_w, aI_wn, aL_w, aL_wn, fI_sL, fI_wI, fI_wL, fL_sI, fL_wI, fL_wL, aI_sI, aI_sL, aI_wL, aL_sI, aL_sL, aL_wI, fR_sI, fR_sL, fR_wI, fR_wL, aN_sI, aN_sL, aN_wI, aN_wL, ne_eq, Nat.reduceEqDiff, not_false_eq_true, hk, reduceIte], by simp only [fI_s, fI_sn, fL_s, fL_sn, aI_w, aI_wn, aL_w, aL_wn, fI_sL, fI_wI, fI_wL, fL_sI, fL_wI, fL_wL, aI_sI, aI_sL, aI_wL, aL_sI, aL_sL, aL_wI, fR_sI, fR_sL, fR_wI, fR_wL, aN_sI, aN_sL, aN_wI, aN_wL, ne_eq, Nat.reduceEqDiff, not_false_eq_true, hk, reduceIte], by simp only [fI_s, fI_sn, fL_s, fL_sn, aI_w, aI_wn, aL_w, aL_wn, fI_sL, fI_wI, fI_wL, fL_sI, fL_wI, fL_wL, aI_sI, aI_sL, aI_wL, aL_sI, aL_sL, aL_wI, fR_sI, fR_sL, fR_wI, fR_wL, aN_sI, aN_sL, aN_wI, aN_wL, ne_eq, Nat.reduceEqDiff, not_false_eq_true, hk, reduceIte], by simp only [fI_s, fI_sn, fL_s, fL_sn, aI_w, aI_wn, aL_w, aL_wn, fI_sL, fI_wI, fI_wL, fL_sI, fL_wI, fL_wL, aI_sI, aI_sL, aI_wL, aL_sI, aL_sL, aL_wI, fR_sI, fR_sL, fR_wI, fR_wL, aN_sI, aN_sL, aN_wI, aN_wL, ne_eq, Nat.reduceEqDiff, not_false_eq_true, hk, reduceIte], by simp only [fI_s, fI_sn, fL_s, fL_sn, aI_w, aI_wn, aL_w, aL_wn, fI_sL, fI_wI, fI_wL, fL_sI, fL_wI, fL_wL, aI_sI, aI_sL, aI_wL, aL_sI, aL_sL, aL_wI, fR_sI, fR_sL, fR_wI, fR_wL, aN_sI, aN_sL, aN_wI, aN_wL, ne_eq, Nat.reduceEqDiff, not_false_eq_true], by simp only [fI_s, fI_sn, fL_s, fL_sn, aI_w, aI_wn, aL_w, aL_wn, fI_sL, fI_wI, fI_wL, fL_sI, fL_wI, fL_wL, aI_sI, aI_sL, aI_wL, aL_sI, aL_sL, aL_wI, fR_sI, fR_sL, fR_wI, fR_wL, aN_sI, aN_sL, aN_wI, aN_wL, ne_eq, Nat.reduceEqDiff, not_false_eq_true, hk, reduceIte]⟩
    have hfr : ∀ i, i < D - 1 → fI (sI S 24 (A 3) (nI (D - 1))) 5 (F i) = fI S 5 (F i) ∧ fL (sI S 24 (A 3) (nI (D - 1))) 5 (F i) = fL S 5 (F i) := fun i _ => ⟨by simp only [fI_s, fI_sn, fL_s, fL_sn, aI_w, aI_wn, aL_w, aL_wn, fI_sL, fI_wI, fI_wL, fL_sI, fL_wI, fL_wL, aI_sI, aI_sL, aI_wL, aL_sI, aL_sL, aL_wI, fR_sI, fR_sL, fR_wI, fR_wL, aN_sI, aN_sL, aN_wI, aN_wL, ne_eq, Nat.reduceEqDiff, not_false_eq_true], by simp only [fI_s, fI_sn, fL_s, fL_sn, aI_w, aI_wn, aL_w, aL_wn, fI_sL, fI_wI, fI_wL, fL_sI, fL_wI, fL_wL, aI_sI, aI_sL, aI_wL, aL_sI, aL_sL, aL_wI, fR_sI, fR_sL, fR_wI, fR_wL, aN_sI, aN_sL, aN_wI, aN_wL, ne_eq, Nat.reduceEqDiff, not_false_eq_true]⟩
    refine hQ _ (h'.pop hD (by omega) k2 (a1.sI (PW.at rfl)) hfr (a5.pop hD c (by omega) (by have := c4.2.2.2.2.2 (by omega); rwa [e2] at this) (fun _ => x4.elim (fun z => by have := z.2.2; rwa [e2] at this) (fun z => z.elim (fun z => by omega) (fun z => by omega))) ⟨by simp only [fI_s, fI_sn, fL_s, fL_sn, aI_w, aI_wn, aL_w, aL_wn, fI_sL, fI_wI, fI_wL, fL_sI, fL_wI, fL_wL, aI_sI, aI_sL, aI_wL, aL_sI, aL_sL, aL_wI, fR_sI, fR_sL, fR_wI, fR_wL, aN_sI, aN_sL, aN_wI, aN_wL, ne_eq, Nat.reduceEqDiff, not_false_eq_true]; exact a5.2.2.2.2.2.1.1, a5.2.2.2.2.2.1.2⟩ (fun y => by omega) (fun y => by omega))) ?_
    intro R0 pc T wr sy g ow hr Sr rp Q2 hQ2
    refine rf R0 pc T wr sy g ow hr Sr rp Q2 (fun _ => ?_) (fun y => absurd z y) (fun y => absurd z y)
    have kr : KPf R0 (sI (wI Sr 89 (A 89) (D - 1) (nI r)) 188 (A 9) (nI (D - 1))) := (rp.1.wI rfl).sI rfl
    have ss : RpS (sI S 24 (A 3) (nI (D - 1))) (sI (wI Sr 89 (A 89) (D - 1) (nI r)) 188 (A 9) (nI (D - 1))) S0 A ks (D - 1) X := by
      refine rp.2.1.pop hD (R0 := R0) (gx := g (X (D - 1))) c ?_ (fun y => by omega) (fun y => by omega) (fun y => by omega)
      exact ⟨by simp only [fI_s, fI_sn, fL_s, fL_sn, aI_w, aI_wn, aL_w, aL_wn, fI_sL, fI_wI, fI_wL, fL_sI, fL_wI, fL_wL, aI_sI, aI_sL, aI_wL, aL_sI, aL_sL, aL_wI, fR_sI, fR_sL, fR_wI, fR_wL, aN_sI, aN_sL, aN_wI, aN_wL, ne_eq, Nat.reduceEqDiff, not_false_eq_true], by simp only [fI_s, fI_sn, fL_s, fL_sn, aI_w, aI_wn, aL_w, aL_wn, fI_sL, fI_wI, fI_wL, fL_sI, fL_wI, fL_wL, aI_sI, aI_sL, aI_wL, aL_sI, aL_sL, aL_wI, fR_sI, fR_sL, fR_wI, fR_wL, aN_sI, aN_sL, aN_wI, aN_wL, ne_eq, Nat.reduceEqDiff, not_false_eq_true], by simp only [fI_s, fI_sn, fL_s, fL_sn, aI_w, aI_wn, aL_w, aL_wn, fI_sL, fI_wI, fI_wL, fL_sI, fL_wI, fL_wL, aI_sI, aI_sL, aI_wL, aL_sI, aL_sL, aL_wI, fR_sI, fR_sL, fR_wI, fR_wL, aN_sI, aN_sL, aN_wI, aN_wL, ne_eq, Nat.reduceEqDiff, not_false_eq_true], by simp only [fI_s, fI_sn, fL_s, fL_sn, aI_w, aI_wn, aL_w, aL_wn, fI_sL, fI_wI, fI_wL, fL_sI, fL_wI, fL_wL, aI_sI, aI_sL, aI_wL, aL_sI, aL_sL, aL_wI, fR_sI, fR_sL, fR_wI, fR_wL, aN_sI, aN_sL, aN_wI, aN_wL, ne_eq, Nat.reduceEqDiff, not_false_eq_true], by simp only [fI_s, fI_sn, fL_s, fL_sn, aI_w, aI_wn, aL_w, aL_wn, fI_sL, fI_wI, fI_wL, fL_sI, fL_wI, fL_wL, aI_sI, aI_sL, aI_wL, aL_sI, aL_sL, aL_wI, fR_sI, fR_sL, fR_wI, fR_wL, aN_sI, aN_sL, aN_wI, aN_wL, ne_eq, Nat.reduceEqDiff, not_false_eq_true], by simp only [fI_s, fI_sn, fL_s, fL_sn, aI_w, aI_wn, aL_w, aL_wn, fI_sL, fI_wI, fI_wL, fL_sI, fL_wI, fL_wL, aI_sI, aI_sL, aI_wL, aL_sI, aL_sL, aL_wI, fR_sI, fR_sL, fR_wI, fR_wL, aN_sI, aN_sL, aN_wI, aN_wL, ne_eq, Nat.reduceEqDiff, not_false_eq_true], by simp only [fI_s, fI_sn, fL_s, fL_sn, aI_w, aI_wn, aL_w, aL_wn, fI_sL, fI_wI, fI_wL, fL_sI, fL_wI, fL_wL, aI_sI, aI_sL, aI_wL, aL_sI, aL_sL, aL_wI, fR_sI, fR_sL, fR_wI, fR_wL, aN_sI, aN_sL, aN_wI, aN_wL, ne_eq, Nat.reduceEqDiff, not_false_eq_true, hk, reduceIte], by simp only [fI_s, fI_sn, fL_s, fL_sn, aI_w, aI_wn, aL_w, aL_wn, fI_sL, fI_wI, fI_wL, fL_sI, fL_wI, fL_wL, aI_sI, aI_sL, aI_wL, aL_sI, aL_sL, aL_wI, fR_sI, fR_sL, fR_wI, fR_wL, aN_sI, aN_sL, aN_wI, aN_wL, ne_eq, Nat.reduceEqDiff, not_false_eq_true, hk, reduceIte], by simp only [fI_s, fI_sn, fL_s, fL_sn, aI_w, aI_wn, aL_w, aL_wn, fI_sL, fI_wI, fI_wL, fL_sI, fL_wI, fL_wL, aI_sI, aI_sL, aI_wL, aL_sI, aL_sL, aL_wI, fR_sI, fR_sL, fR_wI, fR_wL, aN_sI, aN_sL, aN_wI, aN_wL, ne_eq, Nat.reduceEqDiff, not_false_eq_true, hk, reduceIte], by simp only [fI_s, fI_sn, fL_s, fL_sn, aI_w, aI_wn, aL_w, aL_wn, fI_sL, fI_wI, fI_wL, fL_sI, fL_wI, fL_wL, aI_sI, aI_sL, aI_wL, aL_sI, aL_sL, aL_wI, fR_sI, fR_sL, fR_wI, fR_wL, aN_sI, aN_sL, aN_wI, aN_wL, ne_eq, Nat.reduceEqDiff, not_false_eq_true, hk, reduceIte], by simp only [fI_s, fI_sn, fL_s, fL_sn, aI_w, aI_wn, aL_w, aL_wn, fI_sL, fI_wI, fI_wL, fL_sI, fL_wI, fL_wL, aI_sI, aI_sL, aI_wL, aL_sI, aL_sL, aL_wI, fR_sI, fR_sL, fR_wI, fR_wL, aN_sI, aN_sL, aN_wI, aN_wL, ne_eq, Nat.reduceEqDiff, not_false_eq_true, hk, reduceIte], by simp only [fI_s, fI_sn, fL_s, fL_sn, aI_w, aI_wn, aL_w, aL_wn, fI_sL, fI_wI, fI_wL, fL_sI, fL_wI, fL_wL, aI_sI, aI_sL, aI_wL, aL_sI, aL_sL, aL_wI, fR_sI, fR_sL, fR_wI, fR_wL, aN_sI, aN_sL, aN_wI, aN_wL, ne_eq, Nat.reduceEqDiff, not_false_eq_true, hk, reduceIte], by simp only [fI_s, fI_sn, fL_s, fL_sn, aI_w, aI_wn, aL_w, aL_wn, fI_sL, fI_wI, fI_wL, fL_sI, fL_wI, fL_wL, aI_sI, aI_sL, aI_wL, aL_sI, aL_sL, aL_wI, fR_sI, fR_sL, fR_wI, fR_wL, aN_sI, aN_sL, aN_wI, aN_wL, ne_eq, Nat.reduceEqDiff, not_false_eq_true, hk, reduceIte], by simp only [fI_s, fI_sn, fL_s, fL_sn, aI_w, aI_wn, aL_w, aL_wn, fI_sL, fI_wI, fI_wL, fL_sI, fL_wI, fL_wL, aI_sI, aI_sL, aI_wL, aL_sI, aL_sL, aL_wI, fR_sI, fR_sL, fR_wI, fR_wL, aN_sI, aN_sL, aN_wI, aN_wL, ne_eq, Nat.reduceEqDiff, not_false_eq_true, hk, reduceIte], by simp only [fI_s, fI_sn, fL_s, fL_sn, aI_w, aI_wn, aL_w, aL_wn, fI_sL, fI_wI, fI_wL, fL_sI, fL_wI, fL_wL, aI_sI, aI_sL, aI_wL, aL_sI, aL_sL, aL_wI, fR_sI, fR_sL, fR_wI, fR_wL, aN_sI, aN_sL, aN_wI, aN_wL, ne_eq, Nat.reduceEqDiff, not_false_eq_true], by simp only [fI_s, fI_sn, fL_s, fL_sn, aI_w, aI_wn, aL_w, aL_wn, fI_sL, fI_wI, fI_wL, fL_sI, fL_wI, fL_wL, aI_sI, aI_sL, aI_wL, aL_sI, aL_sL, aL_wI, fR_sI, fR_sL, fR_wI, fR_wL, aN_sI, aN_sL, aN_wI, aN_wL, ne_eq, Nat.reduceEqDiff, not_false_eq_true]; rw [rp.2.1.2.2.2.2.2.2.2.2.2.2.2.2.2.2.2, if_neg hpn]; rfl⟩
    refine hQ2 _ (rp.pop h' hD k2 hfr kr ss ⟨⟨by simp only [fI_s, fI_sn, fL_s, fL_sn, aI_w, aI_wn, aL_w, aL_wn, fI_sL, fI_wI, fI_wL, fL_sI, fL_wI, fL_wL, aI_sI, aI_sL, aI_wL, aL_sI, aL_sL, aL_wI, fR_sI, fR_sL, fR_wI, fR_wL, aN_sI, aN_sL, aN_wI, aN_wL, ne_eq, Nat.reduceEqDiff, not_false_eq_true], by simp only [fI_s, fI_sn, fL_s, fL_sn, aI_w, aI_wn, aL_w, aL_wn, fI_sL, fI_wI, fI_wL, fL_sI, fL_wI, fL_wL, aI_sI, aI_sL, aI_wL, aL_sI, aL_sL, aL_wI, fR_sI, fR_sL, fR_wI, fR_wL, aN_sI, aN_sL, aN_wI, aN_wL, ne_eq, Nat.reduceEqDiff, not_false_eq_true], by simp only [fI_s, fI_sn, fL_s, fL_sn, aI_w, aI_wn, aL_w, aL_wn, fI_sL, fI_wI, fI_wL, fL_sI, fL_wI, fL_wL, aI_sI, aI_sL, aI_wL, aL_sI, aL_sL, aL_wI, fR_sI, fR_sL, fR_wI, fR_wL, aN_sI, aN_sL, aN_wI, aN_wL, ne_eq, Nat.reduceEqDiff, not_false_eq_true]⟩, fun q q1 q2 => ⟨by rw [aI_sI, aI_wn _ _ _ _ _ _ (by omega)], rfl⟩⟩ (fun k hk q q1 q2 => ?_) ⟨by simp only [fI_s, fI_sn, fL_s, fL_sn, aI_w, aI_wn, aL_w, aL_wn, fI_sL, fI_wI, fI_wL, fL_sI, fL_wI, fL_wL, aI_sI, aI_sL, aI_wL, aL_sI, aL_sL, aL_wI, fR_sI, fR_sL, fR_wI, fR_wL, aN_sI, aN_sL, aN_wI, aN_wL, ne_eq, Nat.reduceEqDiff, not_false_eq_true], by simp only [fI_s, fI_sn, fL_s, fL_sn, aI_w, aI_wn, aL_w, aL_wn, fI_sL, fI_wI, fI_wL, fL_sI, fL_wI, fL_wL, aI_sI, aI_sL, aI_wL, aL_sI, aL_sL, aL_wI, fR_sI, fR_sL, fR_wI, fR_wL, aN_sI, aN_sL, aN_wI, aN_wL, ne_eq, Nat.reduceEqDiff, not_false_eq_true]⟩)
    have hne : k ≠ D - 1 := by omega
    exact ⟨by simp only [fI_s, fI_sn, fL_s, fL_sn, aI_w, aI_wn, aL_w, aL_wn, fI_sL, fI_wI, fI_wL, fL_sI, fL_wI, fL_wL, aI_sI, aI_sL, aI_wL, aL_sI, aL_sL, aL_wI, fR_sI, fR_sL, fR_wI, fR_wL, aN_sI, aN_sL, aN_wI, aN_wL, ne_eq, Nat.reduceEqDiff, not_false_eq_true, aI_wI, hne, and_false, if_false], rfl⟩
  · rw [if_pos (show (0 : Int32) < nI r from nI_lt (a := 0) (by omega) (by omega))]
    rintro _ rfl _ rfl
    simp only [fI_s, fI_sn, fL_s, fL_sn, aI_w, aI_wn, aL_w, aL_wn, fI_sL, fI_wI, fI_wL, fL_sI, fL_wI, fL_wL, aI_sI, aI_sL, aI_wL, aL_sI, aL_sL, aL_wI, fR_sI, fR_sL, fR_wI, fR_wL, aN_sI, aN_sL, aN_wI, aN_wL, ne_eq, Nat.reduceEqDiff, not_false_eq_true]
    rw [c1, nI_1, nI_pr (by omega), show X (D - 1) - 1 + 1 = X (D - 1) by omega]
    have hpg1 : Pg (sI (sI S 5 (F (D - 1)) (nI (r - 1))) 3 (F (D - 1)) (nI (X (D - 1)))) S0 A B n N nd pc := hpg.keep (J := fun j => decide (j = 5 ∨ j = 3)) (R := rN) ((Keep.rf.sI rfl).sI rfl) rfl rfl rfl rfl (fun _ _ _ => rfl)
    refine s_pstep (a2.st rfl) hpg1 (by omega) (by simp only [fI_s, fI_sn, fL_s, fL_sn, aI_w, aI_wn, aL_w, aL_wn, fI_sL, fI_wI, fI_wL, fL_sI, fL_wI, fL_wL, aI_sI, aI_sL, aI_wL, aL_sI, aL_sL, aL_wI, fR_sI, fR_sL, fR_wI, fR_wL, aN_sI, aN_sL, aN_wI, aN_wL, ne_eq, Nat.reduceEqDiff, not_false_eq_true]; exact hst.1) hst.2 (fun s1 => ?_) (fun s0 => ?_)
    · refine hR s1 _ (CPf.round (r := r - 1) sc h' hD hk (by omega) s1) ?_
      intro R0 pc T wr sy g ow hr Sr rp Q2 hQ2
      refine rf R0 pc T wr sy g ow hr Sr rp Q2 (fun y => absurd y z) (fun _ _ => ?_) (fun _ y => by omega)
      obtain ⟨b1, b2, b3, b4⟩ := rp
      refine hQ2 _ ⟨((b1.wI rfl).sI rfl).wI rfl, ?_, fun k hk1 => ?_, b4.eq ?_ ?_ ?_⟩
      · obtain ⟨d1, d2, d3, d4, d5, d6, d7, d8, d9, d10, d11, d12, d13, d14, d15, d16⟩ := b2
        refine ⟨?_, ?_, ?_, ?_, ?_, ?_, fun y => ?_, ?_, ?_, ?_, ?_, ?_, ?_, ?_, ?_, ?_⟩
        all_goals simp only [fI_s, fI_sn, fL_s, fL_sn, aI_w, aI_wn, aL_w, aL_wn, fI_sL, fI_wI, fI_wL, fL_sI, fL_wI, fL_wL, aI_sI, aI_sL, aI_wL, aL_sI, aL_sL, aL_wI, fR_sI, fR_sL, fR_wI, fR_wL, aN_sI, aN_sL, aN_wI, aN_wL, ne_eq, Nat.reduceEqDiff, not_false_eq_true]
        all_goals first | assumption | exact d7 y
      · by_cases e : k = D - 1
        · subst e
          obtain ⟨f1, f2, f3, f4, f5⟩ := b3 (D - 1) hk1
          refine ⟨by simp only [fI_s, fI_sn, fL_s, fL_sn, aI_w, aI_wn, aL_w, aL_wn, fI_sL, fI_wI, fI_wL, fL_sI, fL_wI, fL_wL, aI_sI, aI_sL, aI_wL, aL_sI, aL_sL, aL_wI, fR_sI, fR_sL, fR_wI, fR_wL, aN_sI, aN_sL, aN_wI, aN_wL, ne_eq, Nat.reduceEqDiff, not_false_eq_true]; exact f1, ?_, by simp only [fI_s, fI_sn, fL_s, fL_sn, aI_w, aI_wn, aL_w, aL_wn, fI_sL, fI_wI, fI_wL, fL_sI, fL_wI, fL_wL, aI_sI, aI_sL, aI_wL, aL_sI, aL_sL, aL_wI, fR_sI, fR_sL, fR_wI, fR_wL, aN_sI, aN_sL, aN_wI, aN_wL, ne_eq, Nat.reduceEqDiff, not_false_eq_true]; exact f3, by simp only [fI_s, fI_sn, fL_s, fL_sn, aI_w, aI_wn, aL_w, aL_wn, fI_sL, fI_wI, fI_wL, fL_sI, fL_wI, fL_wL, aI_sI, aI_sL, aI_wL, aL_sI, aL_sL, aL_wI, fR_sI, fR_sL, fR_wI, fR_wL, aN_sI, aN_sL, aN_wI, aN_wL, ne_eq, Nat.reduceEqDiff, not_false_eq_true]; exact f4, fun y => ?_⟩
          · simp only [fI_s, fI_sn, fL_s, fL_sn, aI_w, aI_wn, aL_w, aL_wn, fI_sL, fI_wI, fI_wL, fL_sI, fL_wI, fL_wL, aI_sI, aI_sL, aI_wL, aL_sI, aL_sL, aL_wI, fR_sI, fR_sL, fR_wI, fR_wL, aN_sI, aN_sL, aN_wI, aN_wL, ne_eq, Nat.reduceEqDiff, not_false_eq_true]
            rw [uq_at, uq_at, hr.2.2.1.1 _ x2, hy]
          · obtain ⟨y1, y2, y3, y4, y5⟩ := f5 y
            refine ⟨fun y => by omega, fun _ => ?_, fun y => by omega, fun y => by omega, fun y => absurd y hpn⟩
            simp only [fI_s, fI_sn, fL_s, fL_sn, aI_w, aI_wn, aL_w, aL_wn, fI_sL, fI_wI, fI_wL, fL_sI, fL_wI, fL_wL, aI_sI, aI_sL, aI_wL, aL_sI, aL_sL, aL_wI, fR_sI, fR_sL, fR_wI, fR_wL, aN_sI, aN_sL, aN_wI, aN_wL, ne_eq, Nat.reduceEqDiff, not_false_eq_true]
            rw [uq_at, nI_1]
            congr 1; omega
        · have hne : F k ≠ F (D - 1) := a4.ne (by have := a4.2.2.2.1; omega) (by have := a4.2.2.2.1; omega) e
          refine (b3 k hk1).cg (a6 k hk1).hb (by have := (a6 (k - 1) (by omega)).hb; omega) (fun _ _ => rfl) rfl rfl rfl rfl (fun j j1 j2 j3 => ?_) ?_ (fun q q1 q2 => ?_) (fun _ _ => ⟨by simp only [fI_s, fI_sn, fL_s, fL_sn, aI_w, aI_wn, aL_w, aL_wn, fI_sL, fI_wI, fI_wL, fL_sI, fL_wI, fL_wL, aI_sI, aI_sL, aI_wL, aL_sI, aL_sL, aL_wI, fR_sI, fR_sL, fR_wI, fR_wL, aN_sI, aN_sL, aN_wI, aN_wL, ne_eq, Nat.reduceEqDiff, not_false_eq_true], by simp only [fI_s, fI_sn, fL_s, fL_sn, aI_w, aI_wn, aL_w, aL_wn, fI_sL, fI_wI, fI_wL, fL_sI, fL_wI, fL_wL, aI_sI, aI_sL, aI_wL, aL_sI, aL_sL, aL_wI, fR_sI, fR_sL, fR_wI, fR_wL, aN_sI, aN_sL, aN_wI, aN_wL, ne_eq, Nat.reduceEqDiff, not_false_eq_true]⟩)
          · exact ⟨by rw [fI_sn _ _ _ _ _ (by omega), fI_sn _ _ _ _ _ j3, fI_sI, if_neg (fun z => hne z.2)], rfl⟩
          · simp only [fI_s, fI_sn, fL_s, fL_sn, aI_w, aI_wn, aL_w, aL_wn, fI_sL, fI_wI, fI_wL, fL_sI, fL_wI, fL_wL, aI_sI, aI_sL, aI_wL, aL_sI, aL_sL, aL_wI, fR_sI, fR_sL, fR_wI, fR_wL, aN_sI, aN_sL, aN_wI, aN_wL, ne_eq, Nat.reduceEqDiff, not_false_eq_true]
            rw [uq_ne e, uq_ne e]; exact (b3 k hk1).2.1
          · exact ⟨by simp only [fI_s, fI_sn, fL_s, fL_sn, aI_w, aI_wn, aL_w, aL_wn, fI_sL, fI_wI, fI_wL, fL_sI, fL_wI, fL_wL, aI_sI, aI_sL, aI_wL, aL_sI, aL_sL, aL_wI, fR_sI, fR_sL, fR_wI, fR_wL, aN_sI, aN_sL, aN_wI, aN_wL, ne_eq, Nat.reduceEqDiff, not_false_eq_true, aI_wI, e, and_false, if_false], rfl⟩
      · exact ⟨by simp only [fI_s, fI_sn, fL_s, fL_sn, aI_w, aI_wn, aL_w, aL_wn, fI_sL, fI_wI, fI_wL, fL_sI, fL_wI, fL_wL, aI_sI, aI_sL, aI_wL, aL_sI, aL_sL, aL_wI, fR_sI, fR_sL, fR_wI, fR_wL, aN_sI, aN_sL, aN_wI, aN_wL, ne_eq, Nat.reduceEqDiff, not_false_eq_true], by simp only [fI_s, fI_sn, fL_s, fL_sn, aI_w, aI_wn, aL_w, aL_wn, fI_sL, fI_wI, fI_wL, fL_sI, fL_wI, fL_wL, aI_sI, aI_sL, aI_wL, aL_sI, aL_sL, aL_wI, fR_sI, fR_sL, fR_wI, fR_wL, aN_sI, aN_sL, aN_wI, aN_wL, ne_eq, Nat.reduceEqDiff, not_false_eq_true], fun r _ _ => ⟨rfl, rfl⟩⟩
      · exact ⟨by simp only [fI_s, fI_sn, fL_s, fL_sn, aI_w, aI_wn, aL_w, aL_wn, fI_sL, fI_wI, fI_wL, fL_sI, fL_wI, fL_wL, aI_sI, aI_sL, aI_wL, aL_sI, aL_sL, aL_wI, fR_sI, fR_sL, fR_wI, fR_wL, aN_sI, aN_sL, aN_wI, aN_wL, ne_eq, Nat.reduceEqDiff, not_false_eq_true], fun r _ _ => ⟨rfl, rfl⟩⟩
      · exact ⟨⟨by simp only [fI_s, fI_sn, fL_s, fL_sn, aI_w, aI_wn, aL_w, aL_wn, fI_sL, fI_wI, fI_wL, fL_sI, fL_wI, fL_wL, aI_sI, aI_sL, aI_wL, aL_sI, aL_sL, aL_wI, fR_sI, fR_sL, fR_wI, fR_wL, aN_sI, aN_sL, aN_wI, aN_wL, ne_eq, Nat.reduceEqDiff, not_false_eq_true], by simp only [fI_s, fI_sn, fL_s, fL_sn, aI_w, aI_wn, aL_w, aL_wn, fI_sL, fI_wI, fI_wL, fL_sI, fL_wI, fL_wL, aI_sI, aI_sL, aI_wL, aL_sI, aL_sL, aL_wI, fR_sI, fR_sL, fR_wI, fR_wL, aN_sI, aN_sL, aN_wI, aN_wL, ne_eq, Nat.reduceEqDiff, not_false_eq_true], by simp only [fI_s, fI_sn, fL_s, fL_sn, aI_w, aI_wn, aL_w, aL_wn, fI_sL, fI_wI, fI_wL, fL_sI, fL_wI, fL_wL, aI_sI, aI_sL, aI_wL, aL_sI, aL_sL, aL_wI, fR_sI, fR_sL, fR_wI, fR_wL, aN_sI, aN_sL, aN_wI, aN_wL, ne_eq, Nat.reduceEqDiff, not_false_eq_true]⟩, fun q q1 q2 => ⟨by rw [aI_wn _ _ _ _ _ _ (by omega), aI_sI, aI_wn _ _ _ _ _ _ (by omega)], rfl⟩⟩
    · rw [pl2]
      refine hF s0 _ pl ?_ ?_
      · refine CBad.mk (kdm (by decide) (by decide)) ?_ (a2.st rfl) (a4.st rfl)
        have w : PW A S0 (F (D - 1)) ∨ F (D - 1) ∉ pL S0 := PW.fr a1.1 (a4.1 (D - 1) (by have := a4.2.2.2.1; omega)).2
        exact (a1.sI w).sI w
      · intro R0 pc T wr sy g ow hr Sr rp Q2 hQ2
        refine rf R0 pc T wr sy g ow hr Sr rp Q2 (fun y => absurd y z) (fun _ y => by omega) (fun _ _ pl' p' Sr1 rb => ?_)
        obtain ⟨q, q1, q2, q3, _⟩ := hr.pl x1 x2 (by omega)
        refine hQ2 Sr1 ⟨rb.1, rb.2.1, ?_⟩
        have e1 : nI pl' = nI pl := by rw [← p', q3, ← q2, pl2]
        exact rb.2.2.trans e1
end
