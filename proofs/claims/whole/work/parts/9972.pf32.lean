/-! Performing: both begin. -/
def zf (_ : Nat) : Nat := 0
/-- a score as performing finds it -/
def Clr (S : PS) (A : Nat → Nat) : Prop := (fI S 70 (A 7) = 0 ∧ fI S 79 (A 7) = 1 ∧ aL S 36 (A 36) 0 = 0 ∧ aI S 37 (A 37) 0 = -1 ∧ aI S 38 (A 38) 0 = -1) ∧ fI S 17 (A 2) = 1 ∧ aL S 10 (A 10) 0 = 0 ∧ aI S 11 (A 11) 0 = 4 ∧ aI S 12 (A 12) 0 = 4
section
variable {S S1 S2 S0 Si Sr R0 : PS} {A : Nat → Nat} {B : Nat → Int32} {n N nd pc m T wr sy : Nat} {bh par ks lv g ow F Fi : Nat → Nat} {k : Nat × Nat}
def Roo (Si S0 : PS) (A : Nat → Nat) (B : Nat → Int32) (n : Nat) (N nd : Nat) (bh par ks lv : Nat → Nat) (Fi : Nat → Nat) : Prop := Clr Si A ∧ ∃ m1, CPf Si S0 A B n N nd bh par ks lv 1 m1 0 0 1 1 0 967680 28 zf zf zf zf Fi zf zf
theorem Clr.eq (h : Clr S A) (q : EqE S S1 A) (q2 : EqM S S1 A) : Clr S1 A := by
  obtain ⟨⟨c1, c2, c3, c4, c5⟩, c6, c7, c8, c9⟩ := h
  refine ⟨⟨by rw [q.1]; exact c1, by rw [q.2.1]; exact c2, by rw [(q.2.2 36 (by decide) (by decide)).2]; exact c3, by rw [(q.2.2 37 (by decide) (by decide)).1]; exact c4, by rw [(q.2.2 38 (by decide) (by decide)).1]; exact c5⟩, by rw [q2.1]; exact c6, by rw [(q2.2 10 (by decide) (by decide)).2]; exact c7, by rw [(q2.2 11 (by decide) (by decide)).1]; exact c8, by rw [(q2.2 12 (by decide) (by decide)).1]; exact c9⟩
set_option maxHeartbeats 4000000 in
theorem s_perf {Q : Int32 → PS → Prop} (sc : StC S0 A B n pc N nd bh par ks lv) (a2 : PfL (sR S0 25 (A 3) (some (A 7))) A) (a4 : PfA (sR S0 25 (A 3) (some (A 7))) A 0 m F) (hc : Clr S0 A) (hb : 201 ≤ k.1 + m ∧ 3015 ≤ k.2 + 15 * m)
    (hfin : ∀ {Si : PS} {Fi : Nat → Nat}, Roo Si S0 A B n N nd bh par ks lv Fi → ∀ {S : PS} {m st E V M t ln : Nat} {lp : Int} {X Y C H F VF TB : Nat → Nat}, CPf S S0 A B n N nd bh par ks lv 1 m st E V M t ln lp X Y C H F VF TB → C 0 = bn N bh (Y 0) → GoT S0 A B n N nd bh par ks Si 1 0 1 1 zf zf zf zf Fi S 1 E V M X Y C H F → wp_X3_finish (A 3) (sI S 24 (A 3) 0) Q)
    (hF : ∀ {Si : PS} {Fi : Nat → Nat}, Roo Si S0 A B n N nd bh par ks lv Fi → ∀ {S2 : PS} {m : Nat} {F : Nat → Nat} {e : Nat × Nat}, CBad S0 S2 A m F e → GoTF S0 A B n N nd bh par ks Si 1 0 1 1 zf zf zf zf Fi e → Q 0 S2) : wp_X3_perform (A 3) (A 7) k S0 Q := by
  unfold wp_X3_perform
  intro S1 hS1
  have kw0 : Kws (PW A S0) S0 S1 := by rw [hS1]; exact Kws.rf.sR (PW.at rfl)
  rw [← hS1] at a2 a4
  have hc1 : Clr S1 A := by rw [hS1]; exact hc
  have e45' : fI S1 45 (A 5) = nI N := by rw [hS1]; exact sc.2.2.1.2.2.2.2.1
  clear hS1
  unfold wp_X3_reset
  rintro _ rfl _ rfl _ rfl _ rfl _ rfl _ rfl _ rfl _ rfl _ rfl _ rfl _ rfl _ rfl _ rfl _ rfl _ rfl
  generalize hS2 : sI (sI (sI (sI (sI (sL (sL (sI (sI (sI (sL (sL (sI (sI (sI S1 24 (A 3) 0) 26 (A 3) 0) 27 (A 3) 0) 28 (A 3) 0) 29 (A 3) 967680) 30 (A 3) 28) 31 (A 3) 0) 32 (A 3) 0) 33 (A 3) 1) 34 (A 3) 1) 35 (A 3) 0) 36 (A 3) 0) 37 (A 3) 0) 38 (A 3) 0) 39 (A 3) (-1) = S2
  have k2 : Keep (fun j => decide (24 ≤ j ∧ j ≤ 39)) rN S1 S2 := by rw [← hS2]; exact (((((((((((((((Keep.rf.sI rfl).sI rfl).sI rfl).sL rfl).sL rfl).sI rfl).sI rfl).sI rfl).sL rfl).sL rfl).sI rfl).sI rfl).sI rfl).sI rfl).sI rfl)
  have st2 := k2.1
  have kw : Kws (PW A S0) S0 S2 := by rw [← hS2]; exact (((((((((((((((kw0.sI (PW.at rfl)).sI (PW.at rfl)).sI (PW.at rfl)).sL (PW.at rfl)).sL (PW.at rfl)).sI (PW.at rfl)).sI (PW.at rfl)).sI (PW.at rfl)).sL (PW.at rfl)).sL (PW.at rfl)).sI (PW.at rfl)).sI (PW.at rfl)).sI (PW.at rfl)).sI (PW.at rfl)).sI (PW.at rfl))
  have q1 : EqE S1 S2 A := EqE.of k2 rfl rfl (fun _ _ _ => rfl)
  have q2 : EqM S1 S2 A := EqM.of k2 rfl (fun _ _ _ => rfl)
  have e24 : fI S2 24 (A 3) = nI 0 := by rw [← hS2]; simp only [fI_s, fI_sn, fL_s, fL_sn, aI_w, aI_wn, aL_w, aL_wn, fI_sL, fI_wI, fI_wL, fL_sI, fL_wI, fL_wL, aI_sI, aI_sL, aI_wL, aL_sI, aL_sL, aL_wI, fR_sI, fR_sL, fR_wI, fR_wL, aN_sI, aN_sL, aN_wI, aN_wL, ne_eq, Nat.reduceEqDiff, not_false_eq_true]; rfl
  have e45 : fI S2 45 (A 5) = nI N := by rw [(k2.2.1 45 rfl).1]; exact e45'
  have s5 := sc.2.2.2.2.1
  intro K29 _
  have b2 := a2.st st2
  refine ⟨_, b2.1, kq 0 m, ?_, ?_⟩
  · unfold kq
    by_cases e : 0 < m
    · rw [if_pos e]; exact ⟨Nat.zero_le _, Nat.zero_le _⟩
    · rw [if_neg e]; exact ⟨by show 1 ≤ k.1; omega, by show 15 ≤ k.2; omega⟩
  rw [e45]
  refine s_push (sc.2.1.ext kw.1) b2 (a4.st st2) e24 (by omega) (fun S3 m1 F1 p => ⟨fun z => (by cases z), fun b hb => ?_⟩)
  injection hb with hb
  subst hb
  intro P hP
  have cl : ClL A Q P := fun x2 k S h => hP x2 k S h
  have p7 := p.2.2.2.2.2.2.1
  have p8 := p.2.2.2.2.2.2.2.1
  have p9 := p.2.2.2.2.2.2.2.2.1
  have p10 := p.2.2.2.2.2.2.2.2.2.1
  have p12 := p.2.2.2.2.2.2.2.2.2.2.2.1
  have p13 := p.2.2.2.2.2.2.2.2.2.2.2.2
  have c3 : Clr S3 A := (hc1.eq q1 q2).eq p12 p13
  have em := p.2.2.2.2.1
  have cr : CPf S3 S0 A B n N nd bh par ks lv 1 m1 0 0 1 1 0 967680 28 zf zf zf zf F1 zf zf := by
    refine ⟨p.2.2.2.2.2.1 S0 kw, p.2.1, ⟨Nat.le_refl 1, p.2.2.1⟩, ?_, fun i hi => ?_, fun i hi => ?_, ⟨rfl, fun i hi => (by show 0 < 1; omega), fun i i1 i2 => (by omega)⟩, ?_, ?_⟩
    · unfold PfS
      rw [p7, p8 26 (by decide), p8 27 (by decide), p9 28, p9 29, p8 30 (by decide), p8 31 (by decide), p8 32 (by decide), p9 33, p9 34, p8 35 (by decide), p8 36 (by decide), p8 37 (by decide), p8 38 (by decide), p8 39 (by decide), ← hS2]
      simp only [fI_s, fI_sn, fL_s, fL_sn, aI_w, aI_wn, aL_w, aL_wn, fI_sL, fI_wI, fI_wL, fL_sI, fL_wI, fL_wL, aI_sI, aI_sL, aI_wL, aL_sI, aL_sL, aL_wI, fR_sI, fR_sL, fR_wI, fR_wL, aN_sI, aN_sL, aN_wI, aN_wL, ne_eq, Nat.reduceEqDiff, not_false_eq_true]
      exact ⟨(by first | rfl | trivial), ⟨(by first | rfl | trivial), by omega⟩, (by first | rfl | trivial), ⟨(by first | rfl | trivial), by omega⟩, ⟨(by first | rfl | trivial), by omega, by omega⟩, ⟨(by first | rfl | trivial), by unfold lpb; omega⟩, (by first | rfl | trivial), ⟨(by first | rfl | trivial), Nat.zero_le _⟩, (by first | rfl | trivial), (by first | rfl | trivial), (by first | rfl | trivial), (by first | rfl | trivial), ⟨(by first | rfl | trivial), Nat.zero_le _⟩, (by first | rfl | trivial), (by first | rfl | trivial)⟩
    · have e : i = 0 := by omega
      subst e
      refine ⟨Nat.zero_le _, Nat.zero_le _, fun z => ?_, ?_, fun _ => ⟨rfl, rfl, rfl⟩, fun z => by omega, Or.inl ⟨rfl, rfl⟩⟩
      · exact s5.2.1 0 (by have : bn N bh (zf 0) = N := rfl; rw [this] at z; exact z) z
      · show 0 + 1 ≤ 1 + 8 * 0 + ll ks par lv 0
        omega
    · have e : i = 0 := by omega
      subst e
      exact ⟨p10.1, p10.2.1, p10.2.2, fun z => by omega⟩
    · obtain ⟨_, d1, d2, d3, d4⟩ := c3
      refine ⟨⟨d1, by omega, by omega⟩, fun _ => 0, fun _ => 4, fun _ => 4, fun i hi => ?_, rfl, fun i hi => by omega, Nat.le_refl _, fun i i1 i2 => by omega⟩
      have e : i = 0 := by omega
      subst e
      exact ⟨d2, d3, d4, by show 1 ≤ 4; omega, by show 4 ≤ 32; omega, Or.inr (Or.inr (Or.inl rfl))⟩
    · obtain ⟨⟨d1, d2, d3, d4, d5⟩, _⟩ := c3
      refine ⟨⟨d1, by omega, d2, by omega, by omega⟩, fun e he => by omega, fun v hv => ?_⟩
      have e : v = 0 := by omega
      subst e
      exact ⟨⟨0, by omega, d3⟩, Or.inl d4, Or.inl d5⟩
  have ro : Roo S3 S0 A B n N nd bh par ks lv F1 := ⟨c3, m1, cr⟩
  show P (nI 0) _ _
  refine p_loop sc cl (hfin ro) (hF ro) 7000 (by omega) (by omega) ?_ cr (fun i i1 i2 => by omega) GoT.rf
  rw [em]
  unfold kq
  by_cases e : 0 < m
  · rw [if_pos e, if_pos e]; exact ⟨by show 201 ≤ k.1 - 0 + m; omega, by show 3015 ≤ k.2 - 0 + 15 * m; omega⟩
  · rw [if_neg e, if_neg e]; exact ⟨by show 201 ≤ k.1 - 1 + (m + 1); omega, by show 3015 ≤ k.2 - 15 + 15 * (m + 1); omega⟩
set_option maxHeartbeats 4000000 in
/-- the reference begins to perform -/
theorem r_pfm {Q2 : PS → Prop} (hr : RSR S0 R0 A B n N nd bh par ks pc T wr sy g ow) (h102 : fI R0 102 (A 9) = 0) (ro : Roo Si S0 A B n N nd bh par ks lv Fi)
    (h : ∀ Sr, RPf Si Sr S0 R0 A B n sy N bh ks g ow 1 0 1 1 zf zf zf zf Fi → ∀ P, ClP A Q2 P → P Sr) : PFm (A 9) 0 R0 Q2 := by
  have lm := hr.1
  obtain ⟨⟨⟨d1, d2, d3, d4, d5⟩, d6, d7, d8, d9⟩, m1, a1, a2, a3, a5, _⟩ := ro
  obtain ⟨s24, ⟨s26, s26b⟩, s27, ⟨s28, s28b⟩, ⟨s29, s29b, s29c⟩, ⟨s30, s30b⟩, s31, ⟨s32, s32b⟩, s33, s34, s35, s36, ⟨s37, _⟩, s38, s39⟩ := a5
  have v0 : ∀ {r q : Nat}, r = q → 1 ≤ q → q ≤ 300 → vp_in 0 r := fun h h1 h2 => by rw [h, show (0 : Int32) = nI 0 from rfl]; exact vp_in_nI (by omega) (by omega)
  have c0 : (0 : Int32).toNatClampNeg = 0 := rfl
  unfold PFm
  rintro _ rfl _ rfl
  refine ⟨_, lm.f147, v0 lm.n76 (by omega) (by omega), ?_⟩
  rintro _ rfl
  refine ⟨_, lm.f148, v0 lm.n77 (by omega) (by omega), ?_⟩
  rintro _ rfl _ rfl
  refine ⟨_, lm.f150, v0 lm.n78 (by omega) (by omega), ?_⟩
  rintro _ rfl
  refine ⟨_, lm.f151, v0 lm.n79 (by omega) (by omega), ?_⟩
  rintro _ rfl
  refine ⟨_, lm.f152, v0 lm.n80 (by omega) (by omega), ?_⟩
  rintro _ rfl _ rfl _ rfl _ rfl _ rfl _ rfl _ rfl _ rfl _ rfl _ rfl _ rfl _ rfl _ rfl _ rfl _ rfl
  unfold wp_X12_performAll
  rintro _ rfl
  rw [c0]
  refine r_enter (D := 0) (w := 0) (lm.st ?_) ?_ (by omega) (by omega) ?_
  · exact (show KPf R0 _ from (((((((((((((((((((((((Keep.rf.sI rfl).sI rfl).wL rfl).wI rfl).sI rfl).wL rfl).wI rfl).wI rfl).sI rfl).sI rfl).sL rfl).sL rfl).sI rfl).sI rfl).sI rfl).sL rfl).sL rfl).sI rfl).sI rfl).sI rfl).sI rfl).sI rfl).sI rfl)).1
  · simp only [fI_s, fI_sn, fL_s, fL_sn, aI_w, aI_wn, aL_w, aL_wn, fI_sL, fI_wI, fI_wL, fL_sI, fL_wI, fL_wL, aI_sI, aI_sL, aI_wL, aL_sI, aL_sL, aL_wI, fR_sI, fR_sL, fR_wI, fR_wL, aN_sI, aN_sL, aN_wI, aN_wL, ne_eq, Nat.reduceEqDiff, not_false_eq_true]; rfl
  intro P hP
  refine h _ ⟨?_, ?_, fun i hi => ?_, ⟨?_, ?_, ?_⟩, fun e he => by omega, fun v hv => ?_, fun i hi => ?_⟩ P hP
  · unfold enS; exact ((((((((((((((((((((((((((((Keep.rf.sI rfl).sI rfl).wL rfl).wI rfl).sI rfl).wL rfl).wI rfl).wI rfl).sI rfl).sI rfl).sL rfl).sL rfl).sI rfl).sI rfl).sI rfl).sL rfl).sL rfl).sI rfl).sI rfl).sI rfl).sI rfl).sI rfl).sI rfl).wI rfl).wI rfl).wI rfl).wI rfl).sI rfl)
  · unfold RpS enS
    simp only [fI_s, fI_sn, fL_s, fL_sn, aI_w, aI_wn, aL_w, aL_wn, fI_sL, fI_wI, fI_wL, fL_sI, fL_wI, fL_wL, aI_sI, aI_sL, aI_wL, aL_sI, aL_sL, aL_wI, fR_sI, fR_sL, fR_wI, fR_wL, aN_sI, aN_sL, aN_wI, aN_wL, ne_eq, Nat.reduceEqDiff, not_false_eq_true]
    rw [s26, s27, s28, s29, s30, s31, s32, s33, s34, s35, s36, s37, s38]
    exact ⟨h102, (by first | rfl | trivial), (by first | rfl | trivial), (by first | rfl | trivial), (by first | rfl | trivial), (by first | rfl | trivial), fun _ => (by first | rfl | trivial), (by first | rfl | trivial), (by first | rfl | trivial), (by first | rfl | trivial), (by first | rfl | trivial), (by first | rfl | trivial), (by first | rfl | trivial), (by first | rfl | trivial), (by first | rfl | trivial), (by first | rfl | trivial)⟩
  · have e : i = 0 := by omega
    subst e
    have z := hr.2.2.1.1 0 (Nat.zero_le _)
    rw [hr.2.2.1.2.2.2.1] at z
    unfold RpF enS
    simp only [fI_s, fI_sn, fL_s, fL_sn, aI_w, aI_wn, aL_w, aL_wn, fI_sL, fI_wI, fI_wL, fL_sI, fL_wI, fL_wL, aI_sI, aI_sL, aI_wL, aL_sI, aL_sL, aL_wI, fR_sI, fR_sL, fR_wI, fR_wL, aN_sI, aN_sL, aN_wI, aN_wL, ne_eq, Nat.reduceEqDiff, not_false_eq_true]
    refine ⟨by rw [uq_at]; rfl, ?_, ?_, by rw [uq_at]; rfl, fun z => by omega⟩
    · rw [uq_at]; exact z
    · rw [uq_at]; show nI 0 = nI (ow 0); rw [hr.2.2.1.2.2.2.1]
  · unfold enS; simp only [fI_s, fI_sn, fL_s, fL_sn, aI_w, aI_wn, aL_w, aL_wn, fI_sL, fI_wI, fI_wL, fL_sI, fL_wI, fL_wL, aI_sI, aI_sL, aI_wL, aL_sI, aL_sL, aL_wI, fR_sI, fR_sL, fR_wI, fR_wL, aN_sI, aN_sL, aN_wI, aN_wL, ne_eq, Nat.reduceEqDiff, not_false_eq_true]; rfl
  · unfold enS; simp only [fI_s, fI_sn, fL_s, fL_sn, aI_w, aI_wn, aL_w, aL_wn, fI_sL, fI_wI, fI_wL, fL_sI, fL_wI, fL_wL, aI_sI, aI_sL, aI_wL, aL_sI, aL_sL, aL_wI, fR_sI, fR_sL, fR_wI, fR_wL, aN_sI, aN_sL, aN_wI, aN_wL, ne_eq, Nat.reduceEqDiff, not_false_eq_true]; rfl
  · unfold enS; simp only [fI_s, fI_sn, fL_s, fL_sn, aI_w, aI_wn, aL_w, aL_wn, fI_sL, fI_wI, fI_wL, fL_sI, fL_wI, fL_wL, aI_sI, aI_sL, aI_wL, aL_sI, aL_sL, aL_wI, fR_sI, fR_sL, fR_wI, fR_wL, aN_sI, aN_sL, aN_wI, aN_wL, ne_eq, Nat.reduceEqDiff, not_false_eq_true]; rfl
  · have e : v = 0 := by omega
    subst e
    unfold RpO enS
    simp only [fI_s, fI_sn, fL_s, fL_sn, aI_w, aI_wn, aL_w, aL_wn, fI_sL, fI_wI, fI_wL, fL_sI, fL_wI, fL_wL, aI_sI, aI_sL, aI_wL, aL_sI, aL_sL, aL_wI, fR_sI, fR_sL, fR_wI, fR_wL, aN_sI, aN_sL, aN_wI, aN_wL, ne_eq, Nat.reduceEqDiff, not_false_eq_true]
    exact ⟨by rw [uq_at, d3], Or.inl ⟨d5, by rw [uq_at]⟩⟩
  · have e : i = 0 := by omega
    subst e
    unfold RpM enS
    simp only [fI_s, fI_sn, fL_s, fL_sn, aI_w, aI_wn, aL_w, aL_wn, fI_sL, fI_wI, fI_wL, fL_sI, fL_wI, fL_wL, aI_sI, aI_sL, aI_wL, aL_sI, aL_sL, aL_wI, fR_sI, fR_sL, fR_wI, fR_wL, aN_sI, aN_sL, aN_wI, aN_wL, ne_eq, Nat.reduceEqDiff, not_false_eq_true]
    exact ⟨by rw [uq_at, d7], by rw [uq_at, d8], by rw [uq_at, d9]⟩
end
