/-! Performing: both end. -/
section
variable {S S1 S2 S0 Si Sr R0 : PS} {A : Nat → Nat} {B : Nat → Int32} {n N nd pc T wr sy : Nat} {bh par ks lv g ow Fi : Nat → Nat}
variable {D m st E V M t ln : Nat} {lp : Int} {X Y C H F VF TB s v : Nat → Nat}
/-- a finished score of the class -/
def Sco (S : PS) (A : Nat → Nat) (B : Nat → Int32) (n nd E V M st t : Nat) (s v : Nat → Nat) : Prop := ((∃ VF, PfE S A B n 1 E V VF) ∧ (∀ u, u < V → aI S 38 (A 38) u = -1) ∧ PfM S A zf 1 M t zf zf) ∧ (fI S 84 (A 7) = nI nd ∧ fI S 85 (A 7) = nI st ∧ fL S 86 (A 7) = lN t ∧ st ≤ 3000 ∧ t ≤ 3870720000 ∧ nd ≤ 20) ∧ Evk S A E s v ∧ Srt S A s v E
/-- the reference's own -/
def RFin (S Sr R0 : PS) (A : Nat → Nat) (B : Nat → Int32) (n sy E V M st t : Nat) : Prop := KPf R0 Sr ∧ fI Sr 102 (A 9) = 0 ∧ RpN S Sr R0 A B n sy E V M ∧ fI Sr 154 (A 9) = nI st ∧ fL Sr 156 (A 9) = lN t
def GoE (S0 : PS) (A : Nat → Nat) (B : Nat → Int32) (n N nd : Nat) (bh par ks : Nat → Nat) (S : PS) (D E V M : Nat) (X Y C H F : Nat → Nat) (S1 : PS) (E1 V1 M1 st t : Nat) : Prop :=
  ∀ R0 pc T wr sy g ow, RSR S0 R0 A B n N nd bh par ks pc T wr sy g ow → ∀ Sr, RPf S Sr S0 R0 A B n sy N bh ks g ow D E V M X Y C H F → ∀ R P : PS → Prop, ClP A R P → (∀ Sr1, RFin S1 Sr1 R0 A B n sy E1 V1 M1 st t → R Sr1) → P Sr
theorem GoT.en {D1 E1 V1 M1 E2 V2 M2 : Nat} {X1 Y1 C1 H1 F1 : Nat → Nat} (h : GoT S0 A B n N nd bh par ks S D E V M X Y C H F S1 D1 E1 V1 M1 X1 Y1 C1 H1 F1) (g : GoE S0 A B n N nd bh par ks S1 D1 E1 V1 M1 X1 Y1 C1 H1 F1 S2 E2 V2 M2 st t) : GoE S0 A B n N nd bh par ks S D E V M X Y C H F S2 E2 V2 M2 st t :=
  fun R0 pc T wr sy gg ow hr Sr rp R P cl q => h R0 pc T wr sy gg ow hr Sr rp R P cl (fun Sr1 r1 => g R0 pc T wr sy gg ow hr Sr1 r1 R P cl q)
/-- the same but for the order -/
def EqO (S S1 : PS) (A : Nat → Nat) : Prop := (fI S1 70 (A 7) = fI S 70 (A 7) ∧ fI S1 79 (A 7) = fI S 79 (A 7) ∧ fI S1 17 (A 2) = fI S 17 (A 2)) ∧ ∀ r, r ≠ 35 → aI S1 r = aI S r ∧ aL S1 r = aL S r
theorem PfE.eqo (h : PfE S A B n D E V VF) (q : EqO S S1 A) : PfE S1 A B n D E V VF := by
  have i := fun r hr => (q.2 r hr).1
  have l := fun r hr => (q.2 r hr).2
  unfold PfE EvC VoC at h ⊢
  rw [q.1.1, q.1.2.1, i 28 (by decide), i 32 (by decide), i 33 (by decide), i 34 (by decide), i 37 (by decide), i 38 (by decide), l 29 (by decide), l 30 (by decide), l 31 (by decide), l 36 (by decide)]
  exact h
theorem PfM.eqo (h : PfM S A ks 1 M t X TB) (q : EqO S S1 A) : PfM S1 A zf 1 M t zf zf := by
  have i := fun r hr => (q.2 r hr).1
  have l := fun r hr => (q.2 r hr).2
  obtain ⟨h1, mt, mu, md, h2, h3, h4, h5, h6⟩ := h
  unfold PfM
  rw [q.1.2.2, i 11 (by decide), i 12 (by decide), l 10 (by decide)]
  exact ⟨h1, mt, mu, md, h2, h3, h4, h5, fun k k1 k2 => by omega⟩
theorem RpN.eqo {Sr1 : PS} (h : RpN S Sr R0 A B n sy E V M) (q : EqO S S1 A) (z : EqR Sr Sr1 A) : RpN S1 Sr1 R0 A B n sy E V M := by
  have h2 := h.eq EqE.rf EqM.rf z
  have i := fun r hr => (q.2 r hr).1
  have l := fun r hr => (q.2 r hr).2
  unfold RpN RpE RpO RpM at h2 ⊢
  rw [i 28 (by decide), i 32 (by decide), i 33 (by decide), i 34 (by decide), i 37 (by decide), i 38 (by decide), i 11 (by decide), i 12 (by decide), l 10 (by decide), l 29 (by decide), l 30 (by decide), l 31 (by decide), l 36 (by decide)]
  exact h2
set_option maxHeartbeats 4000000 in
theorem p_fin {Q : Int32 → PS → Prop} (sc : StC S0 A B n pc N nd bh par ks lv) (h : CPf S S0 A B n N nd bh par ks lv 1 m st E V M t ln lp X Y C H F VF TB) (hce : C 0 = bn N bh (Y 0))
    (h1 : ∀ S2 s v, Kws (PW A S0) S0 S2 → PfL S2 A → PfA S2 A 0 m F → Sco S2 A B n nd E V M st t s v → GoE S0 A B n N nd bh par ks S 1 E V M X Y C H F S2 E V M st t → Q 1 S2)
    (h0 : ∀ S2 e, CBad S0 S2 A m F e → GoTF S0 A B n N nd bh par ks S 1 E V M X Y C H F e → Q 0 S2) : wp_X3_finish (A 3) (sI S 24 (A 3) 0) Q := by
  have h' := h
  obtain ⟨a1, a2, ⟨a3, a4⟩, a5, a6, a7, ⟨v0, v1, v2⟩, a9, a10⟩ := h
  have hn := sc.2.2.1.2.2.2.1
  have hpg := sc.pg a1 a2
  have hv : VF 0 < V := v1 0 (by omega)
  obtain ⟨s24, ⟨s26, s26b⟩, s27, ⟨s28, s28b⟩, _⟩ := a5
  have hE := a10.1
  have pe1 : PfE (sI S 24 (A 3) 0) A B n 1 E V VF := a10.eq ⟨by simp only [fI_s, fI_sn, fL_s, fL_sn, aI_w, aI_wn, aL_w, aL_wn, fI_sL, fI_wI, fI_wL, fL_sI, fL_wI, fL_wL, aI_sI, aI_sL, aI_wL, aL_sI, aL_sL, aL_wI, fR_sI, fR_sL, fR_wI, fR_wL, aN_sI, aN_sL, aN_wI, aN_wL, ne_eq, Nat.reduceEqDiff, not_false_eq_true], by simp only [fI_s, fI_sn, fL_s, fL_sn, aI_w, aI_wn, aL_w, aL_wn, fI_sL, fI_wI, fI_wL, fL_sI, fL_wI, fL_wL, aI_sI, aI_sL, aI_wL, aL_sI, aL_sL, aL_wI, fR_sI, fR_sL, fR_wI, fR_wL, aN_sI, aN_sL, aN_wI, aN_wL, ne_eq, Nat.reduceEqDiff, not_false_eq_true], fun r _ _ => ⟨rfl, rfl⟩⟩
  have e54 : fI S 54 (A 5) = nI nd := hpg.2.2.2.2.2.1
  have tpx : aI S 38 (A 38) (VF 0) ≠ -1 → ∃ tp, aI S 38 (A 38) (VF 0) = nI tp := fun z => by
    rcases (a10.2.2 _ hv).2.2 with y | ⟨⟨tp, _, y⟩, _⟩
    · exact absurd y z
    · exact ⟨tp, y⟩
  have ref : ∀ R0 pc T wr sy g ow, RSR S0 R0 A B n N nd bh par ks pc T wr sy g ow → ∀ Sr, RPf S Sr S0 R0 A B n sy N bh ks g ow 1 E V M X Y C H F → ∀ R P : PS → Prop, ClP A R P → (aI S 38 (A 38) (VF 0) = -1 → P (sI Sr 188 (A 9) (nI 0))) → (∀ tp, aI S 38 (A 38) (VF 0) = nI tp → aI S 38 (A 38) (VF 0) ≠ -1 → ∀ Sr1, RBad R0 Sr1 A (6, tp) → P Sr1) → P Sr := by
    intro R0 pc T wr sy g ow hr Sr rp R P cl q1 q0
    have lm := rp.1.lay hr.1
    refine r_turn_e h' hr.1 hce rp cl ?_
    obtain ⟨r1, r2, r3, r4⟩ := rp
    obtain ⟨b102, b188, b154, b155, _⟩ := r2
    rw [if_pos rfl]
    unfold wp_X12_leave
    rw [if_pos rfl]
    refine r_endOfVoice (S := S) (V := V) (E := E) (v := VF 0) lm b102 (by rw [b155]; exact s27) hv hE.2.2.2.2 hE.2.1 (r4.2.2.1 _ hv) (fun z => ?_) (fun tp z1 z2 => ?_) tpx
    · rintro _ rfl
      rw [b188]; exact q1 z
    · rintro _ rfl
      refine q0 tp z1 z2 _ ⟨((r1.sI rfl).sI rfl).sI rfl, by simp only [fI_s, fI_sn, fL_s, fL_sn, aI_w, aI_wn, aL_w, aL_wn, fI_sL, fI_wI, fI_wL, fL_sI, fL_wI, fL_wL, aI_sI, aI_sL, aI_wL, aL_sI, aL_sL, aL_wI, fR_sI, fR_sL, fR_wI, fR_wL, aN_sI, aN_sL, aN_wI, aN_wL, ne_eq, Nat.reduceEqDiff, not_false_eq_true]; rfl, by simp only [fI_s, fI_sn, fL_s, fL_sn, aI_w, aI_wn, aL_w, aL_wn, fI_sL, fI_wI, fI_wL, fL_sI, fL_wI, fL_wL, aI_sI, aI_sL, aI_wL, aL_sI, aL_sL, aL_wI, fR_sI, fR_sL, fR_wI, fR_wL, aN_sI, aN_sL, aN_wI, aN_wL, ne_eq, Nat.reduceEqDiff, not_false_eq_true]⟩
  unfold wp_X3_finish
  refine s_endVoice (S := sI S 24 (A 3) 0) (v := VF 0) (a2.st rfl) pe1 (by simp only [fI_s, fI_sn, fL_s, fL_sn, aI_w, aI_wn, aL_w, aL_wn, fI_sL, fI_wI, fI_wL, fL_sI, fL_wI, fL_wL, aI_sI, aI_sL, aI_wL, aL_sI, aL_sL, aL_wI, fR_sI, fR_sL, fR_wI, fR_wL, aN_sI, aN_sL, aN_wI, aN_wL, ne_eq, Nat.reduceEqDiff, not_false_eq_true]; exact s27) hv hn (fun z => ?_) (fun tp t1 t2 => ?_)
  · rw [if_neg (by decide)]
    refine ⟨_, a2.2.2.2.1, ?_⟩
    rintro _ rfl
    refine ⟨_, a2.2.2.2.1, ?_⟩
    rintro _ rfl
    refine ⟨_, a2.2.2.2.1, _, a2.1, ?_⟩
    rintro _ rfl
    refine ⟨_, a2.2.2.2.1, ?_⟩
    simp only [fI_s, fI_sn, fL_s, fL_sn, aI_w, aI_wn, aL_w, aL_wn, fI_sL, fI_wI, fI_wL, fL_sI, fL_wI, fL_wL, aI_sI, aI_sL, aI_wL, aL_sI, aL_sL, aL_wI, fR_sI, fR_sL, fR_wI, fR_wL, aN_sI, aN_sL, aN_wI, aN_wL, ne_eq, Nat.reduceEqDiff, not_false_eq_true]
    rw [s28, s26, e54]
    generalize hS9 : sI (sI (sL (sI S 24 (A 3) 0) 86 (A 7) (lN t)) 85 (A 7) (nI st)) 84 (A 7) (nI nd) = S9
    have k9 : Keep (fun j => decide (j = 24 ∨ 84 ≤ j ∧ j ≤ 86)) rN S S9 := by rw [← hS9]; exact (((Keep.rf.sI rfl).sL rfl).sI rfl).sI rfl
    have kw9 : Kws (PW A S0) S0 S9 := by rw [← hS9]; exact (((a1.sI (PW.at rfl)).sL (PW.at rfl)).sI (PW.at rfl)).sI (PW.at rfl)
    have g84 : fI S9 84 (A 7) = nI nd := by rw [← hS9]; simp only [fI_s, fI_sn, fL_s, fL_sn, aI_w, aI_wn, aL_w, aL_wn, fI_sL, fI_wI, fI_wL, fL_sI, fL_wI, fL_wL, aI_sI, aI_sL, aI_wL, aL_sI, aL_sL, aL_wI, fR_sI, fR_sL, fR_wI, fR_wL, aN_sI, aN_sL, aN_wI, aN_wL, ne_eq, Nat.reduceEqDiff, not_false_eq_true]
    have g85 : fI S9 85 (A 7) = nI st := by rw [← hS9]; simp only [fI_s, fI_sn, fL_s, fL_sn, aI_w, aI_wn, aL_w, aL_wn, fI_sL, fI_wI, fI_wL, fL_sI, fL_wI, fL_wL, aI_sI, aI_sL, aI_wL, aL_sI, aL_sL, aL_wI, fR_sI, fR_sL, fR_wI, fR_wL, aN_sI, aN_sL, aN_wI, aN_wL, ne_eq, Nat.reduceEqDiff, not_false_eq_true]
    have g86 : fL S9 86 (A 7) = lN t := by rw [← hS9]; simp only [fI_s, fI_sn, fL_s, fL_sn, aI_w, aI_wn, aL_w, aL_wn, fI_sL, fI_wI, fI_wL, fL_sI, fL_wI, fL_wL, aI_sI, aI_sL, aI_wL, aL_sI, aL_sL, aL_wI, fR_sI, fR_sL, fR_wI, fR_wL, aN_sI, aN_sL, aN_wI, aN_wL, ne_eq, Nat.reduceEqDiff, not_false_eq_true]
    clear hS9
    have hf' : ∀ e, ∃ y : Nat × Nat, e < E → (aL S9 29 (A 29) e = lN y.1 ∧ y.1 < 2 ^ 63) ∧ aI S9 28 (A 28) e = nI y.2 ∧ y.2 < 12 := fun e => by
      by_cases he : e < E
      · obtain ⟨⟨u, u1, u2⟩, ⟨tm, l, l1, l2, l3, _⟩, _⟩ := a10.2.1 e he
        refine ⟨(tm, u), fun _ => ?_⟩
        rw [(k9.2.2 29 rfl).2, (k9.2.2 28 rfl).1]
        exact ⟨⟨l3, by show tm < _; omega⟩, u2, by show u < 12; have := hE.2.2.2.2; omega⟩
      · exact ⟨(0, 0), fun z => absurd z he⟩
    obtain ⟨f, hf⟩ := Classical.skolem.mp hf'
    have hk : Evk S9 A E (fun e => (f e).1) (fun e => (f e).2) := fun e he => hf e he
    have p9 : PfL S9 A := a2.st k9.1
    refine s_sort p9.2.2.2.2.2 (by rw [(k9.2.1 70 rfl).1]; exact hE.1) hE.2.1 hk (fun S2 k35' srt => ?_)
    have k35 := k35'.1
    have eo : EqO S S2 A := by
      refine ⟨⟨by rw [(k35.2.1 70 rfl).1, (k9.2.1 70 rfl).1], by rw [(k35.2.1 79 rfl).1, (k9.2.1 79 rfl).1], by rw [(k35.2.1 17 rfl).1, (k9.2.1 17 rfl).1]⟩, fun r hr => ?_⟩
      have z := k35.2.2 r (by unfold r35; simp only [decide_eq_false_iff_not]; exact hr)
      have y := k9.2.2 r rfl
      exact ⟨z.1.trans y.1, z.2.trans y.2⟩
    have p2 := p9.st k35.1
    have pa : PfA S2 A 0 m F := by
      have := (a4.st k9.1).st k35.1
      exact ⟨this.1, this.2.1, this.2.2.1, Nat.zero_le _, this.2.2.2.2⟩
    have kw2 : Kws (PW A S0) S0 S2 := k35'.2 S0 kw9
    refine h1 S2 _ _ kw2 p2 pa ⟨⟨⟨VF, a10.eqo eo⟩, fun u hu => ?_, a9.eqo eo⟩, ⟨by rw [(k35.2.1 84 rfl).1]; exact g84, by rw [(k35.2.1 85 rfl).1]; exact g85, by rw [(k35.2.1 86 rfl).2]; exact g86, s26b, s28b, sc.2.2.1.2.2.1⟩, fun e he => ?_, srt⟩ ?_
    · rw [(eo.2 38 (by decide)).1]
      rcases (a10.2.2 u hu).2.2 with y | ⟨_, _, k0, k1, k2⟩
      · exact y
      · have e0 : k0 = 0 := by omega
        rw [k2, e0]; exact z
    · rw [(k35.2.2 29 rfl).2, (k35.2.2 28 rfl).1]; exact hk e he
    · intro R0 pc T wr sy g ow hr Sr rp R P cl q
      refine ref R0 pc T wr sy g ow hr Sr rp R P cl (fun _ => ?_) (fun tp _ z2 => absurd z z2)
      apply cl
      unfold PB
      rw [if_pos (by simp only [fI_s, fI_sn, fL_s, fL_sn, aI_w, aI_wn, aL_w, aL_wn, fI_sL, fI_wI, fI_wL, fL_sI, fL_wI, fL_wL, aI_sI, aI_sL, aI_wL, aL_sI, aL_sL, aL_wI, fR_sI, fR_sL, fR_wI, fR_wL, aN_sI, aN_sL, aN_wI, aN_wL, ne_eq, Nat.reduceEqDiff, not_false_eq_true]; decide)]
      obtain ⟨r1, r2, r3, r4⟩ := rp
      refine q _ ⟨r1.sI rfl, by simp only [fI_s, fI_sn, fL_s, fL_sn, aI_w, aI_wn, aL_w, aL_wn, fI_sL, fI_wI, fI_wL, fL_sI, fL_wI, fL_wL, aI_sI, aI_sL, aI_wL, aL_sI, aL_sL, aL_wI, fR_sI, fR_sL, fR_wI, fR_wL, aN_sI, aN_sL, aN_wI, aN_wL, ne_eq, Nat.reduceEqDiff, not_false_eq_true]; exact r2.1, r4.eqo eo ⟨⟨by simp only [fI_s, fI_sn, fL_s, fL_sn, aI_w, aI_wn, aL_w, aL_wn, fI_sL, fI_wI, fI_wL, fL_sI, fL_wI, fL_wL, aI_sI, aI_sL, aI_wL, aL_sI, aL_sL, aL_wI, fR_sI, fR_sL, fR_wI, fR_wL, aN_sI, aN_sL, aN_wI, aN_wL, ne_eq, Nat.reduceEqDiff, not_false_eq_true], by simp only [fI_s, fI_sn, fL_s, fL_sn, aI_w, aI_wn, aL_w, aL_wn, fI_sL, fI_wI, fI_wL, fL_sI, fL_wI, fL_wL, aI_sI, aI_sL, aI_wL, aL_sI, aL_sL, aL_wI, fR_sI, fR_sL, fR_wI, fR_wL, aN_sI, aN_sL, aN_wI, aN_wL, ne_eq, Nat.reduceEqDiff, not_false_eq_true], by simp only [fI_s, fI_sn, fL_s, fL_sn, aI_w, aI_wn, aL_w, aL_wn, fI_sL, fI_wI, fI_wL, fL_sI, fL_wI, fL_wL, aI_sI, aI_sL, aI_wL, aL_sI, aL_sL, aL_wI, fR_sI, fR_sL, fR_wI, fR_wL, aN_sI, aN_sL, aN_wI, aN_wL, ne_eq, Nat.reduceEqDiff, not_false_eq_true]⟩, fun r _ _ => ⟨rfl, rfl⟩⟩, by simp only [fI_s, fI_sn, fL_s, fL_sn, aI_w, aI_wn, aL_w, aL_wn, fI_sL, fI_wI, fI_wL, fL_sI, fL_wI, fL_wL, aI_sI, aI_sL, aI_wL, aL_sI, aL_sL, aL_wI, fR_sI, fR_sL, fR_wI, fR_wL, aN_sI, aN_sL, aN_wI, aN_wL, ne_eq, Nat.reduceEqDiff, not_false_eq_true]; rw [r2.2.2.1]; exact s26, by simp only [fI_s, fI_sn, fL_s, fL_sn, aI_w, aI_wn, aL_w, aL_wn, fI_sL, fI_wI, fI_wL, fL_sI, fL_wI, fL_wL, aI_sI, aI_sL, aI_wL, aL_sI, aL_sL, aL_wI, fR_sI, fR_sL, fR_wI, fR_wL, aN_sI, aN_sL, aN_wI, aN_wL, ne_eq, Nat.reduceEqDiff, not_false_eq_true]; rw [r2.2.2.2.2.1]; exact s28⟩
  · rw [if_pos rfl]
    refine h0 _ (6, tp) (CBad.mk (S := sI S 24 (A 3) 0) (kdm (by decide) (by decide)) (a1.sI (PW.at rfl)) (a2.st rfl) (a4.st rfl)) ?_
    intro R0 pc T wr sy g ow hr Sr rp R P cl q
    have t3 : aI S 38 (A 38) (VF 0) = nI tp := t2
    refine ref R0 pc T wr sy g ow hr Sr rp R P cl (fun z => ?_) (fun tp' y1 _ Sr1 rb => ?_)
    · rw [t3] at z; exact absurd z (nI_ne_neg (by omega))
    · have rb2 : RBad R0 Sr1 A (6, tp) := ⟨rb.1, rb.2.1, by rw [rb.2.2]; exact y1.symm.trans t3⟩
      exact cl.out (kdm (by decide) (by decide)) rb2 (q _ rb2)
end
