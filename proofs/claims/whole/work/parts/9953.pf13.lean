/-! Performing: uses. -/
section
variable {S S1 S2 S0 Sr Sr1 Sr2 R0 : PS} {A : Nat → Nat} {B : Nat → Int32} {n N nd pc : Nat} {bh par ks lv g ow : Nat → Nat}
variable {D m st E V M t ln sy x : Nat} {lp : Int} {X Y C H F VF TB : Nat → Nat}
theorem Ch.fn {y : Nat} : ∀ {k c c'}, Ch N bh par y k c → Ch N bh par y k c' → c = c' := by
  intro k
  induction k with
  | zero => intro c c' h h'; exact h.trans h'.symm
  | succ k ih =>
    rintro c c' ⟨d, h1, _, _, h2, _⟩ ⟨d', h1', _, _, h2', _⟩
    rw [← h2, ← h2', ih h1 h1']
theorem Ch.pre {y : Nat} : ∀ {k j c}, Ch N bh par y k c → j ≤ k → ∃ c', Ch N bh par y j c' := by
  intro k
  induction k with
  | zero => intro j c h hj; exact ⟨c, by rw [show j = 0 by omega]; exact h⟩
  | succ k ih =>
    intro j c h hj
    by_cases e : j = k + 1
    · exact ⟨c, by rw [e]; exact h⟩
    · obtain ⟨d, h1, _⟩ := h
      exact ih h1 (by omega)
theorem s_given {Q : Int32 → PS → Prop} {y j c : Nat} (hl : PfL S A) (hpg : Pg S S0 A B n N nd pc) (h17 : ∀ x, 1 ≤ x → x ≤ N → aI S0 17 (A 17) (x - 1) = nI (bh x)) (hy : 1 ≤ y) (hj : j < 4) (hc : Ch N bh par y j c) (hQ : Q (nI c) S) : wp_X3_given (A 3) (nI (y - 1)) (nI j) S Q := by
  unfold wp_X3_given
  rintro _ rfl
  intro P hP
  rw [nI_1, show y - 1 + 1 = y by omega]
  have key : ∀ f i ci, f + i = j → Ch N bh par y i ci → P (nI ci) (nI i) S := by
    intro f
    induction f with
    | zero =>
      intro i ci h1 h2
      apply hP
      rw [if_pos (by rw [show i = j by omega]; exact nI_le (Nat.le_refl j) (by omega))]
      have : ci = c := by rw [show i = j by omega] at h2; exact h2.fn hc
      rw [this]; exact hQ
    | succ f ih =>
      intro i ci h1 h2
      obtain ⟨c2, hc2⟩ := hc.pre (j := i + 1) (by omega)
      have hc2' := hc2
      obtain ⟨d, e1, e2, e3, e4, e5⟩ := hc2
      have : d = ci := e1.fn h2
      subst this
      apply hP
      rw [if_neg (nI_ge (by omega) (by omega)), show (4 : Int32) = nI 4 from rfl, if_neg (nI_ge (by omega) (by omega))]
      refine ⟨_, hl.1, s_behind hpg (by omega) ?_⟩
      rintro _ rfl
      have := h17 (d + 1) (by omega) e2
      rw [Nat.add_sub_cancel] at this
      rw [this, e4, nI_1]
      exact ih (i + 1) c2 (by omega) hc2'
  exact key j 0 y (by omega) rfl
theorem cp_imp {p q : Nat → Bool} (h : ∀ x, p x = true → q x = true) : ∀ k, cp p X k ≤ cp q X k := by
  intro k
  induction k with
  | zero => exact Nat.le_refl 0
  | succ k ih =>
    rw [cp, cp]
    by_cases c : p (X (k + 1)) = true
    · rw [if_pos c, if_pos (h _ c)]; omega
    · rw [if_neg c]; omega
theorem pn_10 {x : Nat} (h : pn S0 A ks x = true) : pk ks 10 x = true := by
  unfold pn at h; unfold pk
  rw [decide_eq_true_iff] at h ⊢; exact h.1
/-- the list of a use -/
theorem FrK.use {y h' : Nat} (sc : StC S0 A B n pc N nd bh par ks lv) (h : CPf S S0 A B n N nd bh par ks lv D m st E V M t ln lp X Y C H F VF TB) (hx : Itm N par Y D x) (hk : ks x = 10) (hu : cp (pk ks 10) X (D - 1) < 24) (y1 : 1 ≤ y) (y2 : y ≤ N) (hy : ks y = 9 ∨ (ks y = 11 ∧ ks (par y) = 10))
    (hn : (nmy par ks y = 0 ∧ h' = 0) ∨ (1 ≤ nmy par ks y ∧ ∃ h, h' = h + 1 ∧ 1 ≤ h ∧ h ≤ D ∧ ks ((uq X D x) h) = 10 ∧ aI S0 19 (A 19) ((uq X D x) h - 1) = 0 ∧ ∃ d, d < nd ∧ aI S0 18 (A 18) ((uq X D x) h - 1) = nI d ∧ aI S0 24 (A 24) d = nI (nmy par ks y - 1))) : D < 201 ∧ FrK S0 A N nd bh par ks lv (uq X D x) (uq Y D y) (uq C D y) (uq H D h') D := by
  obtain ⟨x1, x2, x3⟩ := hx
  obtain ⟨-, -, -, -, s5, -, s7, s8, -⟩ := sc
  have hD := h.2.2.1.1
  have f := h.2.2.2.2.1 (D - 1) (by omega)
  have lx := s7 x x1 x2
  have ell : ll ks par lv (Y (D - 1)) = lv x := by
    unfold ll
    rw [lx.2, x3]
  have hst : stp ks par y = 1 := by
    unfold stp
    rcases hy with z | ⟨z1, z2⟩
    · rw [if_neg (by omega), if_neg (by omega)]
    · rw [if_neg (by omega), if_neg (by omega)]
  have f4 := f.2.2.2.1
  rw [ell] at f4
  have rx := s5.1 y y1 y2
  refine ⟨by omega, by rw [uq_at]; exact y2, ?_, fun z => ?_, ?_, fun z => by omega, fun _ => ?_, ?_⟩
  · rw [uq_at, uq_at, bn_pos y1]; exact rx.2.1
  · rw [uq_at, uq_at]
    rw [uq_at, uq_at] at z
    refine s5.2.1 y ?_ z
    rw [bn_pos y1] at z; omega
  · rw [uq_at, cp_pu hD, pk_t hk, if_pos rfl]
    unfold ll
    rw [if_neg (by omega), hst]; omega
  · rw [uq_at, uq_at, uq_ne (by omega), uq_at, uq_ne (by omega)]
    exact ⟨x1, x2, x3, Or.inr (Or.inr hk)⟩
  · rw [uq_at, uq_at]; exact hn
theorem RSR.us {T wr : Nat} (h : RSR S0 R0 A B n N nd bh par ks pc T wr sy g ow) (h1 : 1 ≤ x) (h2 : x ≤ N) (hk : ks x = 10) : AtU S0 R0 A nd (x - 1) (g x) ∧ ow x = g x := by
  obtain ⟨⟨pl, a1, a2, a3, a4⟩, _⟩ := h.at h1 h2
  rcases a4 with z | ⟨a5, a6, a7⟩
  · omega
  · rcases a7 with ⟨z, _⟩ | ⟨z, _⟩ | z | ⟨z, _⟩ | ⟨z, _⟩ | ⟨z, _⟩ | ⟨_, z2, _, z⟩
    · omega
    · omega
    · rcases z.1 with ⟨_, z, _⟩ | ⟨z, _⟩ <;> omega
    · omega
    · omega
    · omega
    · exact ⟨z, z2⟩
theorem RSR.b36 {T wr : Nat} (h : RSR S0 R0 A B n N nd bh par ks pc T wr sy g ow) (h1 : 1 ≤ x) (h2 : x ≤ N) (hk : ks x = 10) : ∃ pl, pl < n ∧ aI S0 16 (A 16) (x - 1) = nI pl ∧ B pl = 36 := by
  obtain ⟨pl, p1, p2, _, p4⟩ := h.pl h1 h2 (by omega)
  refine ⟨pl, p1, p2, ?_⟩
  rw [hk] at p4
  exact kof_10 p4.symm
/-- the given block j of the use x -/
theorem giv (sc : StC S0 A B n pc N nd bh par ks lv) (h : CPf S S0 A B n N nd bh par ks lv D m st E V M t ln lp X Y C H F VF TB) (hx : Itm N par Y D x) (hk : ks x = 10) (h1 : aI S0 19 (A 19) (x - 1) = 1) {j : Nat} (hj : j < 4) (hj2 : aI S0 18 (A 18) (x - 1) = nI j) :
    ∃ h c, H (D - 1) = h + 1 ∧ 1 ≤ h ∧ h < D ∧ ks (X h) = 10 ∧ aI S0 19 (A 19) (X h - 1) = 0 ∧ 1 ≤ X h ∧ X h ≤ N ∧ par (X h) = Y (h - 1) ∧ (∀ k, k ≤ j → ∃ c, Ch N bh par (X h) k c ∧ c + 1 ≤ bh (X h) ∧ par (c + 1) = X h) ∧ Ch N bh par (X h) j c ∧ c + 1 ≤ bh (X h) ∧ par (c + 1) = X h ∧ ks (c + 1) = 11 := by
  obtain ⟨x1, x2, x3⟩ := hx
  obtain ⟨R00, T0, wr0, sy0, g0, ow0, r0⟩ := sc.rsr
  obtain ⟨-, -, sb, -, s5, s6, -⟩ := sc
  have hD := h.2.2.1.1
  have a6 := h.2.2.2.2.1
  have f := a6 (D - 1) (by omega)
  have up := (s6 x x1 x2).2.2.1 hk h1 j hj hj2
  rw [x3] at up
  rcases f.2.2.2.2.2.2 with z | ⟨z, q, q1, q2, q3, q4, q5, d, q6, q7, q8⟩
  · omega
  have fq := (a6 q (by omega)).2.2.2.2.2.1 q2
  obtain ⟨v1, v2, v3, _⟩ := fq
  obtain ⟨zx, mm, w1, w2, w3, w4, w5, w6, w7⟩ := r0.2.2.2.2 d q6
  have bnm : bh (nmy par ks (Y (D - 1))) ≠ 5000 := by
    have hzx : nmy par ks (Y (D - 1)) - 1 = zx - 1 := by
      have e := q8.symm.trans w5
      have hle : nmy par ks (Y (D - 1)) ≤ N := by
        have : ∀ y, y ≤ N → nmy par ks y ≤ y := by
          intro y
          induction y using Nat.strongRecOn with
          | ind y ih =>
            intro hy
            by_cases c0 : y = 0
            · subst c0; exact Nat.le_refl 0
            · by_cases c9 : ks y = 9
              · rw [nmy_n2 (by omega) c9]; exact Nat.le_refl _
              · rw [nmy_u2 s5.dn (by omega) hy c9]
                have := s5.dn y (by omega) hy
                have := ih (par y) this (by omega)
                omega
        have := this _ f.1; have := f.1; omega
      rwa [nI_eq (by omega) (by omega)] at e
    have : nmy par ks (Y (D - 1)) = zx := by omega
    rw [this]
    have := (s5.1 zx w1 w2).2.2.2
    omega
  have jm := up.2.2 bnm d mm q6 w4 q8 w7
  have ub : UB S0 A N nd bh par (X q) := (s6 (X q) v1 v2).2.2.2.1 q4 (by have := (s5.1 (X q) v1 v2).2.2.2; omega)
  have ubs := fun k (hk : k < mm) => ub q5 d mm q6 q7 w4 w7 k hk
  obtain ⟨c, c1, c2, c3⟩ := ubs j jm
  refine ⟨q, c, q1, q2, by omega, q4, q5, v1, v2, v3, fun k hk => ubs k (by omega), c1, c2, c3, ?_⟩
  have hcN : c + 1 ≤ N := by have := (s5.1 (X q) v1 v2).2.2.2; omega
  exact ((s6 (c + 1) (by omega) hcN).1).mpr ⟨by rw [c3]; omega, Or.inr (by rw [c3]; exact q4)⟩
theorem kk_use {Q : Int32 → PS → Prop} {kk : Nat × Nat} (sc : StC S0 A B n pc N nd bh par ks lv) (h : CPf S S0 A B n N nd bh par ks lv D m st E V M t ln lp X Y C H F VF TB) (hx : Itm N par Y D x) (hk : ks x = 10) (hkk : cp (pk ks 10) X (D - 1) < 24 → kk = kq D m)
    (hQ : ∀ S2 m1 F1 y h', m1 = (if D < m then m else m + 1) → (ks y ≠ 7 ∧ ks y ≠ 10) → CPf S2 S0 A B n N nd bh par ks lv (D + 1) m1 st E V M t ln lp (uq X D x) (uq Y D y) (uq C D y) (uq H D h') F1 (uq VF D (VF (D - 1))) (uq TB D t) → GoB S0 A B n N nd bh par ks x S D E V M X Y C H F S2 (D + 1) E V M (uq X D x) (uq Y D y) (uq C D y) (uq H D h') F1 → Q 1 S2)
    (hF : ∀ pl S2, CBad S0 S2 A m F (5, pl) → GoF S0 A B n N nd bh par ks x S D E V M X Y C H F (5, pl) → Q 0 S2) : wp_X3_begin (A 3) (nI (x - 1)) kk S Q := by
  have hx' := hx
  obtain ⟨x1, x2, x3⟩ := hx
  have h' := h
  obtain ⟨a1, a2, ⟨a3, a4⟩, a5, a6, a7, a8, a9, a10⟩ := h
  have hpg := sc.pg a1 a2
  have hA : Ad S A := sc.2.1.ext a1.1
  obtain ⟨R00, T0, wr0, sy0, g0, ow0, r0⟩ := sc.rsr
  obtain ⟨pl, pl1, pl2, hB⟩ := r0.b36 x1 x2 hk
  have h24 := a5.1
  have ex : x - 1 + 1 = x := by omega
  have hu := a5.2.2.2.2.2.2.2.2.2.2.2.2.1
  have tr := sc.2.2.2.2.1
  have h17 := sc.2.2.2.1
  have d201 := a4.2.2.2
  unfold wp_X3_begin
  refine ⟨_, a2.1, s_kindOf hpg (by omega) pl2 pl1 ?_⟩
  rw [hB, if_pos rfl]
  refine ⟨kk, ⟨Nat.le_refl _, Nat.le_refl _⟩, ?_⟩
  unfold wp_X3_use
  rw [hu.1]
  by_cases u24 : cp (pk ks 10) X (D - 1) = 24
  · rw [u24, if_neg (by decide)]
    refine s_ptell a2 hpg (by omega) ?_
    rw [pl2]
    refine hF pl _ (CBad.mk (kdm (by decide) (by decide)) a1 a2 a4) ?_
    intro R0 pc T wr sy g ow hr Sr rp Q2 hQ2
    have lm := rp.1.lay hr.1
    obtain ⟨at1, gx, owx⟩ := hr.at x1 x2
    obtain ⟨q, q1, q2, q3, q4⟩ := hr.pl x1 x2 (by omega)
    have e1 : nI q = nI pl := q2.symm.trans pl2
    unfold wp_X12_begin
    intro v1 hv1
    refine ⟨_, lm.f105, by rw [lm.n42]; exact vp_in_nI gx (by omega), ?_⟩
    rw [nI_clamp (by omega), rp.1.a rfl, hr.sort x1 x2, hk, if_neg (by decide), if_neg (by decide), if_neg (by decide), if_neg (by decide), if_neg (by decide), if_neg (by decide), if_neg (by decide), if_neg (by decide), if_neg (by decide), if_neg (by decide), if_pos (by decide)]
    unfold wp_X12_use
    rw [rp.2.1.2.2.2.2.2.2.2.2.2.2.2.2.2.1, hu.1, u24, if_pos (by decide)]
    exact r_pbad lm gx rp.2.1.1 (by rw [rp.1.a rfl]; exact q3) (hQ2 _ ⟨(rp.1.sI rfl).sI rfl, by simp only [fI_s, fI_sn, fL_s, fL_sn, aI_w, aI_wn, aL_w, aL_wn, fI_sL, fI_wI, fI_wL, fL_sI, fL_wI, fL_wL, aI_sI, aI_sL, aI_wL, aL_sI, aL_sL, aL_wI, fR_sI, fR_sL, fR_wI, fR_wL, aN_sI, aN_sL, aN_wI, aN_wL, ne_eq, Nat.reduceEqDiff, not_false_eq_true]; rfl, by simp only [fI_s, fI_sn, fL_s, fL_sn, aI_w, aI_wn, aL_w, aL_wn, fI_sL, fI_wI, fI_wL, fL_sI, fL_wI, fL_wL, aI_sI, aI_sL, aI_wL, aL_sI, aL_sL, aL_wI, fR_sI, fR_sL, fR_wI, fR_wL, aN_sI, aN_sL, aN_wI, aN_wL, ne_eq, Nat.reduceEqDiff, not_false_eq_true]; exact e1⟩)
  have u24' : cp (pk ks 10) X (D - 1) < 24 := by have := hu.2; omega
  have ekk := hkk u24'
  subst ekk
  rw [show (24 : Int32) = nI 24 from rfl, if_pos (nI_lt u24' (by omega))]
  refine ⟨_, a2.1, s_two hpg (by omega) ?_⟩
  -- what a push leaves, and the reference's part of it
  have fin : ∀ (y h1 : Nat), 1 ≤ y → y ≤ N → (ks y = 9 ∨ (ks y = 11 ∧ ks (par y) = 10)) →
      ((nmy par ks y = 0 ∧ h1 = 0) ∨ (1 ≤ nmy par ks y ∧ ∃ h, h1 = h + 1 ∧ 1 ≤ h ∧ h ≤ D ∧ ks ((uq X D x) h) = 10 ∧ aI S0 19 (A 19) ((uq X D x) h - 1) = 0 ∧ ∃ d, d < nd ∧ aI S0 18 (A 18) ((uq X D x) h - 1) = nI d ∧ aI S0 24 (A 24) d = nI (nmy par ks y - 1))) →
      h1 ≤ D + 1 →
      (∀ R0 pc T wr sy g ow, RSR S0 R0 A B n N nd bh par ks pc T wr sy g ow → ∀ Sr, RPf S Sr S0 R0 A B n sy N bh ks g ow D E V M X Y C H F → ∀ Q : PS → Prop,
        (∀ Sr1, KPf R0 Sr1 → (∀ j, j ≠ 166 → j ≠ 169 → fI Sr1 j (A 9) = fI Sr j (A 9)) → (∀ j, fL Sr1 j (A 9) = fL Sr j (A 9)) → fI Sr1 166 (A 9) = fI Sr 166 (A 9) + 1 → fI Sr1 169 (A 9) = nI (cp (pn S0 A ks) X (D - 1) + if pn S0 A ks x = true then 1 else 0) → (∀ r, 65 ≤ r → r ≤ 100 → r ≠ 81 → r ≠ 82 → aI Sr1 r = aI Sr r) → (∀ r, aL Sr1 r = aL Sr r) → (∀ i, i < cp (pn S0 A ks) X (D - 1) → aI Sr1 81 (A 81) i = aI Sr 81 (A 81) i ∧ aI Sr1 82 (A 82) i = aI Sr 82 (A 82) i) → (pn S0 A ks x = true → aI Sr1 81 (A 81) (cp (pn S0 A ks) X (D - 1)) = aI R0 46 (A 46) (g x) ∧ aI Sr1 82 (A 82) (cp (pn S0 A ks) X (D - 1)) = hw S0 A ks X (H (D - 1))) → Q (enS Sr1 A D (nI (g x)) (ow y) (hw S0 A ks (uq X D x) h1))) → wp_X12_begin (A 9) (nI (g x)) (hw S0 A ks X (H (D - 1))) Sr Q) →
      (∃ b24, fR S 21 (A 3) = some b24 ∧ wp_X6_behind b24 (nI (y - 1)) S (fun (r26 : Int32) (S25 : PS) =>
        (∃ k29 : Nat × Nat, (k29.1 ≤ (kq D m).1 ∧ k29.2 ≤ (kq D m).2) ∧ wp_X3_push (A 3) (nI (x - 1)) (nI (y - 1) + 1) r26 k29 S25 (fun (o : Option Nat) (S27 : PS) => (o = none → wp_X3_tell (A 3) 5 (nI (x - 1)) S27 (fun (r32 : Int32) (S31 : PS) => Q r32 S31)) ∧ ∀ b30, o = some b30 → (∀ S33, S33 = sI S27 7 b30 (fI S27 39 (A 3)) → (∀ S34, S34 = sI S33 39 (A 3) (hz h1) → (∀ S35, S35 = sI S34 37 (A 3) ((fI S34 37 (A 3)) + 1) → Q 1 S35)))))) ) := by
    intro y h1 y1 y2 hy hn hh1 hrf
    obtain ⟨hD, fk⟩ := FrK.use sc h' hx' hk u24' y1 y2 hy hn
    refine ⟨_, a2.1, s_behind hpg (by omega) ?_⟩
    refine ⟨kq D m, ⟨Nat.le_refl _, Nat.le_refl _⟩, ?_⟩
    rw [h17 y y1 y2, nI_1, show y - 1 + 1 = y by omega]
    refine s_push hA a2 a4 h24 hD (fun S1 m1 F1 p => ⟨fun z => (by cases z), fun b hb => ?_⟩)
    injection hb with hb
    subst hb
    have w := p.w a1
    rintro _ rfl _ rfl _ rfl
    simp only [fI_s, fI_sn, fL_s, fL_sn, aI_w, aI_wn, aL_w, aL_wn, fI_sL, fI_wI, fI_wL, fL_sI, fL_wI, fL_wL, aI_sI, aI_sL, aI_wL, aL_sI, aL_sL, aL_wI, fR_sI, fR_sL, fR_wI, fR_wL, aN_sI, aN_sL, aN_wI, aN_wL, ne_eq, Nat.reduceEqDiff, not_false_eq_true]
    generalize hS2 : sI (sI (sI S1 7 (F1 D) (fI S1 39 (A 3))) 39 (A 3) (hz h1)) 37 (A 3) (fI S1 37 (A 3) + 1) = S2
    have k2 : Keep jq rN S1 S2 := by rw [← hS2]; exact ((Keep.rf.sI rfl).sI rfl).sI rfl
    have kw : Kws (PW A S0) S0 S2 := by rw [← hS2]; exact (((p.2.2.2.2.2.1 S0 a1).sI w).sI (PW.at rfl)).sI (PW.at rfl)
    have hfr : ∀ i, i < D → ∀ j, 2 ≤ j → j ≤ 16 → fI S2 j (F i) = fI S1 j (F i) ∧ fL S2 j (F i) = fL S1 j (F i) := fun i hi j j1 j2 => by
      have hne := p.ne hi
      rw [← hS2]
      exact ⟨by rw [fI_sn _ _ _ _ _ (by omega), fI_sn _ _ _ _ _ (by omega), fI_sI, if_neg (fun z => hne z.2)], rfl⟩
    have p8 := p.2.2.2.2.2.2.2.1
    have p9 := p.2.2.2.2.2.2.2.2.1
    have c : CpS S S2 S0 A ks D x h1 := by
      unfold CpS
      rw [← hS2]
      simp only [fI_s, fI_sn, fL_s, fL_sn, aI_w, aI_wn, aL_w, aL_wn, fI_sL, fI_wI, fI_wL, fL_sI, fL_wI, fL_wL, aI_sI, aI_sL, aI_wL, aL_sI, aL_sL, aL_wI, fR_sI, fR_sL, fR_wI, fR_wL, aN_sI, aN_sL, aN_wI, aN_wL, ne_eq, Nat.reduceEqDiff, not_false_eq_true, hk, reduceIte, Nat.reduceEqDiff]
      exact ⟨p.2.2.2.2.2.2.1, p8 26 (by decide), p8 27 (by decide), p9 28, p9 29, p8 30 (by decide), p8 31 (by decide), p8 32 (by decide), p9 33, p9 34, p8 35 (by decide), p8 36 (by decide), by rw [p8 37 (by decide)], p8 38 (by decide), trivial⟩
    have fr : FrC S2 S0 A N bh ks st (uq X D x) (uq Y D y) (uq C D y) (uq H D h1) F1 (uq VF D (VF (D - 1))) (uq TB D t) D := by
      have p10 := p.2.2.2.2.2.2.2.2.2.1
      refine ⟨by rw [← hS2, uq_at, hz_pos x1]; simp only [fI_s, fI_sn, fL_s, fL_sn, aI_w, aI_wn, aL_w, aL_wn, fI_sL, fI_wI, fI_wL, fL_sI, fL_wI, fL_wL, aI_sI, aI_sL, aI_wL, aL_sI, aL_sL, aL_wI, fR_sI, fR_sL, fR_wI, fR_wL, aN_sI, aN_sL, aN_wI, aN_wL, ne_eq, Nat.reduceEqDiff, not_false_eq_true]; exact p10.1, by rw [← hS2, uq_at]; simp only [fI_s, fI_sn, fL_s, fL_sn, aI_w, aI_wn, aL_w, aL_wn, fI_sL, fI_wI, fI_wL, fL_sI, fL_wI, fL_wL, aI_sI, aI_sL, aI_wL, aL_sI, aL_sL, aL_wI, fR_sI, fR_sL, fR_wI, fR_wL, aN_sI, aN_sL, aN_wI, aN_wL, ne_eq, Nat.reduceEqDiff, not_false_eq_true]; exact p10.2.1, by rw [← hS2, uq_at, bn_pos y1]; simp only [fI_s, fI_sn, fL_s, fL_sn, aI_w, aI_wn, aL_w, aL_wn, fI_sL, fI_wI, fI_wL, fL_sI, fL_wI, fL_wL, aI_sI, aI_sL, aI_wL, aL_sI, aL_sL, aL_wI, fR_sI, fR_sL, fR_wI, fR_wL, aN_sI, aN_sL, aN_wI, aN_wL, ne_eq, Nat.reduceEqDiff, not_false_eq_true]; exact p10.2.2, fun _ => ?_⟩
      rw [uq_at, uq_at, uq_ne (by omega), uq_ne (by omega)]
      refine ⟨fun z => by omega, fun z => by omega, fun z => by omega, fun _ => ?_, fun z => by omega, fun _ => rfl⟩
      rw [← hS2]
      simp only [fI_s, fI_sn, fL_s, fL_sn, aI_w, aI_wn, aL_w, aL_wn, fI_sL, fI_wI, fI_wL, fL_sI, fL_wI, fL_wL, aI_sI, aI_sL, aI_wL, aL_sI, aL_sL, aL_wI, fR_sI, fR_sL, fR_wI, fR_wL, aN_sI, aN_sL, aN_wI, aN_wL, ne_eq, Nat.reduceEqDiff, not_false_eq_true]
      rw [p8 39 (by decide)]; exact a5.2.2.2.2.2.2.2.2.2.2.2.2.2.2
    have cp3 := h'.push p k2 kw hfr (a5.push a3 c (fun z => by omega) (fun _ => u24') (fun z => absurd hk z) (fun z => by omega)) fk fr
    rw [if_neg (show ¬ ks x = 3 by omega)] at cp3
    refine hQ S2 m1 F1 y h1 p.2.2.2.2.1 (by rcases hy with z | z <;> omega) cp3 ?_
    intro R0 pc T wr sy g ow hr Sr rp Q2 hQ2
    refine hrf R0 pc T wr sy g ow hr Sr rp Q2 (fun Sr1 kr eI eL e166 e169 eA eAL e81 e81n => ?_)
    have hb := (a6 (D - 1) (by omega)).hb
    have ss : RpS S2 (enS Sr1 A D (nI (g x)) (ow y) (hw S0 A ks (uq X D x) h1)) S0 A ks (D + 1) (uq X D x) := by
      refine rp.2.1.push a3 (R0 := R0) (gx := g x) c ?_ (fun z => by omega)
      unfold DpS enS
      simp only [fI_s, fI_sn, fL_s, fL_sn, aI_w, aI_wn, aL_w, aL_wn, fI_sL, fI_wI, fI_wL, fL_sI, fL_wI, fL_wL, aI_sI, aI_sL, aI_wL, aL_sI, aL_sL, aL_wI, fR_sI, fR_sL, fR_wI, fR_wL, aN_sI, aN_sL, aN_wI, aN_wL, ne_eq, Nat.reduceEqDiff, not_false_eq_true, hk, reduceIte, Nat.reduceEqDiff]
      exact ⟨eI 102 (by decide) (by decide), trivial, eI 154 (by decide) (by decide), eI 155 (by decide) (by decide), eL 156, eL 157, eI 158 (by decide) (by decide), eI 159 (by decide) (by decide), eI 160 (by decide) (by decide), eL 161, eL 162, eI 163 (by decide) (by decide), eI 164 (by decide) (by decide), e166, eI 165 (by decide) (by decide), e169⟩
    refine hQ2 _ (rp.push h' p k2 hfr kr.en ss ?_ (fun k hk r r1 r2 => ?_) (fun i hi => ?_) ?_)
    · unfold enS
      refine ⟨⟨?_, ?_, ?_⟩, fun r r1 r2 => ⟨?_, ?_⟩⟩
      · simp only [fI_s, fI_sn, fL_s, fL_sn, aI_w, aI_wn, aL_w, aL_wn, fI_sL, fI_wI, fI_wL, fL_sI, fL_wI, fL_wL, aI_sI, aI_sL, aI_wL, aL_sI, aL_sL, aL_wI, fR_sI, fR_sL, fR_wI, fR_wL, aN_sI, aN_sL, aN_wI, aN_wL, ne_eq, Nat.reduceEqDiff, not_false_eq_true]; exact eI 146 (by decide) (by decide)
      · simp only [fI_s, fI_sn, fL_s, fL_sn, aI_w, aI_wn, aL_w, aL_wn, fI_sL, fI_wI, fI_wL, fL_sI, fL_wI, fL_wL, aI_sI, aI_sL, aI_wL, aL_sI, aL_sL, aL_wI, fR_sI, fR_sL, fR_wI, fR_wL, aN_sI, aN_sL, aN_wI, aN_wL, ne_eq, Nat.reduceEqDiff, not_false_eq_true]; exact eI 149 (by decide) (by decide)
      · simp only [fI_s, fI_sn, fL_s, fL_sn, aI_w, aI_wn, aL_w, aL_wn, fI_sL, fI_wI, fI_wL, fL_sI, fL_wI, fL_wL, aI_sI, aI_sL, aI_wL, aL_sI, aL_sL, aL_wI, fR_sI, fR_sL, fR_wI, fR_wL, aN_sI, aN_sL, aN_wI, aN_wL, ne_eq, Nat.reduceEqDiff, not_false_eq_true]; exact eI 153 (by decide) (by decide)
      · have : r ≠ 86 ∧ r ≠ 87 ∧ r ≠ 88 ∧ r ≠ 92 := by omega
        simp only [fI_s, fI_sn, fL_s, fL_sn, aI_w, aI_wn, aL_w, aL_wn, fI_sL, fI_wI, fI_wL, fL_sI, fL_wI, fL_wL, aI_sI, aI_sL, aI_wL, aL_sI, aL_sL, aL_wI, fR_sI, fR_sL, fR_wI, fR_wL, aN_sI, aN_sL, aN_wI, aN_wL, ne_eq, Nat.reduceEqDiff, not_false_eq_true, aI_wn _ _ _ _ _ r this.1, aI_wn _ _ _ _ _ r this.2.1, aI_wn _ _ _ _ _ r this.2.2.1, aI_wn _ _ _ _ _ r this.2.2.2]
        rw [eA r r1 (by omega) (by omega) (by omega)]
      · simp only [fI_s, fI_sn, fL_s, fL_sn, aI_w, aI_wn, aL_w, aL_wn, fI_sL, fI_wI, fI_wL, fL_sI, fL_wI, fL_wL, aI_sI, aI_sL, aI_wL, aL_sI, aL_sL, aL_wI, fR_sI, fR_sL, fR_wI, fR_wL, aN_sI, aN_sL, aN_wI, aN_wL, ne_eq, Nat.reduceEqDiff, not_false_eq_true]; rw [eAL r]
    · unfold enS
      have hne : k ≠ D := by omega
      refine ⟨?_, ?_⟩
      · simp only [fI_s, fI_sn, fL_s, fL_sn, aI_w, aI_wn, aL_w, aL_wn, fI_sL, fI_wI, fI_wL, fL_sI, fL_wI, fL_wL, aI_sI, aI_sL, aI_wL, aL_sI, aL_sL, aL_wI, fR_sI, fR_sL, fR_wI, fR_wL, aN_sI, aN_sL, aN_wI, aN_wL, ne_eq, Nat.reduceEqDiff, not_false_eq_true, aI_wI, hne, and_false, if_false]
        rw [eA r (by omega) r2 (by omega) (by omega)]
      · simp only [fI_s, fI_sn, fL_s, fL_sn, aI_w, aI_wn, aL_w, aL_wn, fI_sL, fI_wI, fI_wL, fL_sI, fL_wI, fL_wL, aI_sI, aI_sL, aI_wL, aL_sI, aL_sL, aL_wI, fR_sI, fR_sL, fR_wI, fR_wL, aN_sI, aN_sL, aN_wI, aN_wL, ne_eq, Nat.reduceEqDiff, not_false_eq_true]; rw [eAL r]
    · unfold enS
      refine ⟨?_, ?_⟩
      · simp only [fI_s, fI_sn, fL_s, fL_sn, aI_w, aI_wn, aL_w, aL_wn, fI_sL, fI_wI, fI_wL, fL_sI, fL_wI, fL_wL, aI_sI, aI_sL, aI_wL, aL_sI, aL_sL, aL_wI, fR_sI, fR_sL, fR_wI, fR_wL, aN_sI, aN_sL, aN_wI, aN_wL, ne_eq, Nat.reduceEqDiff, not_false_eq_true]; exact (e81 i hi).1
      · simp only [fI_s, fI_sn, fL_s, fL_sn, aI_w, aI_wn, aL_w, aL_wn, fI_sL, fI_wI, fI_wL, fL_sI, fL_wI, fL_wL, aI_sI, aI_sL, aI_wL, aL_sI, aL_sL, aL_wI, fR_sI, fR_sL, fR_wI, fR_wL, aN_sI, aN_sL, aN_wI, aN_wL, ne_eq, Nat.reduceEqDiff, not_false_eq_true]; exact (e81 i hi).2
    · refine ⟨?_, ?_, ?_, ?_, fun z => ?_⟩
      · unfold enS; simp only [fI_s, fI_sn, fL_s, fL_sn, aI_w, aI_wn, aL_w, aL_wn, fI_sL, fI_wI, fI_wL, fL_sI, fL_wI, fL_wL, aI_sI, aI_sL, aI_wL, aL_sI, aL_sL, aL_wI, fR_sI, fR_sL, fR_wI, fR_wL, aN_sI, aN_sL, aN_wI, aN_wL, ne_eq, Nat.reduceEqDiff, not_false_eq_true]; rw [uq_at, uq_at, if_neg (by omega)]
      · unfold enS; simp only [fI_s, fI_sn, fL_s, fL_sn, aI_w, aI_wn, aL_w, aL_wn, fI_sL, fI_wI, fI_wL, fL_sI, fL_wI, fL_wL, aI_sI, aI_sL, aI_wL, aL_sI, aL_sL, aL_wI, fR_sI, fR_sL, fR_wI, fR_wL, aN_sI, aN_sL, aN_wI, aN_wL, ne_eq, Nat.reduceEqDiff, not_false_eq_true]
        rw [uq_at, uq_at, uq_at, kr.a rfl, hr.2.2.1.1 y y2]
      · unfold enS; simp only [fI_s, fI_sn, fL_s, fL_sn, aI_w, aI_wn, aL_w, aL_wn, fI_sL, fI_wI, fI_wL, fL_sI, fL_wI, fL_wL, aI_sI, aI_sL, aI_wL, aL_sI, aL_sL, aL_wI, fR_sI, fR_sL, fR_wI, fR_wL, aN_sI, aN_sL, aN_wI, aN_wL, ne_eq, Nat.reduceEqDiff, not_false_eq_true]; rw [uq_at, uq_at]
      · unfold enS; simp only [fI_s, fI_sn, fL_s, fL_sn, aI_w, aI_wn, aL_w, aL_wn, fI_sL, fI_wI, fI_wL, fL_sI, fL_wI, fL_wL, aI_sI, aI_sL, aI_wL, aL_sI, aL_sL, aL_wI, fR_sI, fR_sL, fR_wI, fR_wL, aN_sI, aN_sL, aN_wI, aN_wL, ne_eq, Nat.reduceEqDiff, not_false_eq_true]; rw [uq_at, uq_at]
      · rw [uq_at, cp_uq (by omega), cp_uq (by omega)]
        refine ⟨fun z => by omega, fun z => by omega, fun z => by omega, fun z => by omega, fun z => ?_⟩
        obtain ⟨q1, q2⟩ := e81n z
        refine ⟨?_, ?_⟩
        · unfold enS; simp only [fI_s, fI_sn, fL_s, fL_sn, aI_w, aI_wn, aL_w, aL_wn, fI_sL, fI_wI, fI_wL, fL_sI, fL_wI, fL_wL, aI_sI, aI_sL, aI_wL, aL_sI, aL_sL, aL_wI, fR_sI, fR_sL, fR_wI, fR_wL, aN_sI, aN_sL, aN_wI, aN_wL, ne_eq, Nat.reduceEqDiff, not_false_eq_true]; exact q1
        · unfold enS; simp only [fI_s, fI_sn, fL_s, fL_sn, aI_w, aI_wn, aL_w, aL_wn, fI_sL, fI_wI, fI_wL, fL_sI, fL_wI, fL_wL, aI_sI, aI_sL, aI_wL, aL_sI, aL_sL, aL_wI, fR_sI, fR_sL, fR_wI, fR_wL, aN_sI, aN_sL, aN_wI, aN_wL, ne_eq, Nat.reduceEqDiff, not_false_eq_true]
          rw [q2, uq_ne (by omega)]
          exact (hw_cg (fun i hi => uq_ne (by omega))).symm
  intro K33 hK33
  rcases (r0.us x1 x2 hk).1 with ⟨w1, j, w2, w3, _⟩ | ⟨w1, d, w2, w3, _⟩
  · -- a parameter
    obtain ⟨hh, c, g1, g2, g3, g4, g5, g6, g7, g8, g9, g10, g11, g12, g13⟩ := giv sc h' hx' hk w1 w2 w3
    rw [w1, if_pos rfl]
    apply hK33
    refine ⟨_, a2.1, s_one hpg (by omega) ?_⟩
    intro K59 hK59
    rw [if_neg (by decide), w3]
    have e39 := a5.2.2.2.2.2.2.2.2.2.2.2.2.2.2
    rw [g1] at e39
    have e39' : fI S 39 (A 3) = nI hh := by rw [e39, hz_pos (by omega)]; rfl
    rw [e39']
    refine s_frameAt a2 a4 h24 g3 ⟨fun z => (by cases z), fun b hb => ?_⟩
    injection hb with hb
    subst hb
    apply hK59
    rintro _ rfl
    refine ⟨_, a2.1, s_namedEntry' hpg (fun v => ?_)⟩
    intro K101 hK101
    rintro _ rfl
    obtain ⟨fc1, fc2, fc3, fc4⟩ := a7 hh g3
    rw [hz_pos g6] at fc1
    rw [fc1, w3]
    refine s_given a2 hpg h17 g6 w2 g10 ?_
    apply hK101
    have e7 := (fc4 g2).2.2.2.1 g4
    rw [e7]
    have cN : c + 1 ≤ N := by have := (tr.1 (X hh) g6 g7).2.2.2; omega
    have := fin (c + 1) (H (hh - 1)) (by omega) cN (Or.inr ⟨g13, by rw [g12]; exact g4⟩) ?_ ?_ ?_
    · rwa [Nat.add_sub_cancel] at this
    · rw [nmy_u2 tr.dn (by omega) cN (by omega), g12, nmy_u2 tr.dn g6 g7 (by omega), g8]
      rcases (a6 (hh - 1) (by omega)).2.2.2.2.2.2 with z | ⟨z, q, q1, q2, q3, q4, q5⟩
      · exact Or.inl z
      · refine Or.inr ⟨z, q, q1, q2, by omega, ?_⟩
        rw [uq_ne (by omega)]; exact ⟨q4, q5⟩
    · have := (a6 (hh - 1) (by omega)).hb; omega
    · intro R0 pc T wr sy g ow hr Sr rp Q2 hQ2
      have lm := rp.1.lay hr.1
      obtain ⟨at1, gx, owx⟩ := hr.at x1 x2
      have hpn : ¬ pn S0 A ks x = true := by unfold pn; rw [decide_eq_true_iff, w1]; exact fun z => absurd z.2 (by decide)
      have hph : pn S0 A ks (X hh) = true := by unfold pn; rw [decide_eq_true_iff]; exact ⟨g4, g5⟩
      obtain ⟨e44, e9⟩ : aI R0 44 (A 44) (g x) = -1 - nI j ∧ True := by
        rcases (hr.us x1 x2 hk).1 with ⟨v1, j', v2, v3, v4⟩ | ⟨v1, _⟩
        · have : j' = j := by
            have e := v3.symm.trans w3
            rwa [nI_eq (by omega) (by omega)] at e
          rw [this] at v4; exact ⟨v4, trivial⟩
        · exact absurd (v1.symm.trans w1) (by decide)
      have rfh := (rp.2.2.1 hh g3).2.2.2.2 g2
      have e81 := rfh.2.2.2.2 hph
      have cb : cp (pn S0 A ks) X (hh - 1) < 24 := by
        have e1 := cp_po (p := pn S0 A ks) (X := X) g2
        rw [hph, if_pos rfl] at e1
        have e2 := cp_mono (p := pn S0 A ks) (X := X) (i := hh) (k := D - 1) (by omega)
        have e3 := cp_imp (X := X) (p := pn S0 A ks) (q := pk ks 10) (fun x h => pn_10 h) (D - 1)
        omega
      have ehw : hw S0 A ks X (H (D - 1)) = nI (cp (pn S0 A ks) X (hh - 1)) := by
        unfold hw; rw [g1, if_neg (by omega)]; rfl
      unfold wp_X12_begin
      intro v1 hv1
      refine ⟨_, lm.f105, by rw [lm.n42]; exact vp_in_nI gx (by omega), ?_⟩
      rw [nI_clamp (by omega), rp.1.a rfl, hr.sort x1 x2, hk, if_neg (by decide), if_neg (by decide), if_neg (by decide), if_neg (by decide), if_neg (by decide), if_neg (by decide), if_neg (by decide), if_neg (by decide), if_neg (by decide), if_neg (by decide), if_pos (by decide)]
      unfold wp_X12_use
      rw [rp.2.1.2.2.2.2.2.2.2.2.2.2.2.2.2.1, hu.1, show (24 : Int32) = nI 24 from rfl, if_neg (fun z => by have := (nI_eq (by omega) (by omega)).mp z; omega)]
      rintro _ rfl
      refine ⟨_, lm.f107, by simp only [fI_s, fI_sn, fL_s, fL_sn, aI_w, aI_wn, aL_w, aL_wn, fI_sL, fI_wI, fI_wL, fL_sI, fL_wI, fL_wL, aI_sI, aI_sL, aI_wL, aL_sI, aL_sL, aL_wI, fR_sI, fR_sL, fR_wI, fR_wL, aN_sI, aN_sL, aN_wI, aN_wL, ne_eq, Nat.reduceEqDiff, not_false_eq_true]; rw [lm.n44]; exact vp_in_nI gx (by omega), ?_⟩
      simp only [fI_s, fI_sn, fL_s, fL_sn, aI_w, aI_wn, aL_w, aL_wn, fI_sL, fI_wI, fI_wL, fL_sI, fL_wI, fL_wL, aI_sI, aI_sL, aI_wL, aL_sI, aL_sL, aL_wI, fR_sI, fR_sL, fR_wI, fR_wL, aN_sI, aN_sL, aN_wI, aN_wL, ne_eq, Nat.reduceEqDiff, not_false_eq_true]
      rw [nI_clamp (by omega), rp.1.a rfl, e44]
      have neg : ¬ (0 : Int32) ≤ -1 - nI j := by
        rw [show (-1 : Int32) = iJ (-1) from rfl, iJ_n, iJ_sub, show (0 : Int32) = iJ 0 from rfl, iJ_le (by omega) (by omega) (by omega) (by omega)]; omega
      rw [if_neg neg]
      refine ⟨_, lm.f167, by rw [lm.n81, ehw]; exact vp_in_nI cb (by omega), ?_⟩
      rintro _ rfl
      refine ⟨_, lm.f107, by rw [lm.n44]; exact vp_in_nI gx (by omega), ?_⟩
      rintro _ rfl
      rw [ehw, nI_clamp (by omega), e81.1]
      have e1j : (-1 : Int32) - (-1 - nI j) = nI j := by
        rw [show (-1 : Int32) = iJ (-1) from rfl, iJ_n, iJ_sub, iJ_sub]; congr 1; omega
      rw [e44, e1j]
      have oh := (hr.us g6 g7 g4).2
      have e46h : aI R0 46 (A 46) (g (X hh)) = nI (g (X hh + 1)) := by
        obtain ⟨c0, d1, d2, d3⟩ := g9 0 (by omega)
        have : c0 = X hh := d1
        have q := hr.2.2.1.1 (X hh) g7
        rw [oh, bn_pos g6, if_pos (by omega)] at q; exact q
      rw [e46h]
      intro P hP
      have key : ∀ f i ci, f + i = j → Ch N bh par (X hh) i ci → P (nI (g (ci + 1))) (nI f) (sI Sr 166 (A 9) (nI (cp (pk ks 10) X (D - 1)) + 1)) := by
        intro f
        induction f with
        | zero =>
          intro i ci i1 i2
          have eci : ci = c := by rw [show i = j by omega] at i2; exact i2.fn g10
          apply hP
          rw [if_pos (by decide)]
          refine ⟨_, lm.f168, by simp only [fI_s, fI_sn, fL_s, fL_sn, aI_w, aI_wn, aL_w, aL_wn, fI_sL, fI_wI, fI_wL, fL_sI, fL_wI, fL_wL, aI_sI, aI_sL, aI_wL, aL_sI, aL_sL, aL_wI, fR_sI, fR_sL, fR_wI, fR_wL, aN_sI, aN_sL, aN_wI, aN_wL, ne_eq, Nat.reduceEqDiff, not_false_eq_true]; rw [lm.n82]; exact vp_in_nI cb (by omega), ?_⟩
          simp only [fI_s, fI_sn, fL_s, fL_sn, aI_w, aI_wn, aL_w, aL_wn, fI_sL, fI_wI, fI_wL, fL_sI, fL_wI, fL_wL, aI_sI, aI_sL, aI_wL, aL_sI, aL_sL, aL_wI, fR_sI, fR_sL, fR_wI, fR_wL, aN_sI, aN_sL, aN_wI, aN_wL, ne_eq, Nat.reduceEqDiff, not_false_eq_true]
          rw [e81.2, eci]
          have oc : ow (c + 1) = g (c + 1) := by
            obtain ⟨q, q1, q2, q3, q4⟩ := (hr.at (x := c + 1) (by omega) cN).1
            rcases q4 with z | ⟨_, _, q7⟩
            · exact z.2
            · rcases q7 with ⟨z, _⟩ | ⟨z, _⟩ | z | ⟨z, _⟩ | ⟨z, _⟩ | ⟨z, _⟩ | ⟨z, _⟩
              · omega
              · omega
              · rcases z.1 with ⟨_, z, _⟩ | ⟨z, _⟩ <;> omega
              · omega
              · omega
              · omega
              · omega
          have lm1 : LayM (sI Sr 166 (A 9) (nI (cp (pk ks 10) X (D - 1)) + 1)) A := lm.st rfl
          rw [← oc]
          refine r_enter lm1 (by simp only [fI_s, fI_sn, fL_s, fL_sn, aI_w, aI_wn, aL_w, aL_wn, fI_sL, fI_wI, fI_wL, fL_sI, fL_wI, fL_wL, aI_sI, aI_sL, aI_wL, aL_sI, aL_sL, aL_wI, fR_sI, fR_sL, fR_wI, fR_wL, aN_sI, aN_sL, aN_wI, aN_wL, ne_eq, Nat.reduceEqDiff, not_false_eq_true]; exact rp.2.1.2.1) (by omega) (hr.at (x := c + 1) (by omega) cN).2.2 ?_
          have ehh : hw S0 A ks X (H (hh - 1)) = hw S0 A ks (uq X D x) (H (hh - 1)) := by
            have := (a6 (hh - 1) (by omega)).hb
            exact (hw_cg (fun i hi => uq_ne (by omega))).symm
          rw [ehh]
          refine hQ2 _ (rp.1.sI rfl) (fun j j1 j2 => by rw [fI_sn _ _ _ _ _ j1]) (fun j => rfl) (by simp only [fI_s, fI_sn, fL_s, fL_sn, aI_w, aI_wn, aL_w, aL_wn, fI_sL, fI_wI, fI_wL, fL_sI, fL_wI, fL_wL, aI_sI, aI_sL, aI_wL, aL_sI, aL_sL, aL_wI, fR_sI, fR_sL, fR_wI, fR_wL, aN_sI, aN_sL, aN_wI, aN_wL, ne_eq, Nat.reduceEqDiff, not_false_eq_true]; rw [rp.2.1.2.2.2.2.2.2.2.2.2.2.2.2.2.1, hu.1]) (by simp only [fI_s, fI_sn, fL_s, fL_sn, aI_w, aI_wn, aL_w, aL_wn, fI_sL, fI_wI, fI_wL, fL_sI, fL_wI, fL_wL, aI_sI, aI_sL, aI_wL, aL_sI, aL_sL, aL_wI, fR_sI, fR_sL, fR_wI, fR_wL, aN_sI, aN_sL, aN_wI, aN_wL, ne_eq, Nat.reduceEqDiff, not_false_eq_true]; rw [rp.2.1.2.2.2.2.2.2.2.2.2.2.2.2.2.2.2, if_neg hpn]; rfl) (fun r _ _ _ _ => rfl) (fun r => rfl) (fun i _ => ⟨rfl, rfl⟩) (fun z => absurd z hpn)
        | succ f ih =>
          intro i ci i1 i2
          obtain ⟨c2, d1, d2, d3⟩ := g9 (i + 1) (by omega)
          have d1' := d1
          obtain ⟨c', f1, f2, f3, f4, f5⟩ := d1
          have : c' = ci := f1.fn i2
          subst this
          apply hP
          rw [if_neg (nI_nle (by omega) (by omega))]
          refine ⟨_, lm.f110, by simp only [fI_s, fI_sn, fL_s, fL_sn, aI_w, aI_wn, aL_w, aL_wn, fI_sL, fI_wI, fI_wL, fL_sI, fL_wI, fL_wL, aI_sI, aI_sL, aI_wL, aL_sI, aL_sL, aL_wI, fR_sI, fR_sL, fR_wI, fR_wL, aN_sI, aN_sL, aN_wI, aN_wL, ne_eq, Nat.reduceEqDiff, not_false_eq_true]; rw [lm.n47]; exact vp_in_nI (hr.at (x := c' + 1) (by omega) f2).2.1 (by omega), ?_⟩
          rintro _ rfl _ rfl
          simp only [fI_s, fI_sn, fL_s, fL_sn, aI_w, aI_wn, aL_w, aL_wn, fI_sL, fI_wI, fI_wL, fL_sI, fL_wI, fL_wL, aI_sI, aI_sL, aI_wL, aL_sI, aL_sL, aL_wI, fR_sI, fR_sL, fR_wI, fR_wL, aN_sI, aN_sL, aN_wI, aN_wL, ne_eq, Nat.reduceEqDiff, not_false_eq_true]
          rw [nI_clamp (by have := (hr.at (x := c' + 1) (by omega) f2).2.1; omega), rp.1.a rfl, hr.2.2.1.2.1 (c' + 1) (by omega) f2, f3, bn_pos g6, f4, if_pos (by omega), show nI (f + 1) + (-1) = nI f from by rw [← Int32.sub_eq_add_neg]; exact nI_pred f]
          exact ih (i + 1) c2 (by omega) d1'
      exact key j 0 (X hh) (by omega) rfl
  · -- a name
    rw [w1, if_neg (by decide)]
    apply hK33
    refine ⟨_, a2.1, s_one hpg (by omega) ?_⟩
    intro K59 hK59
    rw [if_pos rfl, w3]
    rintro _ rfl
    refine ⟨_, a2.1, s_namedEntry hpg w2 ?_⟩
    intro K101 hK101
    apply hK101
    obtain ⟨zx, mm, v1, v2, v3, v4, v5, v6, v7⟩ := r0.2.2.2.2 d w2
    rw [v5, h24]
    have hzD : nI D = hz (D + 1) := by rw [hz_pos (by omega)]; rfl
    rw [hzD]
    refine fin zx (D + 1) v1 v2 (Or.inl v3) ?_ (Nat.le_refl _) ?_
    · rw [nmy_n2 v1 v3]
      refine Or.inr ⟨v1, D, rfl, a3, Nat.le_refl D, ?_⟩
      rw [uq_at]
      exact ⟨hk, w1, d, w2, w3, v5⟩
    · intro R0 pc T wr sy g ow hr Sr rp Q2 hQ2
      have lm := rp.1.lay hr.1
      obtain ⟨at1, gx, owx⟩ := hr.at x1 x2
      have hpn : pn S0 A ks x = true := by unfold pn; rw [decide_eq_true_iff]; exact ⟨hk, w1⟩
      have e44 : aI R0 44 (A 44) (g x) = nI d := by
        rcases (hr.us x1 x2 hk).1 with ⟨y1, _⟩ | ⟨y1, d', y2, y3, y4⟩
        · exact absurd (y1.symm.trans w1) (by decide)
        · have hd := hr.2.1.2.2.2.2
          have : d' = d := by
            have e := y3.symm.trans w3
            rwa [nI_eq (by omega) (by omega)] at e
          rw [this] at y4; exact y4
      have hd := hr.2.1.2.2.2.2
      have e57 : aI R0 57 (A 57) d = nI (ow zx) := by
        obtain ⟨z', m', y1, y2, y3, y4, y5, y6, y7⟩ := hr.2.2.2.2 d w2
        have : z' - 1 = zx - 1 := by
          have e := y5.symm.trans v5
          have := sc.2.2.1.1
          rwa [nI_eq (by omega) (by omega)] at e
        rw [y6, show z' = zx by omega]
      have cb : cp (pn S0 A ks) X (D - 1) < 24 := by
        have e3 := cp_imp (X := X) (p := pn S0 A ks) (q := pk ks 10) (fun x h => pn_10 h) (D - 1)
        omega
      have e169 := rp.2.1.2.2.2.2.2.2.2.2.2.2.2.2.2.2.2
      unfold wp_X12_begin
      intro v1' hv1
      refine ⟨_, lm.f105, by rw [lm.n42]; exact vp_in_nI gx (by omega), ?_⟩
      rw [nI_clamp (by omega), rp.1.a rfl, hr.sort x1 x2, hk, if_neg (by decide), if_neg (by decide), if_neg (by decide), if_neg (by decide), if_neg (by decide), if_neg (by decide), if_neg (by decide), if_neg (by decide), if_neg (by decide), if_neg (by decide), if_pos (by decide)]
      unfold wp_X12_use
      rw [rp.2.1.2.2.2.2.2.2.2.2.2.2.2.2.2.1, hu.1, show (24 : Int32) = nI 24 from rfl, if_neg (fun z => by have := (nI_eq (by omega) (by omega)).mp z; omega)]
      rintro _ rfl
      refine ⟨_, lm.f107, by simp only [fI_s, fI_sn, fL_s, fL_sn, aI_w, aI_wn, aL_w, aL_wn, fI_sL, fI_wI, fI_wL, fL_sI, fL_wI, fL_wL, aI_sI, aI_sL, aI_wL, aL_sI, aL_sL, aL_wI, fR_sI, fR_sL, fR_wI, fR_wL, aN_sI, aN_sL, aN_wI, aN_wL, ne_eq, Nat.reduceEqDiff, not_false_eq_true]; rw [lm.n44]; exact vp_in_nI gx (by omega), ?_⟩
      simp only [fI_s, fI_sn, fL_s, fL_sn, aI_w, aI_wn, aL_w, aL_wn, fI_sL, fI_wI, fI_wL, fL_sI, fL_wI, fL_wL, aI_sI, aI_sL, aI_wL, aL_sI, aL_sL, aL_wI, fR_sI, fR_sL, fR_wI, fR_wL, aN_sI, aN_sL, aN_wI, aN_wL, ne_eq, Nat.reduceEqDiff, not_false_eq_true]
      rw [nI_clamp (by omega), rp.1.a rfl, e44, if_pos (nI_pos' (by omega)), e169]
      refine ⟨_, lm.f167, _, lm.f109, by rw [lm.n46]; exact vp_in_nI gx (by omega), by rw [lm.n81]; exact vp_in_nI cb (by omega), ?_⟩
      rw [nI_clamp (by omega), rp.1.a rfl]
      rintro _ rfl
      refine ⟨_, lm.f168, by simp only [fI_s, fI_sn, fL_s, fL_sn, aI_w, aI_wn, aL_w, aL_wn, fI_sL, fI_wI, fI_wL, fL_sI, fL_wI, fL_wL, aI_sI, aI_sL, aI_wL, aL_sI, aL_sL, aL_wI, fR_sI, fR_sL, fR_wI, fR_wL, aN_sI, aN_sL, aN_wI, aN_wL, ne_eq, Nat.reduceEqDiff, not_false_eq_true]; rw [e169, lm.n82]; exact vp_in_nI cb (by omega), ?_⟩
      simp only [fI_s, fI_sn, fL_s, fL_sn, aI_w, aI_wn, aL_w, aL_wn, fI_sL, fI_wI, fI_wL, fL_sI, fL_wI, fL_wL, aI_sI, aI_sL, aI_wL, aL_sI, aL_sL, aL_wI, fR_sI, fR_sL, fR_wI, fR_wL, aN_sI, aN_sL, aN_wI, aN_wL, ne_eq, Nat.reduceEqDiff, not_false_eq_true]
      rw [e169, nI_clamp (by omega)]
      rintro _ rfl _ rfl
      refine ⟨_, lm.f123, _, lm.f107, by simp only [fI_s, fI_sn, fL_s, fL_sn, aI_w, aI_wn, aL_w, aL_wn, fI_sL, fI_wI, fI_wL, fL_sI, fL_wI, fL_wL, aI_sI, aI_sL, aI_wL, aL_sI, aL_sL, aL_wI, fR_sI, fR_sL, fR_wI, fR_wL, aN_sI, aN_sL, aN_wI, aN_wL, ne_eq, Nat.reduceEqDiff, not_false_eq_true]; rw [lm.n44]; exact vp_in_nI gx (by omega), ?_⟩
      simp only [fI_s, fI_sn, fL_s, fL_sn, aI_w, aI_wn, aL_w, aL_wn, fI_sL, fI_wI, fI_wL, fL_sI, fL_wI, fL_wL, aI_sI, aI_sL, aI_wL, aL_sI, aL_sL, aL_wI, fR_sI, fR_sL, fR_wI, fR_wL, aN_sI, aN_sL, aN_wI, aN_wL, ne_eq, Nat.reduceEqDiff, not_false_eq_true]
      rw [rp.1.a rfl, e44, lm.n57]
      refine ⟨vp_in_nI (by omega) (by omega), ?_⟩
      rw [nI_clamp (by omega), rp.1.a rfl, e57, e169]
      simp only [nI_1, nI_pred]
      generalize hSr1 : sI (wI (wI (sI Sr 166 (A 9) (nI (cp (pk ks 10) X (D - 1) + 1))) 81 (A 81) (cp (pn S0 A ks) X (D - 1)) (aI R0 46 (A 46) (g x))) 82 (A 82) (cp (pn S0 A ks) X (D - 1)) (hw S0 A ks X (H (D - 1)))) 169 (A 9) (nI (cp (pn S0 A ks) X (D - 1) + 1)) = Sr1
      have lm1 : LayM Sr1 A := by rw [← hSr1]; exact lm.st rfl
      have ehw : nI (cp (pn S0 A ks) X (D - 1)) = hw S0 A ks (uq X D x) (D + 1) := by
        unfold hw; rw [if_neg (by omega), show D + 1 - 2 = D - 1 by omega, cp_uq (by omega)]
      rw [ehw]
      refine r_enter lm1 (by rw [← hSr1]; simp only [fI_s, fI_sn, fL_s, fL_sn, aI_w, aI_wn, aL_w, aL_wn, fI_sL, fI_wI, fI_wL, fL_sI, fL_wI, fL_wL, aI_sI, aI_sL, aI_wL, aL_sI, aL_sL, aL_wI, fR_sI, fR_sL, fR_wI, fR_wL, aN_sI, aN_sL, aN_wI, aN_wL, ne_eq, Nat.reduceEqDiff, not_false_eq_true]; exact rp.2.1.2.1) (by omega) (hr.at v1 v2).2.2 ?_
      refine hQ2 _ (by rw [← hSr1]; exact (((rp.1.sI rfl).wI rfl).wI rfl).sI rfl) (fun j j1 j2 => by rw [← hSr1, fI_sn _ _ _ _ _ j2, fI_wI, fI_wI, fI_sn _ _ _ _ _ j1]) (fun j => by rw [← hSr1]; rfl) (by rw [← hSr1]; simp only [fI_s, fI_sn, fL_s, fL_sn, aI_w, aI_wn, aL_w, aL_wn, fI_sL, fI_wI, fI_wL, fL_sI, fL_wI, fL_wL, aI_sI, aI_sL, aI_wL, aL_sI, aL_sL, aL_wI, fR_sI, fR_sL, fR_wI, fR_wL, aN_sI, aN_sL, aN_wI, aN_wL, ne_eq, Nat.reduceEqDiff, not_false_eq_true]; rw [rp.2.1.2.2.2.2.2.2.2.2.2.2.2.2.2.1, hu.1, nI_1]) (by rw [← hSr1, if_pos hpn]; simp only [fI_s, fI_sn, fL_s, fL_sn, aI_w, aI_wn, aL_w, aL_wn, fI_sL, fI_wI, fI_wL, fL_sI, fL_wI, fL_wL, aI_sI, aI_sL, aI_wL, aL_sI, aL_sL, aL_wI, fR_sI, fR_sL, fR_wI, fR_wL, aN_sI, aN_sL, aN_wI, aN_wL, ne_eq, Nat.reduceEqDiff, not_false_eq_true]) (fun r r1 r2 r3 r4 => by rw [← hSr1, aI_sI, aI_wn _ _ _ _ _ _ r4, aI_wn _ _ _ _ _ _ r3]; rfl) (fun r => by rw [← hSr1]; rfl) (fun i hi => ?_) (fun _ => ?_)
      · rw [← hSr1]
        simp only [fI_s, fI_sn, fL_s, fL_sn, aI_w, aI_wn, aL_w, aL_wn, fI_sL, fI_wI, fI_wL, fL_sI, fL_wI, fL_wL, aI_sI, aI_sL, aI_wL, aL_sI, aL_sL, aL_wI, fR_sI, fR_sL, fR_wI, fR_wL, aN_sI, aN_sL, aN_wI, aN_wL, ne_eq, Nat.reduceEqDiff, not_false_eq_true]
        exact ⟨by rw [uq_ne (by omega)], by rw [uq_ne (by omega)]⟩
      · rw [← hSr1]
        simp only [fI_s, fI_sn, fL_s, fL_sn, aI_w, aI_wn, aL_w, aL_wn, fI_sL, fI_wI, fI_wL, fL_sI, fL_wI, fL_wL, aI_sI, aI_sL, aI_wL, aL_sI, aL_sL, aL_wI, fR_sI, fR_sL, fR_wI, fR_wL, aN_sI, aN_sL, aN_wI, aN_wL, ne_eq, Nat.reduceEqDiff, not_false_eq_true]
        exact ⟨uq_at, uq_at⟩
end
