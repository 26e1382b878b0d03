/-! Performing: words of both. -/
section
variable {S S1 S2 S0 Sr Sr1 Sr2 R0 : PS} {A : Nat → Nat} {B : Nat → Int32} {n N nd pc : Nat} {bh par ks lv g ow : Nat → Nat}
variable {D m st E V M t ln sy x v j e : Nat} {lp : Int} {X Y C H F VF TB : Nat → Nat} {kk : Nat × Nat}
theorem RSR.wr {T wr : Nat} (h : RSR S0 R0 A B n N nd bh par ks pc T wr sy g ow) (h1 : 1 ≤ x) (h2 : x ≤ N) (hk : ks x = 8) : ∃ pl, pl < n ∧ aI S0 16 (A 16) (x - 1) = nI pl ∧ AtW S0 R0 A B n pc sy (x - 1) (g x) pl := by
  obtain ⟨⟨pl, a1, a2, a3, a4⟩, _⟩ := h.at h1 h2
  rcases a4 with z | ⟨a5, a6, a7⟩
  · omega
  · rcases a7 with ⟨z, _⟩ | ⟨z, _⟩ | z | ⟨z, _⟩ | ⟨_, _, z⟩ | ⟨z, _⟩ | ⟨z, _⟩
    · omega
    · omega
    · rcases z.1 with ⟨_, z, _⟩ | ⟨z, _⟩ <;> omega
    · omega
    · exact ⟨pl, a5, a2, z⟩
    · omega
    · omega
theorem RPf.fit (rp : RPf S Sr S0 R0 A B n sy N bh ks g ow D E V M X Y C H F) (hn : n ≤ 1500) (hsy : sy ≤ 1500) (hj : j < 3) (he : e < E) : Fit S A v j e ↔ aI Sr 65 (A 65) e = nI v ∧ aI Sr 66 (A 66) e ≠ 0 ∧ aI Sr 68 (A 68) e = 0 ∧ aI Sr 75 (A 75) (3 * e + j) = -1 := by
  obtain ⟨d1, ⟨c, cs, d2, d3⟩, d4, d5, d6, d7, d8⟩ := rp.2.2.2.2.1 e he
  have z1 : aL S 31 (A 31) e ≠ 0 ↔ aI Sr 66 (A 66) e ≠ 0 := by
    have := d2.1
    rw [d3.1, show (0 : Int32) = nI 0 from rfl, Ne, Ne, nI_eq (by omega) (by omega), d2.z]
  have z2 : aI S 34 (A 34) (3 * e + j) = -1 ↔ aI Sr 75 (A 75) (3 * e + j) = -1 := by
    rcases d8 j hj with ⟨y1, y2⟩ | ⟨y, s, y1, y2, y3, y4, _⟩
    · rw [y1, y2]
    · rw [y2, y4]
      exact ⟨fun q => absurd q (sco_ne y1 hn), fun q => absurd q (nI_ne_neg (by omega))⟩
  unfold Fit
  rw [d1, d5, z1, z2]
theorem k_wrd {Q : Int32 → PS → Prop} (sc : StC S0 A B n pc N nd bh par ks lv) (h : CPf S S0 A B n N nd bh par ks lv D m st E V M t ln lp X Y C H F VF TB) (hx : Itm N par Y D x) (hk : ks x = 8)
    (hQ : ∀ S2, CPf S2 S0 A B n N nd bh par ks lv D m st E V M t ln lp X Y C H F VF TB → GoB S0 A B n N nd bh par ks x S D E V M X Y C H F S2 D E V M X Y C H F → Q 1 S2)
    (hF : ∀ S2 e, CBad S0 S2 A m F e → GoF S0 A B n N nd bh par ks x S D E V M X Y C H F e → Q 0 S2) : wp_X3_begin (A 3) (nI (x - 1)) kk S Q := by
  obtain ⟨x1, x2, x3⟩ := hx
  have h' := h
  obtain ⟨a1, a2, ⟨a3, a4⟩, a5, a6, a7, a8, a9, a10⟩ := h
  have hpg := sc.pg a1 a2
  have hn := sc.2.2.1.2.2.2.1
  have hpc := sc.2.2.1.2.1
  obtain ⟨R00, T0, wr0, sy0, g0, ow0, r0⟩ := sc.rsr
  obtain ⟨pl, pl1, pl2, hB, f, wq, c, vs, t1, t2, t3, t4, t5, t6, t7, t8, t9, t10, t11⟩ := r0.wr x1 x2 hk
  have hE := a10.1
  have hv := a8.2.1 (D - 1) (by omega)
  have he : x - 1 < N := by omega
  have hy' : ∀ k, ∃ y : Nat × Nat, k < c → Wdy B n y ∧ aI S0 22 (A 22) (f + k) = sco B y := fun k => by
    by_cases kc : k < c
    · obtain ⟨y, y1, y2, y3, y4, _⟩ := t11 k kc
      exact ⟨y, fun _ => ⟨⟨y1, y2, y3⟩, y4⟩⟩
    · exact ⟨(0, 0), fun z => absurd z kc⟩
  obtain ⟨yf, hyf⟩ := Classical.skolem.mp hy'
  -- how far the reference follows
  have refi : ∀ R0 pc T wr sy g ow, RSR S0 R0 A B n N nd bh par ks pc T wr sy g ow → g x < 3100 ∧ ∃ w', aI R0 45 (A 45) (g x) = nI w' ∧ w' + c ≤ sy ∧ sy ≤ 1500 ∧ aL R0 48 (A 48) (g x) = lN c ∧ aI R0 44 (A 44) (g x) = nI vs ∧ ∀ k, k < c → ∃ y, Wdy B n y ∧ sco B y = sco B (yf k) ∧ aI R0 53 (A 53) (w' + k) = nI y.1 ∧ aI R0 54 (A 54) (w' + k) = nI y.2 := by
    intro R0 pc T wr sy g ow hr
    obtain ⟨_, gx, _⟩ := hr.at x1 x2
    obtain ⟨pl', u1, u2, _, f', w', c', vs', s1, s2, s3, s4, s5, s6, s7, s8, s9, s10, s11⟩ := hr.wr x1 x2 hk
    have hb := hr.2.1
    have e1 : c' = c := by
      have q := s5.symm.trans t5
      rwa [nI_eq (by omega) (by omega)] at q
    have e2 : vs' = vs := by
      have q := s9.symm.trans t9
      rwa [nI_eq (by omega) (by omega)] at q
    have e3 : f' = f := by
      have q := s1.symm.trans t1
      rwa [nI_eq (by omega) (by omega)] at q
    subst e1 e2 e3
    refine ⟨gx, w', s3, s4, by omega, s6, s10, fun k hk => ?_⟩
    obtain ⟨y, y1, y2, y3, y4, y5, y6⟩ := s11 k hk
    exact ⟨y, ⟨y1, y2, y3⟩, y4.symm.trans (hyf k hk).2, y5, y6⟩
  have ref : ∀ R0 pc T wr sy g ow, RSR S0 R0 A B n N nd bh par ks pc T wr sy g ow → ∀ Sr, RPf S Sr S0 R0 A B n sy N bh ks g ow D E V M X Y C H F → ∀ Q2 : PS → Prop, (∀ w' P2, aI R0 45 (A 45) (g x) = nI w' → ClW A (g x) Q2 P2 → P2 (nI w') Sr) → wp_X12_begin (A 9) (nI (g x)) (hw S0 A ks X (H (D - 1))) Sr Q2 := by
    intro R0 pc T wr sy g ow hr Sr rp Q2 q
    have lm := rp.1.lay hr.1
    obtain ⟨gx, w', w1, _⟩ := refi R0 pc T wr sy g ow hr
    unfold wp_X12_begin
    intro z1 hz1
    refine ⟨_, lm.f105, by rw [lm.n42]; exact vp_in_nI gx (by omega), ?_⟩
    rw [nI_clamp (by omega), rp.1.a rfl, hr.sort x1 x2, hk, if_neg (by decide), if_neg (by decide), if_neg (by decide), if_neg (by decide), if_neg (by decide), if_neg (by decide), if_neg (by decide), if_neg (by decide), if_pos (by decide)]
    unfold wp_X12_words
    refine ⟨_, lm.f108, by rw [lm.n45]; exact vp_in_nI gx (by omega), ?_⟩
    rintro _ rfl
    intro P2 hP2
    rw [nI_clamp (by omega), rp.1.a rfl, w1]
    exact q w' P2 w1 hP2
  unfold wp_X3_begin
  refine ⟨_, a2.1, s_kindOf hpg he pl2 pl1 ?_⟩
  rw [hB, if_neg (by decide), if_neg (by decide), if_neg (by decide), if_neg (by decide), if_neg (by decide), if_neg (by decide), if_pos rfl]
  unfold wp_X3_sing
  refine ⟨_, a2.1, s_one hpg he ?_⟩
  refine ⟨_, a2.1, s_two hpg he ?_⟩
  rw [t9, t5, show (1500 : Int32) = nI 1500 from rfl, if_neg (nI_nlt (by omega) (by omega))]
  rintro _ rfl
  intro P hP
  have key : ∀ g0 k Sk, g0 + k = c → CPf Sk S0 A B n N nd bh par ks lv D m st E V M t ln lp X Y C H F VF TB →
      (∀ R0 pc T wr sy g ow, RSR S0 R0 A B n N nd bh par ks pc T wr sy g ow → ∀ Sr, RPf S Sr S0 R0 A B n sy N bh ks g ow D E V M X Y C H F → ∀ w', aI R0 45 (A 45) (g x) = nI w' → ∀ Q2 P2, ClW A (g x) Q2 P2 → (∀ Srk, RPf Sk Srk S0 R0 A B n sy N bh ks g ow D E V M X Y C H F → P2 (nI (w' + k)) Srk) → P2 (nI w') Sr) → P (nI k) Sk := by
    intro g0
    induction g0 with
    | zero =>
      intro k Sk k1 ck gw
      have kc : k = c := by omega
      subst kc
      apply hP
      rw [if_pos (nI_le (Nat.le_refl _) (by omega))]
      refine hQ Sk ck ?_
      intro R0 pc T wr sy g ow hr Sr rp Q2 hQ2
      refine ref R0 pc T wr sy g ow hr Sr rp Q2 (fun w' P2 w1 cl => gw R0 pc T wr sy g ow hr Sr rp w' w1 Q2 P2 cl (fun Srk rpk => ?_))
      obtain ⟨gx, w'', s1, s2, s3, s4, s5, s6⟩ := refi R0 pc T wr sy g ow hr
      have lm := rpk.1.lay hr.1
      have : w'' = w' ∨ True := Or.inr trivial
      have vi : ∀ {r : Nat}, r = 3100 → vp_in (nI (g x)) r := fun h => by rw [h]; exact vp_in_nI gx (by omega)
      apply cl
      unfold WB
      refine ⟨_, lm.f108, vi lm.n45, _, lm.f111, vi lm.n48, ?_⟩
      rw [nI_clamp (by omega), rpk.1.a rfl, rpk.1.l rfl, s4, w1]
      have ew : nI w' = nI w'' := w1.symm.trans s1
      have ew2 : nI (w' + k) = nI (w'' + k) := by rw [← nI_add, ← nI_add, ew]
      rw [ew2, ew, to64 (rfl : nI w'' = nI w'') (by omega), to64 (rfl : nI (w'' + k) = nI (w'' + k)) (by omega), lN_add, if_pos ((lN_leq (by omega) (by omega)).mpr (Nat.le_refl _))]
      exact hQ2 Srk rpk
    | succ g0 ih =>
      intro k Sk k1 ck gw
      have ck' := ck
      obtain ⟨b1, b2, ⟨b3, b4⟩, b5, b6, b7, b8, b9, b10⟩ := ck
      have hpgk := sc.pg b1 b2
      obtain ⟨y1, y2⟩ := hyf k (by omega)
      apply hP
      rw [if_neg (nI_ge (by omega) (by omega))]
      refine ⟨_, b2.1, s_partOf hpgk he t1 (by omega) ?_⟩
      rw [y2]
      refine ⟨_, b2.2.2.2.1, ?_⟩
      rw [b5.2.2.1]
      -- one turn of the reference
      have turn : ∀ R0 pc T wr sy g ow, RSR S0 R0 A B n N nd bh par ks pc T wr sy g ow → ∀ Srk, RPf Sk Srk S0 R0 A B n sy N bh ks g ow D E V M X Y C H F → ∀ w', aI R0 45 (A 45) (g x) = nI w' → ∀ Q2 P2, ClW A (g x) Q2 P2 →
          (∀ e, e < E → Fit Sk A (VF (D - 1)) (vs - 1) e → (∀ e', e' < e → ¬ Fit Sk A (VF (D - 1)) (vs - 1) e') → ∀ Sr1, RPf (wI Sk 34 (A 34) (3 * e + (vs - 1)) (sco B (yf k))) Sr1 S0 R0 A B n sy N bh ks g ow D E V M X Y C H F → P2 (nI (w' + (k + 1))) Sr1) →
          ((∀ e, e < E → ¬ Fit Sk A (VF (D - 1)) (vs - 1) e) → ∀ Sr1, RBad R0 Sr1 A (8, (yf k).1) → P2 (nI (w' + (k + 1))) Sr1) → P2 (nI (w' + k)) Srk := by
        intro R0 pc T wr sy g ow hr Srk rpk w' w1 Q2 P2 cl q1 q0
        obtain ⟨gx, w'', s1, s2, s3, s4, s5, s6⟩ := refi R0 pc T wr sy g ow hr
        have lm := rpk.1.lay hr.1
        obtain ⟨y', z1, z2, z3, z4⟩ := s6 k (by omega)
        have ew : ∀ k, nI (w' + k) = nI (w'' + k) := fun k => by rw [← nI_add, ← nI_add, w1.symm.trans s1]
        rw [ew] at q1 q0 ⊢
        have epl : nI y'.1 = nI (yf k).1 := by rw [← sco_pl z1 hn, z2, sco_pl y1 hn]
        refine r_wturn (S := Sk) (E := E) (v := VF (D - 1)) (vs := vs) (c := c) (pl := y'.1) lm gx (by rw [rpk.1.a rfl]; exact s1) (by rw [rpk.1.l rfl]; exact s4) (by rw [rpk.1.a rfl]; exact s5) t7 t8 (by omega) (by omega) rpk.2.1.1 (by rw [rpk.2.1.2.2.2.1]; exact b5.2.2.1) rpk.2.2.2.1.1 hE.2.1 (by rw [rpk.1.a rfl]; exact z3) cl (fun e he => rpk.fit hn s3 (by omega) he) (fun e e1 e2 e3 => ?_) (fun e0 => ?_)
        · refine q1 e e1 e2 e3 _ (rpk.wd (by omega) e1 hE.2.1 (Or.inr ⟨y', w'' + k, z1, z2.symm, by omega, rfl, z3, z4⟩))
        · exact q0 e0 _ ⟨(rpk.1.sI rfl).sI rfl, by simp only [fI_s, fI_sn, fL_s, fL_sn, aI_w, aI_wn, aL_w, aL_wn, fI_sL, fI_wI, fI_wL, fL_sI, fL_wI, fL_wL, aI_sI, aI_sL, aI_wL, aL_sI, aL_sL, aL_wI, fR_sI, fR_sL, fR_wI, fR_wL, aN_sI, aN_sL, aN_wI, aN_wL, ne_eq, Nat.reduceEqDiff, not_false_eq_true]; rfl, by simp only [fI_s, fI_sn, fL_s, fL_sn, aI_w, aI_wn, aL_w, aL_wn, fI_sL, fI_wI, fI_wL, fL_sI, fL_wI, fL_wL, aI_sI, aI_sL, aI_wL, aL_sI, aL_sL, aL_wI, fR_sI, fR_sL, fR_wI, fR_wL, aN_sI, aN_sL, aN_wI, aN_wL, ne_eq, Nat.reduceEqDiff, not_false_eq_true]; exact epl⟩
      refine s_addSyl (u := VF (D - 1)) (v := vs) b2.2.2.2.2.2 b10.1.1 b10.1.2.1 t7 t8 (fun e e1 e2 e3 => ?_) (fun e0 => ?_)
      · rw [if_neg (by decide)]
        rintro _ rfl
        rw [nI_1]
        refine ih (k + 1) _ (by omega) (ck'.wd (by omega) e1 e2 y1) ?_
        intro R0 pc T wr sy g ow hr Sr rp w' w1 Q2 P2 cl q
        refine gw R0 pc T wr sy g ow hr Sr rp w' w1 Q2 P2 cl (fun Srk rpk => turn R0 pc T wr sy g ow hr Srk rpk w' w1 Q2 P2 cl (fun e' f1 f2 f3 Sr1 r1 => ?_) (fun f0 => absurd e2 (f0 e e1)))
        have : e' = e := by
          rcases Nat.lt_trichotomy e' e with z | z | z
          · exact absurd f2 (e3 e' z)
          · exact z
          · exact absurd e2 (f3 e z)
        subst this
        exact q Sr1 r1
      · rw [if_pos rfl]
        refine ⟨_, b2.2.1, ?_⟩
        unfold wp_X9_place
        rw [sco_pl y1 hn]
        refine s_tell ?_
        refine hF _ (8, (yf k).1) (CBad.mk (kdm (by decide) (by decide)) b1 b2 b4) ?_
        intro R0 pc T wr sy g ow hr Sr rp Q2 hQ2
        refine ref R0 pc T wr sy g ow hr Sr rp Q2 (fun w' P2 w1 cl => gw R0 pc T wr sy g ow hr Sr rp w' w1 Q2 P2 cl (fun Srk rpk => turn R0 pc T wr sy g ow hr Srk rpk w' w1 Q2 P2 cl (fun e' f1 f2 => absurd f2 (e0 e' f1)) (fun _ Sr1 rb => ?_)))
        obtain ⟨gx, w'', s1, s2, s3, s4, s5, s6⟩ := refi R0 pc T wr sy g ow hr
        have lm := rb.1.lay hr.1
        have vi : ∀ {r : Nat}, r = 3100 → vp_in (nI (g x)) r := fun h => by rw [h]; exact vp_in_nI gx (by omega)
        apply cl
        unfold WB
        refine ⟨_, lm.f108, vi lm.n45, _, lm.f111, vi lm.n48, ?_⟩
        split
        · exact hQ2 Sr1 rb
        · rw [if_neg (by rw [rb.2.1]; show ¬ nI 8 = 0; decide)]
          exact hQ2 Sr1 rb
  exact key c 0 S (by omega) h' (fun R0 pc T wr sy g ow hr Sr rp w' w1 Q2 P2 cl q => q Sr rp)
end
