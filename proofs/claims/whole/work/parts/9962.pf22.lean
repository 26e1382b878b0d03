/-! Performing: a meter. -/
section
variable {S S1 S2 S0 Sr Sr1 Sr2 R0 : PS} {A : Nat → Nat} {B : Nat → Int32} {n N nd pc : Nat} {bh par ks lv g ow : Nat → Nat}
variable {D m st E V M t ln sy x : Nat} {lp : Int} {X Y C H F VF TB : Nat → Nat} {kk : Nat × Nat}
theorem pw_mdn {k : Nat} (h : pw2 32 k = true) : mdn k := by
  unfold pw2 at h
  unfold mdn
  simp only [Bool.or_eq_true, Bool.and_eq_true, beq_iff_eq] at h
  omega
/-- the class's meters with a new one at i -/
def mtC (S : PS) (A : Nat → Nat) (i t : Nat) (a b : Int32) : PS := sI (wI (wI (wL S 10 (A 10) i (lN t)) 11 (A 11) i a) 12 (A 12) i b) 17 (A 2) (nI (i + 1))
def mtR (Sr : PS) (A : Nat → Nat) (i t : Nat) (a b : Int32) : PS := wI (wI (wL (sI Sr 153 (A 9) (nI (i + 1))) 78 (A 78) i (lN t)) 79 (A 79) i a) 80 (A 80) i b
theorem PfM.set {i a b : Nat} (h : PfM S A ks D M t X TB) (hi : i = M - 1 ∨ i = M) (h40 : i < 40) (hz : ∀ k, 1 ≤ k → k < D → ks (X k) ≠ 7) (a1 : 1 ≤ a) (a2 : a ≤ 32) (a3 : mdn b) (hm : i = M - 1 → aL S 10 (A 10) (M - 1) = lN t) (hm2 : i = M → aL S 10 (A 10) (M - 1) ≠ lN t) (ht : t ≤ 3870720000) : PfM (mtC S A i t (nI a) (nI b)) A ks D (i + 1) t X TB := by
  obtain ⟨⟨m1, m2, m3⟩, mt, mu, md, m4, m5, m6, m7, m8⟩ := h
  obtain ⟨n1, _⟩ := m4 (M - 1) (by omega)
  have em : i = M - 1 → mt (M - 1) = t := fun e => by
    have q := n1.symm.trans (hm e)
    rwa [lN_eqq (by omega) (by omega)] at q
  have em2 : i = M → mt (M - 1) < t := fun e => by
    have : mt (M - 1) ≠ t := fun z => hm2 e (by rw [n1, z])
    omega
  refine ⟨⟨by unfold mtC; simp only [fI_s, fI_sn, fL_s, fL_sn, aI_w, aI_wn, aL_w, aL_wn, fI_sL, fI_wI, fI_wL, fL_sI, fL_wI, fL_wL, aI_sI, aI_sL, aI_wL, aL_sI, aL_sL, aL_wI, fR_sI, fR_sL, fR_wI, fR_wL, aN_sI, aN_sL, aN_wI, aN_wL, ne_eq, Nat.reduceEqDiff, not_false_eq_true], by omega, by omega⟩, uq mt i t, uq mu i a, uq md i b, fun k hk => ?_, ?_, fun k hk => ?_, ?_, fun k k1 k2 k3 => absurd k3 (hz k k1 k2)⟩
  · unfold mtC
    simp only [fI_s, fI_sn, fL_s, fL_sn, aI_w, aI_wn, aL_w, aL_wn, fI_sL, fI_wI, fI_wL, fL_sI, fL_wI, fL_wL, aI_sI, aI_sL, aI_wL, aL_sI, aL_sL, aL_wI, fR_sI, fR_sL, fR_wI, fR_wL, aN_sI, aN_sL, aN_wI, aN_wL, ne_eq, Nat.reduceEqDiff, not_false_eq_true]
    by_cases e : k = i
    · subst e
      simp only [uq_at]
      exact ⟨trivial, trivial, trivial, a1, a2, a3⟩
    · rw [uq_ne e, uq_ne e, uq_ne e, uq_ne e, uq_ne e, uq_ne e]
      exact m4 k (by omega)
  · by_cases e : i = 0
    · subst e
      rw [uq_at]
      have := em (by omega)
      rw [show M - 1 = 0 by omega] at this; omega
    · rw [uq_ne (fun z => e z.symm)]; exact m5
  · rw [uq_ne (show k ≠ i by omega)]
    by_cases e : k + 1 = i
    · rw [e, uq_at]
      rcases hi with z | z
      · have := em z
        have h6 := m6 k (by omega)
        rw [show k + 1 = M - 1 by omega, this] at h6; exact h6
      · have := em2 z
        rw [show k = M - 1 by omega]; exact this
    · rw [uq_ne e]; exact m6 k (by omega)
  · rw [Nat.add_sub_cancel, uq_at]; exact Nat.le_refl t
theorem k_mtr {Q : Int32 → PS → Prop} (sc : StC S0 A B n pc N nd bh par ks lv) (h : CPf S S0 A B n N nd bh par ks lv D m st E V M t ln lp X Y C H F VF TB) (hx : Itm N par Y D x) (hk : ks x = 2)
    (hQ : ∀ S2 M1, CPf S2 S0 A B n N nd bh par ks lv D m st E V M1 t ln lp X Y C H F VF TB → GoB S0 A B n N nd bh par ks x S D E V M X Y C H F S2 D E V M1 X Y C H F → Q 1 S2)
    (hF : ∀ S2 e, CBad S0 S2 A m F e → GoF S0 A B n N nd bh par ks x S D E V M X Y C H F e → Q 0 S2) : wp_X3_begin (A 3) (nI (x - 1)) kk S Q := by
  obtain ⟨x1, x2, x3⟩ := hx
  have h' := h
  obtain ⟨a1, a2, ⟨a3, a4⟩, a5, a6, a7, a8, a9, a10⟩ := h
  have hpg := sc.pg a1 a2
  have d201 := a4.2.2.2
  obtain ⟨R00, T0, wr0, sy0, g0, ow0, r0⟩ := sc.rsr
  obtain ⟨pl, pl1, pl2, ah⟩ := r0.hd x1 x2 (by omega)
  have hB : B pl = 77 := by
    rcases ah.1 with ⟨z, _⟩ | ⟨z, _⟩
    · exact z
    · rcases z with ⟨q, z⟩ | ⟨q, z⟩ | ⟨q, z⟩ | ⟨q, z⟩
      all_goals omega
  obtain ⟨ua, ub, u1, u2, u3, u4, u5⟩ := ah.2.2.2.2.2.2 hB
  have u3' := pw_mdn u3
  have a9' := a9
  obtain ⟨⟨m1, m2, m3⟩, mt, mu, md, m4, m5, m6, m7, m8⟩ := a9
  obtain ⟨n1, n2, n3, n4, n5, n6⟩ := m4 (M - 1) (by omega)
  have ht := a5.2.2.2.1
  have h38 := a5.2.2.2.2.2.2.2.2.2.2.2.2.2.1
  have hcp7 := cp_le (p := pk ks 7) (X := X) (D - 1)
  have hl := a2.2.2.2.2.2
  have iff10 : aL S 10 (A 10) (M - 1) = lN t ↔ mt (M - 1) = t := by rw [n1, lN_eqq (by omega) (by omega)]
  have ref : ∀ R0 pc T wr sy g ow, RSR S0 R0 A B n N nd bh par ks pc T wr sy g ow → ∀ Sr, RPf S Sr S0 R0 A B n sy N bh ks g ow D E V M X Y C H F → ∀ Q : PS → Prop,
      ((0 < cp (pk ks 7) X (D - 1) ∨ ¬ (t - mt (M - 1)) % (mu (M - 1) * 3870720 / md (M - 1)) = 0) → ∀ Sr1, RBad R0 Sr1 A (7, pl) → Q Sr1) →
      (¬ mt (M - 1) = t → M = 40 → cp (pk ks 7) X (D - 1) = 0 → (t - mt (M - 1)) % (mu (M - 1) * 3870720 / md (M - 1)) = 0 → ∀ Sr1, RBad R0 Sr1 A (5, pl) → Q Sr1) →
      (∀ i, (i = M - 1 ∧ mt (M - 1) = t ∨ i = M ∧ ¬ mt (M - 1) = t ∧ M < 40) → cp (pk ks 7) X (D - 1) = 0 → (t - mt (M - 1)) % (mu (M - 1) * 3870720 / md (M - 1)) = 0 → RPf (mtC S A i t (nI ua) (nI ub)) (mtR Sr A i t (nI ua) (nI ub)) S0 R0 A B n sy N bh ks g ow D E V (i + 1) X Y C H F → Q (mtR Sr A i t (nI ua) (nI ub))) → wp_X12_begin (A 9) (nI (g x)) (hw S0 A ks X (H (D - 1))) Sr Q := by
    intro R0 pc T wr sy g ow hr Sr rp Q2 q7 q5 q1
    have lm := rp.1.lay hr.1
    obtain ⟨at1, gx, owx⟩ := hr.at x1 x2
    obtain ⟨q, v1, v2, v3, _⟩ := hr.pl x1 x2 (by omega)
    obtain ⟨q', v1', v2', ah'⟩ := hr.hd x1 x2 (by omega)
    have e1 : nI q = nI pl := v2.symm.trans pl2
    have e44 : aI R0 44 (A 44) (g x) = nI ua := ah'.2.1.trans u4
    have e45 : aI R0 45 (A 45) (g x) = nI ub := ah'.2.2.1.trans u5
    obtain ⟨w1, w2, w3⟩ := rp.2.2.2.2.2.2 (M - 1) (by omega)
    have b5 : ∀ k : Nat, RBad R0 (sI (sI Sr 102 (A 9) (nI k)) 103 (A 9) (nI q)) A (k, pl) := fun k => ⟨(rp.1.sI rfl).sI rfl, by simp only [fI_s, fI_sn, fL_s, fL_sn, aI_w, aI_wn, aL_w, aL_wn, fI_sL, fI_wI, fI_wL, fL_sI, fL_wI, fL_wL, aI_sI, aI_sL, aI_wL, aL_sI, aL_sL, aL_wI, fR_sI, fR_sL, fR_wI, fR_wL, aN_sI, aN_sL, aN_wI, aN_wL, ne_eq, Nat.reduceEqDiff, not_false_eq_true], by simp only [fI_s, fI_sn, fL_s, fL_sn, aI_w, aI_wn, aL_w, aL_wn, fI_sL, fI_wI, fI_wL, fL_sI, fL_wI, fL_wL, aI_sI, aI_sL, aI_wL, aL_sI, aL_sL, aL_wI, fR_sI, fR_sL, fR_wI, fR_wL, aN_sI, aN_sL, aN_wI, aN_wL, ne_eq, Nat.reduceEqDiff, not_false_eq_true]; exact e1⟩
    have e153 := rp.2.2.2.1.2.2
    have e156 : fL Sr 156 (A 9) = lN t := by rw [rp.2.1.2.2.2.2.1]; exact ht.1
    unfold wp_X12_begin
    intro z1 hz1
    refine ⟨_, lm.f105, by rw [lm.n42]; exact vp_in_nI gx (by omega), ?_⟩
    rw [nI_clamp (by omega), rp.1.a rfl, hr.sort x1 x2, hk, if_neg (by decide), if_neg (by decide), if_pos (by decide)]
    unfold wp_X12_meter
    intro K18 hK18
    have bad7 : (0 < cp (pk ks 7) X (D - 1) ∨ ¬ (t - mt (M - 1)) % (mu (M - 1) * 3870720 / md (M - 1)) = 0) → K18 Sr := by
      intro hc
      apply hK18
      exact r_pbad lm gx rp.2.1.1 (by rw [rp.1.a rfl]; exact v3) (q7 hc _ (b5 7))
    rw [rp.2.1.2.2.2.2.2.2.2.2.2.2.2.2.2.2.1, h38]
    by_cases c7 : 0 < cp (pk ks 7) X (D - 1)
    · rw [if_pos (show (0 : Int32) < nI (cp (pk ks 7) X (D - 1)) from nI_lt (a := 0) c7 (by omega))]
      exact bad7 (Or.inl c7)
    · have c70 : cp (pk ks 7) X (D - 1) = 0 := by omega
      rw [c70, if_neg (by decide), e156]
      refine r_isBar (mt := mt (M - 1)) (mu := mu (M - 1)) (md := md (M - 1)) lm e153 m2 m3 (w1.trans n1) (w2.trans n2) (w3.trans n3) n4 n5 n6 ht.2 m7 (fun cb => ?_) (fun cb => ?_)
      · rw [if_neg (by decide), e153, nI_pr m2]
        refine ⟨_, lm.f150, by rw [lm.n78]; exact vp_in_nI (by omega) (by omega), ?_⟩
        intro K55 hK55
        rw [nI_clamp (by omega), w1, e156]
        -- what is set at i
        have put : ∀ i, (i = M - 1 ∧ mt (M - 1) = t ∨ i = M ∧ ¬ mt (M - 1) = t ∧ M < 40) → ∀ K : Nat → Int32 → Int32 → PS → Prop, (∀ (t13 : Nat) (t14 : Int32) (t15 : Int32) (S16 : PS), (∀ S18, S18 = sI S16 153 t13 (t14 + t15) → (∃ b19, fR S18 150 (A 9) = some b19 ∧ (vp_in ((fI S18 153 (A 9)) - 1) (aN S18 b19) ∧ ∀ S20, S20 = wL S18 78 b19 ((fI S18 153 (A 9)) - 1).toNatClampNeg (fL S18 156 (A 9)) → (∃ b21, fR S20 151 (A 9) = some b21 ∧ (∃ b22, fR S20 107 (A 9) = some b22 ∧ (vp_in (nI (g x)) (aN S20 b22) ∧ (vp_in ((fI S20 153 (A 9)) - 1) (aN S20 b21) ∧ ∀ S23, S23 = wI S20 79 b21 ((fI S20 153 (A 9)) - 1).toNatClampNeg (aI S20 44 b22 (nI (g x)).toNatClampNeg) → (∃ b24, fR S23 152 (A 9) = some b24 ∧ (∃ b25, fR S23 108 (A 9) = some b25 ∧ (vp_in (nI (g x)) (aN S23 b25) ∧ (vp_in ((fI S23 153 (A 9)) - 1) (aN S23 b24) ∧ ∀ S26, S26 = wI S23 80 b24 ((fI S23 153 (A 9)) - 1).toNatClampNeg (aI S23 45 b25 (nI (g x)).toNatClampNeg) → Q2 S26))))))))))) → K t13 t14 t15 S16) → ∀ d : Int32, nI M + d = nI (i + 1) → K (A 9) (nI M) d Sr := by
          intro i hi K hK d hd
          have i40 : i < 40 := by omega
          have ci : (nI i).toNatClampNeg = i := nI_clamp (by omega)
          have cg : (nI (g x)).toNatClampNeg = g x := nI_clamp (by omega)
          apply hK
          rintro _ rfl
          rw [hd]
          refine ⟨_, lm.f150, by simp only [fI_s, fI_sn, fL_s, fL_sn, aI_w, aI_wn, aL_w, aL_wn, fI_sL, fI_wI, fI_wL, fL_sI, fL_wI, fL_wL, aI_sI, aI_sL, aI_wL, aL_sI, aL_sL, aL_wI, fR_sI, fR_sL, fR_wI, fR_wL, aN_sI, aN_sL, aN_wI, aN_wL, ne_eq, Nat.reduceEqDiff, not_false_eq_true]; rw [nI_pred, lm.n78]; exact vp_in_nI i40 (by omega), ?_⟩
          rintro _ rfl
          refine ⟨_, lm.f151, _, lm.f107, by simp only [fI_s, fI_sn, fL_s, fL_sn, aI_w, aI_wn, aL_w, aL_wn, fI_sL, fI_wI, fI_wL, fL_sI, fL_wI, fL_wL, aI_sI, aI_sL, aI_wL, aL_sI, aL_sL, aL_wI, fR_sI, fR_sL, fR_wI, fR_wL, aN_sI, aN_sL, aN_wI, aN_wL, ne_eq, Nat.reduceEqDiff, not_false_eq_true]; rw [lm.n44]; exact vp_in_nI gx (by omega), by simp only [fI_s, fI_sn, fL_s, fL_sn, aI_w, aI_wn, aL_w, aL_wn, fI_sL, fI_wI, fI_wL, fL_sI, fL_wI, fL_wL, aI_sI, aI_sL, aI_wL, aL_sI, aL_sL, aL_wI, fR_sI, fR_sL, fR_wI, fR_wL, aN_sI, aN_sL, aN_wI, aN_wL, ne_eq, Nat.reduceEqDiff, not_false_eq_true]; rw [nI_pred, lm.n79]; exact vp_in_nI i40 (by omega), ?_⟩
          rintro _ rfl
          refine ⟨_, lm.f152, _, lm.f108, by simp only [fI_s, fI_sn, fL_s, fL_sn, aI_w, aI_wn, aL_w, aL_wn, fI_sL, fI_wI, fI_wL, fL_sI, fL_wI, fL_wL, aI_sI, aI_sL, aI_wL, aL_sI, aL_sL, aL_wI, fR_sI, fR_sL, fR_wI, fR_wL, aN_sI, aN_sL, aN_wI, aN_wL, ne_eq, Nat.reduceEqDiff, not_false_eq_true]; rw [lm.n45]; exact vp_in_nI gx (by omega), by simp only [fI_s, fI_sn, fL_s, fL_sn, aI_w, aI_wn, aL_w, aL_wn, fI_sL, fI_wI, fI_wL, fL_sI, fL_wI, fL_wL, aI_sI, aI_sL, aI_wL, aL_sI, aL_sL, aL_wI, fR_sI, fR_sL, fR_wI, fR_wL, aN_sI, aN_sL, aN_wI, aN_wL, ne_eq, Nat.reduceEqDiff, not_false_eq_true]; rw [nI_pred, lm.n80]; exact vp_in_nI i40 (by omega), ?_⟩
          rintro _ rfl
          simp only [fI_s, fI_sn, fL_s, fL_sn, aI_w, aI_wn, aL_w, aL_wn, fI_sL, fI_wI, fI_wL, fL_sI, fL_wI, fL_wL, aI_sI, aI_sL, aI_wL, aL_sI, aL_sL, aL_wI, fR_sI, fR_sL, fR_wI, fR_wL, aN_sI, aN_sL, aN_wI, aN_wL, ne_eq, Nat.reduceEqDiff, not_false_eq_true]
          rw [nI_pred, ci, cg, rp.1.a (r := 44) rfl, rp.1.a (r := 45) rfl, e44, e45, e156]
          refine q1 i hi c70 cb ?_
          refine RPf.met h' rp (((Keep.rf.wL rfl).wI rfl).wI rfl |>.sI rfl) ((((Keep.rf.sI rfl).wL rfl).wI rfl).wI rfl) (by unfold mtR; simp only [fI_s, fI_sn, fL_s, fL_sn, aI_w, aI_wn, aL_w, aL_wn, fI_sL, fI_wI, fI_wL, fL_sI, fL_wI, fL_wL, aI_sI, aI_sL, aI_wL, aL_sI, aL_sL, aL_wI, fR_sI, fR_sL, fR_wI, fR_wL, aN_sI, aN_sL, aN_wI, aN_wL, ne_eq, Nat.reduceEqDiff, not_false_eq_true]) (fun k hk => ?_)
          unfold RpM mtC mtR
          simp only [fI_s, fI_sn, fL_s, fL_sn, aI_w, aI_wn, aL_w, aL_wn, fI_sL, fI_wI, fI_wL, fL_sI, fL_wI, fL_wL, aI_sI, aI_sL, aI_wL, aL_sI, aL_sL, aL_wI, fR_sI, fR_sL, fR_wI, fR_wL, aN_sI, aN_sL, aN_wI, aN_wL, ne_eq, Nat.reduceEqDiff, not_false_eq_true]
          by_cases e : k = i
          · subst e; simp only [uq_at]; exact ⟨trivial, trivial, trivial⟩
          · rw [uq_ne e, uq_ne e, uq_ne e, uq_ne e, uq_ne e, uq_ne e]
            exact rp.2.2.2.2.2.2 k (by omega)
        have nclamp : True := trivial
        by_cases ce : mt (M - 1) = t
        · rw [if_pos (iff10.mpr ce)]
          apply hK55
          intro K81 hK81
          rw [if_neg (by decide)]
          apply hK81
          intro K95 hK95
          rw [if_neg (by decide), e153]
          exact put (M - 1) (Or.inl ⟨rfl, ce⟩) K95 (by first | exact hK95 | (simp only [nI_clamp (show g x < 2 ^ 31 by omega)]; exact hK95)) 0 (by rw [show M - 1 + 1 = M by omega, Int32.add_zero])
        · rw [if_neg (fun z => ce (iff10.mp z))]
          apply hK55
          intro K81 hK81
          rw [if_pos rfl, e153, show (40 : Int32) = nI 40 from rfl]
          by_cases c40 : M = 40
          · rw [if_pos (by rw [c40])]
            have := r_pbad (Q := Q2) (k := 5) lm gx rp.2.1.1 (by rw [rp.1.a rfl]; exact v3) (q5 ce c40 c70 cb _ (b5 5))
            first | exact this | (rw [nI_clamp (show g x < 2 ^ 31 by omega)] at this; exact this)
          · rw [if_neg (fun z => c40 ((nI_eq (by omega) (by omega)).mp z))]
            apply hK81
            intro K95 hK95
            rw [if_pos rfl, e153]
            exact put M (Or.inr ⟨rfl, ce, by omega⟩) K95 (by first | exact hK95 | (simp only [nI_clamp (show g x < 2 ^ 31 by omega)]; exact hK95)) 1 (nI_1 M)
      · rw [if_pos rfl]
        exact bad7 (Or.inr cb)
  unfold wp_X3_begin
  refine ⟨_, a2.1, s_kindOf hpg (by omega) pl2 pl1 ?_⟩
  rw [hB, if_neg (by decide), if_neg (by decide), if_neg (by decide), if_pos rfl]
  unfold wp_X3_changeMeter
  refine ⟨_, a2.2.2.2.1, _, hl.f83, ?_⟩
  intro K26 hK26
  have bad7 : (0 < cp (pk ks 7) X (D - 1) ∨ ¬ (t - mt (M - 1)) % (mu (M - 1) * 3870720 / md (M - 1)) = 0) → K26 S := by
    intro hc
    apply hK26
    refine s_ptell a2 hpg (by omega) ?_
    rw [pl2]
    exact hF _ (7, pl) (CBad.mk (kdm (by decide) (by decide)) a1 a2 a4) (fun R0 pc T wr sy g ow hr Sr rp Q2 hQ2 => ref R0 pc T wr sy g ow hr Sr rp Q2 (fun _ Sr1 rb => hQ2 Sr1 rb) (fun _ _ z1 z2 => by rcases hc with z | z; omega; exact absurd z2 z) (fun _ _ z1 z2 => by rcases hc with z | z; omega; exact absurd z2 z))
  rw [h38]
  by_cases c7 : 0 < cp (pk ks 7) X (D - 1)
  · rw [if_pos (show (0 : Int32) < nI (cp (pk ks 7) X (D - 1)) from nI_lt (a := 0) c7 (by omega))]
    exact bad7 (Or.inl c7)
  · have c70 : cp (pk ks 7) X (D - 1) = 0 := by omega
    have hz : ∀ k, 1 ≤ k → k < D → ks (X k) ≠ 7 := fun k k1 k2 e => by
      have := cp_z c70 k k1 (by omega)
      rw [pk_t e] at this; cases this
    rw [c70, if_neg (by decide), ht.1]
    refine s_beginsBar (mt := mt (M - 1)) (mu := mu (M - 1)) (md := md (M - 1)) hl m1 m2 m3 n1 n2 n3 n4 n5 n6 ht.2 m7 (fun cb => ?_) (fun cb => ?_)
    · rw [if_neg (by decide)]
      refine ⟨_, a2.1, s_one hpg (by omega) ?_⟩
      refine ⟨_, a2.1, s_two hpg (by omega) ?_⟩
      rw [u4, u5, ht.1]
      unfold wp_X2_change
      rw [m1, nI_pr m2]
      refine ⟨_, hl.f18, by rw [hl.n10]; exact vp_in_nI (by omega) (by omega), ?_⟩
      intro K29 hK29
      rw [nI_clamp (by omega)]
      have put : ∀ i, (i = M - 1 ∧ mt (M - 1) = t ∨ i = M ∧ ¬ mt (M - 1) = t) → i < 40 → K29 (nI i) S := by
        intro i hi i40
        have ci : (nI i).toNatClampNeg = i := nI_clamp (by omega)
        apply hK29
        rw [show (40 : Int32) = nI 40 from rfl, if_pos (nI_lt i40 (by omega))]
        refine ⟨_, hl.f18, by rw [hl.n10]; exact vp_in_nI i40 (by omega), ?_⟩
        rintro _ rfl
        refine ⟨_, hl.f19, by simp only [fI_s, fI_sn, fL_s, fL_sn, aI_w, aI_wn, aL_w, aL_wn, fI_sL, fI_wI, fI_wL, fL_sI, fL_wI, fL_wL, aI_sI, aI_sL, aI_wL, aL_sI, aL_sL, aL_wI, fR_sI, fR_sL, fR_wI, fR_wL, aN_sI, aN_sL, aN_wI, aN_wL, ne_eq, Nat.reduceEqDiff, not_false_eq_true]; rw [hl.n11]; exact vp_in_nI i40 (by omega), ?_⟩
        rintro _ rfl
        refine ⟨_, hl.f20, by simp only [fI_s, fI_sn, fL_s, fL_sn, aI_w, aI_wn, aL_w, aL_wn, fI_sL, fI_wI, fI_wL, fL_sI, fL_wI, fL_wL, aI_sI, aI_sL, aI_wL, aL_sI, aL_sL, aL_wI, fR_sI, fR_sL, fR_wI, fR_wL, aN_sI, aN_sL, aN_wI, aN_wL, ne_eq, Nat.reduceEqDiff, not_false_eq_true]; rw [hl.n12]; exact vp_in_nI i40 (by omega), ?_⟩
        rintro _ rfl _ rfl
        rw [ci, nI_1, if_neg (by decide)]
        have pm : PfM (mtC S A i t (nI ua) (nI ub)) A ks D (i + 1) t X TB := a9'.set (by omega) i40 hz u1 u2 u3' (fun e => iff10.mpr (by omega)) (fun e => fun z => by have := iff10.mp z; omega) ht.2
        refine hQ _ (i + 1) (h'.met (S1 := mtC S A i t (nI ua) (nI ub)) (((Keep.rf.wL rfl).wI rfl).wI rfl |>.sI rfl) ((((a1.wL (PW.at rfl)).wI (PW.at rfl)).wI (PW.at rfl)).sI (PW.at rfl)) pm) ?_
        intro R0 pc T wr sy g ow hr Sr rp Q2 hQ2
        refine ref R0 pc T wr sy g ow hr Sr rp Q2 (fun z => by rcases z with z | z; omega; exact absurd cb z) (fun z1 z2 => ?_) (fun i' hi' _ _ r' => ?_)
        · intro _ _ Sr1 _
          rcases hi with z | z <;> omega
        · have : i' = i := by omega
          rw [this] at r' ⊢
          exact hQ2 _ r'
      by_cases ce : mt (M - 1) = t
      · rw [if_pos (iff10.mpr ce)]
        exact put (M - 1) (Or.inl ⟨rfl, ce⟩) (by omega)
      · rw [if_neg (fun z => ce (iff10.mp z))]
        by_cases c40 : M = 40
        · apply hK29
          rw [if_neg (by rw [c40]; decide)]
          show (if (0 : Int32) = 0 then _ else _)
          rw [if_pos rfl]
          refine s_ptell a2 hpg (by omega) ?_
          rw [pl2, if_pos rfl]
          exact hF _ (5, pl) (CBad.mk (kdm (by decide) (by decide)) a1 a2 a4) (fun R0 pc T wr sy g ow hr Sr rp Q2 hQ2 => ref R0 pc T wr sy g ow hr Sr rp Q2 (fun z => by rcases z with z | z; omega; exact absurd cb z) (fun _ _ _ _ Sr1 rb => hQ2 Sr1 rb) (fun i' hi' => by omega))
        · exact put M (Or.inr ⟨rfl, ce⟩) (by omega)
    · rw [if_pos rfl]
      exact bad7 (Or.inr cb)
end
