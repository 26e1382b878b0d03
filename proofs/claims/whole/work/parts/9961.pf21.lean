/-! Performing: bar lines, meters, namings. -/
section
variable {S S1 S2 S0 Sr Sr1 Sr2 R0 : PS} {A : Nat → Nat} {B : Nat → Int32} {n N nd pc : Nat} {bh par ks lv g ow : Nat → Nat}
variable {D m st E V M t ln sy x mt mu md : Nat} {lp : Int} {X Y C H F VF TB : Nat → Nat} {kk : Nat × Nat}
theorem r_pbad2 {Q : PS → Prop} {k : Int32} {i pl : Nat} (h : LayM Sr A) (hi : i < 3100) (hf : fI Sr 102 (A 9) = 0) (hp : aI Sr 43 (A 43) i = nI pl) (hQ : Q (sI (sI Sr 102 (A 9) k) 103 (A 9) (nI pl))) : (∃ b2, fR Sr 106 (A 9) = some b2 ∧ (vp_in (nI i) (aN Sr b2) ∧ wp_X12_bad (A 9) k (aI Sr 43 b2 i) Sr Q)) := by
  refine ⟨_, h.f106, by rw [h.n43]; exact vp_in_nI hi (by omega), ?_⟩
  rw [hp]
  unfold wp_X12_bad
  rw [if_pos hf]
  rintro _ rfl _ rfl
  exact hQ
theorem mdn_b (h : mdn md) : 1 ≤ md ∧ md ≤ 32 := by unfold mdn at h; omega
theorem bl_b (h1 : 1 ≤ mu) (h2 : mu ≤ 32) (h : mdn md) : 1 ≤ mu * 3870720 / md ∧ mu * 3870720 / md ≤ 123863040 := by
  have := mdn_b h
  refine ⟨Nat.div_pos (by omega) (by omega), Nat.le_trans (Nat.div_le_self _ _) (by omega)⟩
theorem bl_e (h2 : mu ≤ 32) (h : mdn md) : (nI mu).toInt64 * 3870720 / (nI md).toInt64 = lN (mu * 3870720 / md) ∧ ¬ (nI md).toInt64 = 0 := by
  have := mdn_b h
  rw [to64 (rfl : nI mu = nI mu) (by omega), to64 (rfl : nI md = nI md) (by omega), show (3870720 : Int64) = lN 3870720 from rfl, lN_mul, lN_div (by omega) (by omega) (by omega)]
  refine ⟨rfl, fun z => ?_⟩
  rw [show (0 : Int64) = lN 0 from rfl, lN_eqq (by omega) (by omega)] at z; omega
theorem s_barTicks {Q : Int64 → PS → Prop} {k : Nat} (hl : LayS S A) (h17 : fI S 17 (A 2) = nI M) (hM : M ≤ 40) (hk : k < M) (h11 : aI S 11 (A 11) k = nI mu) (h12 : aI S 12 (A 12) k = nI md) (b1 : 1 ≤ mu) (b2 : mu ≤ 32) (b3 : mdn md) (hQ : Q (lN (mu * 3870720 / md)) S) : wp_X2_barTicks (A 2) (nI k) S Q := by
  have bd := mdn_b b3
  have bb := bl_b b1 b2 b3
  unfold wp_X2_barTicks
  intro K hK
  rw [if_neg (nI_pos (by omega)), h17, if_neg (nI_ge hk (by omega))]
  refine ⟨_, hl.f20, by rw [hl.n12]; exact vp_in_nI (by omega) (by omega), ?_⟩
  rw [nI_clamp (by omega), h12, if_neg (nI_nle (by omega) (by omega))]
  apply hK
  rw [if_neg (by decide)]
  refine ⟨_, hl.f19, by rw [hl.n11]; exact vp_in_nI (by omega) (by omega), _, hl.f20, by rw [hl.n12]; exact vp_in_nI (by omega) (by omega), ?_⟩
  rw [nI_clamp (by omega), h11, h12]
  refine ⟨(bl_e b2 b3).2, ?_⟩
  rw [(bl_e b2 b3).1, show (1 : Int64) = lN 1 from rfl, if_neg (fun z => by rw [lN_ltq (by omega) (by omega)] at z; omega)]
  exact hQ
theorem md_z {a b c : Nat} (ha : a < 2 ^ 62) (hb : b ≤ a) (hc : 1 ≤ c) (hc2 : c < 2 ^ 62) : (lN a - lN b) - (lN a - lN b) / lN c * lN c = 0 ↔ (a - b) % c = 0 := by
  rw [lN_sub hb, lN_div (by omega) (by omega) (by omega), lN_mul, lN_sub (Nat.div_mul_le_self _ _), show (0 : Int64) = lN 0 from rfl, lN_eqq (by omega) (by omega)]
  have := Nat.div_add_mod (a - b) c
  rw [Nat.mul_comm] at this
  omega
theorem s_beginsBar {Q : Int32 → PS → Prop} (hl : LayS S A) (h17 : fI S 17 (A 2) = nI M) (hM1 : 1 ≤ M) (hM : M ≤ 40) (h10 : aL S 10 (A 10) (M - 1) = lN mt) (h11 : aI S 11 (A 11) (M - 1) = nI mu) (h12 : aI S 12 (A 12) (M - 1) = nI md) (b1 : 1 ≤ mu) (b2 : mu ≤ 32) (b3 : mdn md) (ht : t ≤ 3870720000) (hmt : mt ≤ t)
    (h1 : (t - mt) % (mu * 3870720 / md) = 0 → Q 1 S) (h0 : ¬ (t - mt) % (mu * 3870720 / md) = 0 → Q 0 S) : wp_X2_beginsBar (A 2) (lN t) S Q := by
  have bb := bl_b b1 b2 b3
  unfold wp_X2_beginsBar
  rintro _ rfl
  rw [h17, nI_pr hM1]
  refine s_barTicks hl h17 hM (by omega) h11 h12 b1 b2 b3 ?_
  rw [show (0 : Int64) = lN 0 from rfl, if_neg (fun z => by rw [lN_leq (by omega) (by omega)] at z; omega), if_neg (nI_pos (by omega))]
  refine ⟨_, hl.f18, by rw [hl.n10]; exact vp_in_nI (by omega) (by omega), fun z => by rw [lN_eqq (by omega) (by omega)] at z; omega, ?_⟩
  rw [nI_clamp (by omega), h10]
  have mz := md_z (a := t) (b := mt) (c := mu * 3870720 / md) (by omega) hmt bb.1 (by omega)
  rw [show (0 : Int64) = lN 0 from rfl] at mz
  by_cases c : (t - mt) % (mu * 3870720 / md) = 0
  · rw [if_pos (mz.mpr c)]; exact h1 c
  · rw [if_neg (fun z => c (mz.mp z))]; exact h0 c
theorem r_isBar {Q : Int32 → PS → Prop} (h : LayM Sr A) (h153 : fI Sr 153 (A 9) = nI M) (hM1 : 1 ≤ M) (hM : M ≤ 40) (h10 : aL Sr 78 (A 78) (M - 1) = lN mt) (h11 : aI Sr 79 (A 79) (M - 1) = nI mu) (h12 : aI Sr 80 (A 80) (M - 1) = nI md) (b1 : 1 ≤ mu) (b2 : mu ≤ 32) (b3 : mdn md) (ht : t ≤ 3870720000) (hmt : mt ≤ t)
    (h1 : (t - mt) % (mu * 3870720 / md) = 0 → Q 1 Sr) (h0 : ¬ (t - mt) % (mu * 3870720 / md) = 0 → Q 0 Sr) : wp_X12_isBar (A 9) (lN t) Sr Q := by
  have bb := bl_b b1 b2 b3
  have cM : (nI (M - 1)).toNatClampNeg = M - 1 := nI_clamp (by omega)
  unfold wp_X12_isBar
  rintro _ rfl
  rw [h153, nI_pr hM1]
  intro P hP
  apply hP
  intro K hK
  have go : K Sr := by
    apply hK
    refine ⟨_, h.f150, by rw [h.n78]; exact vp_in_nI (by omega) (by omega), _, h.f151, by rw [h.n79]; exact vp_in_nI (by omega) (by omega), _, h.f152, by rw [h.n80]; exact vp_in_nI (by omega) (by omega), ?_⟩
    rw [cM, h11, h12, h10]
    unfold wp_X12_barLong
    refine ⟨(bl_e b2 b3).2, ?_⟩
    rw [(bl_e b2 b3).1]
    refine ⟨fun z => by rw [show (0 : Int64) = lN 0 from rfl, lN_eqq (by omega) (by omega)] at z; omega, ?_⟩
    have mz := md_z (a := t) (b := mt) (c := mu * 3870720 / md) (by omega) hmt bb.1 (by omega)
    by_cases c : (t - mt) % (mu * 3870720 / md) = 0
    · rw [if_pos (mz.mpr c)]; exact h1 c
    · rw [if_neg (fun z => c (mz.mp z))]; exact h0 c
  by_cases z : M - 1 = 0
  · rw [if_pos (by rw [z]; decide)]; exact go
  · rw [if_neg (nI_nle (by omega) (by omega))]
    refine ⟨_, h.f150, by rw [h.n78]; exact vp_in_nI (by omega) (by omega), ?_⟩
    rw [cM, h10, if_pos ((lN_leq (by omega) (by omega)).mpr hmt)]; exact go
theorem GoB.id {X' : Nat → Nat} (hg : ∀ R0 pc T wr sy g ow, RSR S0 R0 A B n N nd bh par ks pc T wr sy g ow → ∀ Sr, RPf S Sr S0 R0 A B n sy N bh ks g ow D E V M X Y C H F → ∀ Q : PS → Prop, Q Sr → wp_X12_begin (A 9) (nI (g x)) (hw S0 A ks X (H (D - 1))) Sr Q) : GoB S0 A B n N nd bh par ks x S D E V M X Y C H F S D E V M X Y C H F :=
  fun R0 pc T wr sy g ow hr Sr rp Q hQ => hg R0 pc T wr sy g ow hr Sr rp Q (hQ Sr rp)
/-- = does nothing -/
theorem k_named {Q : Int32 → PS → Prop} (sc : StC S0 A B n pc N nd bh par ks lv) (h : CPf S S0 A B n N nd bh par ks lv D m st E V M t ln lp X Y C H F VF TB) (hx : Itm N par Y D x) (hk : ks x = 9) (hQ : GoB S0 A B n N nd bh par ks x S D E V M X Y C H F S D E V M X Y C H F → Q 1 S) : wp_X3_begin (A 3) (nI (x - 1)) kk S Q := by
  obtain ⟨x1, x2, x3⟩ := hx
  obtain ⟨a1, a2, -⟩ := h
  have hpg := sc.pg a1 a2
  obtain ⟨R00, T0, wr0, sy0, g0, ow0, r0⟩ := sc.rsr
  obtain ⟨pl, pl1, pl2, _, ah⟩ := r0.pl x1 x2 (by omega)
  have hB : B pl = 61 := by
    rw [hk] at ah
    unfold kof at ah
    by_cases e : B pl = 61
    · exact e
    · rw [if_neg e] at ah
      repeat' split at ah
      all_goals omega
  unfold wp_X3_begin
  refine ⟨_, a2.1, s_kindOf hpg (by omega) pl2 pl1 ?_⟩
  rw [hB, if_neg (by decide), if_pos rfl]
  refine hQ (GoB.id (X' := X) (fun R0 pc T wr sy g ow hr Sr rp Q2 hQ2 => ?_))
  have lm := rp.1.lay hr.1
  obtain ⟨at1, gx, owx⟩ := hr.at x1 x2
  unfold wp_X12_begin
  intro v1 hv1
  refine ⟨_, lm.f105, by rw [lm.n42]; exact vp_in_nI gx (by omega), ?_⟩
  rw [nI_clamp (by omega), rp.1.a rfl, hr.sort x1 x2, hk, if_neg (by decide), if_neg (by decide), if_neg (by decide), if_neg (by decide), if_neg (by decide), if_neg (by decide), if_neg (by decide), if_neg (by decide), if_neg (by decide), if_pos (by decide)]
  exact hQ2
theorem k_bar {Q : Int32 → PS → Prop} (sc : StC S0 A B n pc N nd bh par ks lv) (h : CPf S S0 A B n N nd bh par ks lv D m st E V M t ln lp X Y C H F VF TB) (hx : Itm N par Y D x) (hk : ks x = 1) (hQ : GoB S0 A B n N nd bh par ks x S D E V M X Y C H F S D E V M X Y C H F → Q 1 S)
    (hF : ∀ S2 e, CBad S0 S2 A m F e → GoF S0 A B n N nd bh par ks x S D E V M X Y C H F e → Q 0 S2) : wp_X3_begin (A 3) (nI (x - 1)) kk S Q := by
  obtain ⟨x1, x2, x3⟩ := hx
  obtain ⟨a1, a2, ⟨a3, a4⟩, a5, a6, a7, a8, a9, a10⟩ := h
  have hpg := sc.pg a1 a2
  obtain ⟨R00, T0, wr0, sy0, g0, ow0, r0⟩ := sc.rsr
  obtain ⟨pl, pl1, pl2, pl3, ah⟩ := r0.pl x1 x2 (by omega)
  have hB : B pl = 124 := by
    rw [hk] at ah
    unfold kof at ah
    by_cases e : B pl = 124
    · exact e
    · rw [if_neg e] at ah
      repeat' split at ah
      all_goals omega
  obtain ⟨⟨m1, m2, m3⟩, mt, mu, md, m4, m5, m6, m7, m8⟩ := a9
  obtain ⟨n1, n2, n3, n4, n5, n6⟩ := m4 (M - 1) (by omega)
  have ht := a5.2.2.2.1
  have ref : ∀ R0 pc T wr sy g ow, RSR S0 R0 A B n N nd bh par ks pc T wr sy g ow → ∀ Sr, RPf S Sr S0 R0 A B n sy N bh ks g ow D E V M X Y C H F → ∀ Q : PS → Prop, ((t - mt (M - 1)) % (mu (M - 1) * 3870720 / md (M - 1)) = 0 → Q Sr) → (¬ (t - mt (M - 1)) % (mu (M - 1) * 3870720 / md (M - 1)) = 0 → ∀ Sr1, RBad R0 Sr1 A (7, pl) → Q Sr1) → wp_X12_begin (A 9) (nI (g x)) (hw S0 A ks X (H (D - 1))) Sr Q := by
    intro R0 pc T wr sy g ow hr Sr rp Q2 q1 q0
    have lm := rp.1.lay hr.1
    obtain ⟨at1, gx, owx⟩ := hr.at x1 x2
    obtain ⟨q, u1, u2, u3, _⟩ := hr.pl x1 x2 (by omega)
    have e1 : nI q = nI pl := u2.symm.trans pl2
    obtain ⟨w1, w2, w3⟩ := rp.2.2.2.2.2.2 (M - 1) (by omega)
    unfold wp_X12_begin
    intro v1 hv1
    refine ⟨_, lm.f105, by rw [lm.n42]; exact vp_in_nI gx (by omega), ?_⟩
    rw [nI_clamp (by omega), rp.1.a rfl, hr.sort x1 x2, hk, if_neg (by decide), if_pos (by decide), rp.2.1.2.2.2.2.1, ht.1]
    refine r_isBar (mt := mt (M - 1)) (mu := mu (M - 1)) (md := md (M - 1)) lm rp.2.2.2.1.2.2 m2 m3 (w1.trans n1) (w2.trans n2) (w3.trans n3) n4 n5 n6 ht.2 m7 (fun c => ?_) (fun c => ?_)
    · rw [if_neg (by decide)]; exact q1 c
    · rw [if_pos rfl]
      refine r_pbad2 lm gx rp.2.1.1 (by rw [rp.1.a rfl]; exact u3) (q0 c _ ⟨(rp.1.sI rfl).sI rfl, by simp only [fI_s, fI_sn, fL_s, fL_sn, aI_w, aI_wn, aL_w, aL_wn, fI_sL, fI_wI, fI_wL, fL_sI, fL_wI, fL_wL, aI_sI, aI_sL, aI_wL, aL_sI, aL_sL, aL_wI, fR_sI, fR_sL, fR_wI, fR_wL, aN_sI, aN_sL, aN_wI, aN_wL, ne_eq, Nat.reduceEqDiff, not_false_eq_true]; rfl, by simp only [fI_s, fI_sn, fL_s, fL_sn, aI_w, aI_wn, aL_w, aL_wn, fI_sL, fI_wI, fI_wL, fL_sI, fL_wI, fL_wL, aI_sI, aI_sL, aI_wL, aL_sI, aL_sL, aL_wI, fR_sI, fR_sL, fR_wI, fR_wL, aN_sI, aN_sL, aN_wI, aN_wL, ne_eq, Nat.reduceEqDiff, not_false_eq_true]; exact e1⟩)
  unfold wp_X3_begin
  refine ⟨_, a2.1, s_kindOf hpg (by omega) pl2 pl1 ?_⟩
  rw [hB, if_neg (by decide), if_neg (by decide), if_neg (by decide), if_neg (by decide), if_neg (by decide), if_neg (by decide), if_neg (by decide), if_neg (by decide), if_neg (by decide), if_pos rfl]
  have hl := a2.2.2.2.2.2
  refine ⟨_, a2.2.2.2.1, _, hl.f83, ?_⟩
  rw [ht.1]
  refine s_beginsBar (mt := mt (M - 1)) (mu := mu (M - 1)) (md := md (M - 1)) hl m1 m2 m3 n1 n2 n3 n4 n5 n6 ht.2 m7 (fun c => ?_) (fun c => ?_)
  · rw [if_neg (by decide)]
    exact hQ (GoB.id (X' := X) (fun R0 pc T wr sy g ow hr Sr rp Q2 hQ2 => ref R0 pc T wr sy g ow hr Sr rp Q2 (fun _ => hQ2) (fun z => absurd c z)))
  · rw [if_pos rfl]
    refine s_ptell a2 hpg (by omega) ?_
    rw [pl2, if_pos rfl]
    exact hF _ (7, pl) (CBad.mk (kdm (by decide) (by decide)) a1 a2 a4) (fun R0 pc T wr sy g ow hr Sr rp Q2 hQ2 => ref R0 pc T wr sy g ow hr Sr rp Q2 (fun z => absurd z c) (fun _ Sr1 rb => hQ2 Sr1 rb))
theorem cp_z {p : Nat → Bool} {k : Nat} (h : cp p X k = 0) : ∀ i, 1 ≤ i → i ≤ k → p (X i) = false := by
  induction k with
  | zero => intro i a b; omega
  | succ k ih =>
    intro i a b
    rw [cp] at h
    by_cases e : i = k + 1
    · subst e
      cases hp : p (X (k + 1)) with
      | false => rfl
      | true => rw [hp, if_pos rfl] at h; omega
    · exact ih (by omega) i a (by omega)
def jMt (j : Nat) : Bool := decide (j = 17)
def rMt (r : Nat) : Bool := decide (10 ≤ r ∧ r ≤ 12)
theorem CPf.met {M1 : Nat} (h : CPf S S0 A B n N nd bh par ks lv D m st E V M t ln lp X Y C H F VF TB) (kk : Keep jMt rMt S S1) (kw : Kws (PW A S0) S0 S1) (hm : PfM S1 A ks D M1 t X TB) : CPf S1 S0 A B n N nd bh par ks lv D m st E V M1 t ln lp X Y C H F VF TB := by
  obtain ⟨a1, a2, ⟨a3, a4⟩, a5, a6, a7, a8, a9, a10⟩ := h
  have cI : ∀ j, j ≠ 17 → fI S1 j = fI S j := fun j j1 => (kk.2.1 j (by unfold jMt; rw [decide_eq_false_iff_not]; omega)).1
  have cL : ∀ j, j ≠ 17 → fL S1 j = fL S j := fun j j1 => (kk.2.1 j (by unfold jMt; rw [decide_eq_false_iff_not]; omega)).2
  refine ⟨kw, a2.st kk.1, ⟨a3, a4.st kk.1⟩, ?_, a6, fun i hi => ?_, a8, hm, a10.eq (EqE.of kk rfl rfl (fun r r1 r2 => by unfold rMt; rw [decide_eq_false_iff_not]; omega))⟩
  · unfold PfS
    rw [cI 24 (by decide), cI 26 (by decide), cI 27 (by decide), cL 28 (by decide), cL 29 (by decide), cI 30 (by decide), cI 31 (by decide), cI 32 (by decide), cL 33 (by decide), cL 34 (by decide), cI 35 (by decide), cI 36 (by decide), cI 37 (by decide), cI 38 (by decide), cI 39 (by decide)]
    exact a5
  · exact (a7 i hi).cg (Nat.le_refl st) (fun _ _ => rfl) rfl (fun _ _ => rfl) rfl (fun _ _ => rfl) rfl (by rw [cI 3 (by decide)]; exact (a7 i hi).2.1) (fun j j1 j2 _ => ⟨by rw [cI j (by omega)], by rw [cL j (by omega)]⟩)
theorem RPf.met {M1 : Nat} (h : CPf S S0 A B n N nd bh par ks lv D m st E V M t ln lp X Y C H F VF TB) (rp : RPf S Sr S0 R0 A B n sy N bh ks g ow D E V M X Y C H F) (kk : Keep jMt rMt S S1) (kr : Keep (fun j => decide (j = 153)) (fun r => decide (78 ≤ r ∧ r ≤ 80)) Sr Sr1) (h153 : fI Sr1 153 (A 9) = nI M1) (hm : ∀ k, k < M1 → RpM S1 Sr1 A k) : RPf S1 Sr1 S0 R0 A B n sy N bh ks g ow D E V M1 X Y C H F := by
  obtain ⟨a1, a2, ⟨a3, a4⟩, a5, a6, a7, a8, a9, a10⟩ := h
  obtain ⟨b1, b2, b3, b4⟩ := rp
  have cI : ∀ j, j ≠ 17 → fI S1 j = fI S j := fun j j1 => (kk.2.1 j (by unfold jMt; rw [decide_eq_false_iff_not]; omega)).1
  have cL : ∀ j, j ≠ 17 → fL S1 j = fL S j := fun j j1 => (kk.2.1 j (by unfold jMt; rw [decide_eq_false_iff_not]; omega)).2
  have dI : ∀ j, j ≠ 153 → fI Sr1 j = fI Sr j := fun j j1 => (kr.2.1 j (by simp only [decide_eq_false_iff_not]; omega)).1
  have dL : ∀ j, j ≠ 153 → fL Sr1 j = fL Sr j := fun j j1 => (kr.2.1 j (by simp only [decide_eq_false_iff_not]; omega)).2
  have dA : ∀ r, r < 78 ∨ 80 < r → aI Sr1 r = aI Sr r ∧ aL Sr1 r = aL Sr r := fun r hr => kr.2.2 r (by simp only [decide_eq_false_iff_not]; omega)
  have qe : EqE S S1 A := EqE.of kk rfl rfl (fun r r1 r2 => by unfold rMt; rw [decide_eq_false_iff_not]; omega)
  refine ⟨Keep.tr b1 (kr.mono (fun j => by unfold jPf; simp only [decide_eq_false_iff_not]; omega) (fun r => by unfold rPf; simp only [decide_eq_false_iff_not]; omega)), ?_, fun i hi => ?_, ⟨by rw [dI 146 (by decide)]; exact b4.1.1, by rw [dI 149 (by decide)]; exact b4.1.2.1, h153⟩, fun e he => ?_, fun v hv => ?_, hm⟩
  · unfold RpS
    rw [cI 26 (by decide), cI 27 (by decide), cL 28 (by decide), cL 29 (by decide), cI 30 (by decide), cI 31 (by decide), cI 32 (by decide), cL 33 (by decide), cL 34 (by decide), cI 35 (by decide), cI 36 (by decide), cI 37 (by decide), cI 38 (by decide), dI 102 (by decide), dI 188 (by decide), dI 154 (by decide), dI 155 (by decide), dL 156 (by decide), dL 157 (by decide), dI 158 (by decide), dI 159 (by decide), dI 160 (by decide), dL 161 (by decide), dL 162 (by decide), dI 163 (by decide), dI 164 (by decide), dI 166 (by decide), dI 165 (by decide), dI 169 (by decide)]
    exact b2
  · exact (b3 i hi).cg (a6 i hi).hb (by have := (a6 (i - 1) (by omega)).hb; omega) (fun _ _ => rfl) rfl rfl rfl rfl (fun j j1 j2 _ => ⟨by rw [cI j (by omega)], by rw [cL j (by omega)]⟩) (by rw [(dA 86 (by omega)).1]; exact (b3 i hi).2.1) (fun r r1 r2 => by rw [(dA r (by omega)).1, (dA r (by omega)).2]; exact ⟨rfl, rfl⟩) (fun _ _ => by rw [(dA 81 (by omega)).1, (dA 82 (by omega)).1]; exact ⟨rfl, rfl⟩)
  · have := b4.2.1 e he
    unfold RpE PcR at this ⊢
    rw [qe.r 28 (by decide) (by decide), qe.l 31 (by decide) (by decide), qe.r 32 (by decide) (by decide), qe.r 33 (by decide) (by decide), qe.l 29 (by decide) (by decide), qe.l 30 (by decide) (by decide), qe.r 34 (by decide) (by decide), (dA 65 (by omega)).1, (dA 66 (by omega)).1, (dA 67 (by omega)).1, (dA 68 (by omega)).1, (dA 69 (by omega)).2, (dA 70 (by omega)).2, (dA 72 (by omega)).1, (dA 73 (by omega)).1, (dA 74 (by omega)).1, (dA 75 (by omega)).1]; exact this
  · have := b4.2.2.1 v hv
    unfold RpO at this ⊢
    rw [qe.l 36 (by decide) (by decide), qe.r 37 (by decide) (by decide), qe.r 38 (by decide) (by decide), (dA 76 (by omega)).2, (dA 77 (by omega)).1, (dA 71 (by omega)).1]; exact this
end
