/-! Performing: notes, chords, rests of both. -/
section
variable {S S1 S2 S0 Sr Sr1 Sr2 R0 : PS} {A : Nat → Nat} {B : Nat → Int32} {n N nd pc : Nat} {bh par ks lv g ow : Nat → Nat}
variable {D m st E V M t ln sy x v c k : Nat} {lp : Int} {X Y C H F VF TB cs : Nat → Nat} {w : Int64}
theorem RSR.tn {T wr : Nat} (h : RSR S0 R0 A B n N nd bh par ks pc T wr sy g ow) (h1 : 1 ≤ x) (h2 : x ≤ N) (hk : ks x = 0) : ∃ pl, pl < n ∧ aI S0 16 (A 16) (x - 1) = nI pl ∧ aI R0 43 (A 43) (g x) = nI pl ∧ AtT S0 R0 A B pc wr (x - 1) (g x) pl := by
  obtain ⟨⟨pl, a1, a2, a3, a4⟩, _⟩ := h.at h1 h2
  rcases a4 with z | ⟨a5, a6, a7⟩
  · omega
  · rcases a7 with ⟨_, _, z⟩ | ⟨z, _⟩ | z | ⟨z, _⟩ | ⟨z, _⟩ | ⟨z, _⟩ | ⟨z, _⟩
    · exact ⟨pl, a5, a2, a6, z⟩
    · omega
    · rcases z.1 with ⟨_, z, _⟩ | ⟨z, _⟩ <;> omega
    · omega
    · omega
    · omega
    · omega
theorem wu_b (sc : StC S0 A B n pc N nd bh par ks lv) (h1 : 1 ≤ x) (h2 : x ≤ N) : (1 ≤ wu S0 A ks x ∧ wu S0 A ks x ≤ 9 ∧ (ks x ≠ 5 → wu S0 A ks x = 1)) ∧ (1 ≤ wd5 S0 A ks x ∧ wd5 S0 A ks x ≤ 9 ∧ (ks x ≠ 5 → wd5 S0 A ks x = 1)) ∧ (-99 ≤ wm S0 A ks 18 x ∧ wm S0 A ks 18 x ≤ 99) ∧ (-99 ≤ wm S0 A ks 19 x ∧ wm S0 A ks 19 x ≤ 99) := by
  obtain ⟨R00, T0, wr0, sy0, g0, ow0, r0⟩ := sc.rsr
  unfold wu wd5 wm
  by_cases c5 : ks x = 5
  · obtain ⟨pl, p1, p2, ah⟩ := r0.hd h1 h2 (by omega)
    have hB : B pl = 84 := by
      rcases ah.1 with ⟨_, z, _⟩ | ⟨z, _⟩
      · omega
      · rcases z with ⟨q, z⟩ | ⟨q, z⟩ | ⟨q, z⟩ | ⟨q, z⟩
        all_goals first | exact q | omega
    obtain ⟨a, b, b1, b2, b3, b4, b5, b6⟩ := ah.2.2.2.2.1 hB
    rw [if_pos c5, if_pos c5, if_neg (by omega), if_neg (by omega), b5, b6, nI_toInt (by omega), nI_toInt (by omega)]
    omega
  · rw [if_neg c5, if_neg c5]
    by_cases c6 : ks x = 6
    · obtain ⟨pl, p1, p2, ah⟩ := r0.hd h1 h2 (by omega)
      have hB : B pl = 88 := by
        rcases ah.1 with ⟨_, z, _⟩ | ⟨z, _⟩
        · omega
        · rcases z with ⟨q, z⟩ | ⟨q, z⟩ | ⟨q, z⟩ | ⟨q, z⟩
          all_goals first | exact q | omega
      have q := ah.2.2.2.2.2.1 hB
      rw [if_pos c6, if_pos c6]
      omega
    · rw [if_neg c6, if_neg c6]; omega
theorem folds (sc : StC S0 A B n pc N nd bh par ks lv) (hX : ∀ i, 1 ≤ i → i ≤ k → 1 ≤ X i ∧ X i ≤ N) : (1 ≤ pf (wu S0 A ks) X k ∧ pf (wu S0 A ks) X k ≤ 9 ^ cp (pk ks 5) X k) ∧ (1 ≤ pf (wd5 S0 A ks) X k ∧ pf (wd5 S0 A ks) X k ≤ 9 ^ cp (pk ks 5) X k) ∧ (-(99 * (k : Int)) ≤ sf (wm S0 A ks 18) X k ∧ sf (wm S0 A ks 18) X k ≤ 99 * (k : Int)) ∧ (-(99 * (k : Int)) ≤ sf (wm S0 A ks 19) X k ∧ sf (wm S0 A ks 19) X k ≤ 99 * (k : Int)) := by
  induction k with
  | zero => exact ⟨⟨Nat.le_refl 1, Nat.le_refl 1⟩, ⟨Nat.le_refl 1, Nat.le_refl 1⟩, ⟨by show -(99 * ((0 : Nat) : Int)) ≤ 0; omega, by show (0 : Int) ≤ 99 * ((0 : Nat) : Int); omega⟩, ⟨by show -(99 * ((0 : Nat) : Int)) ≤ 0; omega, by show (0 : Int) ≤ 99 * ((0 : Nat) : Int); omega⟩⟩
  | succ k ih =>
    obtain ⟨⟨i1, i2⟩, ⟨i3, i4⟩, ⟨i5, i6⟩, ⟨i7, i8⟩⟩ := ih (fun i a b => hX i a (by omega))
    obtain ⟨x1, x2⟩ := hX (k + 1) (by omega) (by omega)
    obtain ⟨⟨w1, w2, w3⟩, ⟨d1, d2, d3⟩, ⟨m1, m2⟩, ⟨n1, n2⟩⟩ := wu_b sc x1 x2
    rw [pf, pf, cp, sf, sf]
    refine ⟨⟨Nat.mul_pos i1 w1, ?_⟩, ⟨Nat.mul_pos i3 d1, ?_⟩, ⟨by omega, by omega⟩, ⟨by omega, by omega⟩⟩
    · by_cases c5 : ks (X (k + 1)) = 5
      · rw [pk_t c5, if_pos rfl, Nat.pow_succ]; exact Nat.mul_le_mul i2 w2
      · rw [pk_f c5, if_neg (by decide), w3 c5, Nat.mul_one]; exact i2
    · by_cases c5 : ks (X (k + 1)) = 5
      · rw [pk_t c5, if_pos rfl, Nat.pow_succ]; exact Nat.mul_le_mul i4 d2
      · rw [pk_f c5, if_neg (by decide), d3 c5, Nat.mul_one]; exact i4
theorem pow8 {k : Nat} (h : k ≤ 8) : 9 ^ k ≤ 43046721 := Nat.le_trans (Nat.pow_le_pow_right (by omega) h) (by decide)
theorem relb {a : Nat} (h : a < 2 ^ 31) : nI a ≤ 0 ↔ decide (0 < a) = false := by
  rw [decide_eq_false_iff_not, show (0 : Int32) = nI 0 from rfl, nI_le_iff h (by omega)]; omega
theorem r_event_f {Q : PS → Prop} {a b : Int32} {up dn : Int64} {td : Int32} (h : LayM Sr A) (hv : fI Sr 155 (A 9) = nI v) (hv12 : v < 12) {k : Nat} (k1 : 1 ≤ k) (k2 : k ≤ 8) (hf : fI Sr 102 (A 9) = nI k) (hQ : Q Sr) : wp_X12_event (A 9) a b up dn td Sr Q := by
  unfold wp_X12_event
  rw [hv]
  refine ⟨_, h.f148, by rw [h.n77]; exact vp_in_nI hv12 (by omega), ?_⟩
  rintro _ rfl
  intro K47 hK47
  have ne : ¬ fI Sr 102 (A 9) = 0 := by rw [hf]; exact nI_ne0 (by omega) (by omega)
  rw [if_neg ne]
  apply hK47
  intro K85 hK85
  rw [if_neg ne]
  apply hK85
  intro K129 hK129
  rw [if_neg ne]
  apply hK129
  rw [if_neg (by rw [hf]; exact nI_nle (by omega) (by omega))]
  exact hQ
/-- whether an event with these pitches may come -/
def Ltie (S : PS) (A : Nat → Nat) (v : Nat) (w : Int64) : Prop := aI S 38 (A 38) v = -1 ∨ ∃ e, aI S 37 (A 37) v = nI e ∧ e < 300 ∧ aL S 31 (A 31) e = w
theorem s_keepTie {Q : Int32 → PS → Prop} (hl : PfL S A) (hE : PfE S A B n D E V VF) (h27 : fI S 27 (A 3) = nI v) (hv : v < V) (hn : n ≤ 1500) (h1 : Ltie S A v w → Q 1 S) (h0 : ¬ Ltie S A v w → ∀ tp, tp ≤ n → aI S 38 (A 38) v = nI tp → Q 0 (sI (sI S 0 (A 0) 6) 1 (A 0) (nI tp))) : wp_X3_keepTie (A 3) w S Q := by
  obtain ⟨⟨e1, e2, e3, e4, e5⟩, _, ev⟩ := hE
  obtain ⟨v1, v2, v3⟩ := ev v hv
  unfold wp_X3_keepTie
  refine ⟨_, hl.2.2.2.1, ?_⟩
  rw [h27]
  refine s_tiePlace hl.2.2.2.2.2 e3 hv e5 ?_
  rcases v3 with z | ⟨⟨tp, z1, z2⟩, ⟨e, z3, z4, z5, z6⟩, _⟩
  · rw [if_pos z]; exact h1 (Or.inl z)
  · have hne : ¬ aI S 38 (A 38) v = -1 := by rw [z2]; exact nI_ne_neg (by omega)
    rw [if_neg hne]
    refine ⟨_, hl.2.2.2.1, ?_⟩
    rw [h27]
    refine s_latestP hl.2.2.2.2.2 e3 hv e5 e1 e2 z3 z4 ?_
    by_cases c : aL S 31 (A 31) e = w
    · rw [if_pos c]; exact h1 (Or.inr ⟨e, z4, by omega, c⟩)
    · rw [if_neg c]
      refine ⟨_, hl.2.1, ?_⟩
      rw [z2]
      refine s_tell ?_
      rw [if_pos rfl]
      refine h0 (fun y => ?_) tp z1 z2
      rcases y with y | ⟨e', y1, y2, y3⟩
      · exact hne y
      · have : e' = e := by
          have q := y1.symm.trans z4
          rwa [nI_eq (by omega) (by omega)] at q
        rw [this] at y3; exact c y3
/-- the reference at an event -/
theorem r_evt {T wr : Nat} {Q : PS → Prop} {i pl c tk : Nat} {up dn : Nat} {td : Int32} (hr : RSR S0 R0 A B n N nd bh par ks pc T wr sy g ow) (h : CPf S S0 A B n N nd bh par ks lv D m st E V M t ln lp X Y C H F VF TB) (rp : RPf S Sr S0 R0 A B n sy N bh ks g ow D E V M X Y C H F) (hi : i < 3100) (hp : aI R0 43 (A 43) i = nI pl) (hw : Pch c cs w) (htd : td = 0 ∨ td = 1)
    (hcs : ∀ k, k < c → aI Sr 83 (A 83) k = nI (cs k / 5 % 7) ∧ aI Sr 84 (A 84) k = iJ ((cs k : Int) % 5 - 2) ∧ aI Sr 85 (A 85) k = nI (cs k / 35)) (hup : up < 2 ^ 63) (hd1 : 1 ≤ dn) (hd2 : dn < 2 ^ 63)
    (b6 : ¬ Ltie S A (VF (D - 1)) w → ∀ tp, aI S 38 (A 38) (VF (D - 1)) = nI tp → ∀ Sr1, RBad R0 Sr1 A (6, tp) → Q Sr1)
    (b2 : Ltie S A (VF (D - 1)) w → ¬ (up % dn = 0 ∧ up / dn ≤ 3870720000) → ∀ Sr1, RBad R0 Sr1 A (2, pl) → Q Sr1)
    (b5 : Ltie S A (VF (D - 1)) w → up % dn = 0 → up / dn ≤ 3870720000 → ¬ (E < 300 ∧ t + up / dn ≤ 3870720000) → ∀ Sr1, RBad R0 Sr1 A (5, pl) → Q Sr1)
    (hQ : Ltie S A (VF (D - 1)) w → up % dn = 0 → up / dn ≤ 3870720000 → E < 300 → t + up / dn ≤ 3870720000 → ∀ Sr1, AddR Sr Sr1 A E (VF (D - 1)) t (up / dn) c cs (if aI S 38 (A 38) (VF (D - 1)) = -1 then 0 else 1) td pl → Q Sr1) : wp_X12_event (A 9) (nI i) (nI c) (lN up) (lN dn) td Sr Q := by
  obtain ⟨r1, r2, r3, r4⟩ := rp
  have lm := r1.lay hr.1
  obtain ⟨a1, a2, ⟨a3, a4⟩, a5, a6, a7, ⟨v0, v1, v2⟩, a9, a10⟩ := h
  have hv := v1 (D - 1) (by omega)
  obtain ⟨⟨e1, e2, e3, e4, e5⟩, eev, ev⟩ := a10
  obtain ⟨ro1, ro2⟩ := r4.2.2.1 _ hv
  have ht := a5.2.2.2.1
  have hud : lN up / lN dn = lN (up / dn) := lN_div hup hd1 hd2
  have hdb : up / dn < 2 ^ 63 := Nat.lt_of_le_of_lt (Nat.div_le_self up dn) hup
  have hmul : up / dn * dn ≤ up := Nat.div_mul_le_self up dn
  have hmod : lN up - lN up / lN dn * lN dn = lN (up % dn) := by
    rw [hud, lN_mul, lN_sub hmul]
    congr 1
    have := Nat.div_add_mod up dn
    rw [Nat.mul_comm] at this
    omega
  have hmz : lN up - lN up / lN dn * lN dn = 0 ↔ up % dn = 0 := by
    rw [hmod, show (0 : Int64) = lN 0 from rfl, lN_eqq (Nat.lt_of_le_of_lt (Nat.mod_le up dn) hup) (by omega)]
  have hle : lN up / lN dn ≤ 3870720000 ↔ up / dn ≤ 3870720000 := by
    rw [hud, show (3870720000 : Int64) = lN 3870720000 from rfl, lN_leq hdb (by omega)]
  have bad : ∀ k q : Nat, RBad R0 (sI (sI Sr 102 (A 9) (nI k)) 103 (A 9) (nI q)) A (k, q) := fun k q => ⟨(r1.sI rfl).sI rfl, by simp only [fI_s, fI_sn, fL_s, fL_sn, aI_w, aI_wn, aL_w, aL_wn, fI_sL, fI_wI, fI_wL, fL_sI, fL_wI, fL_wL, aI_sI, aI_sL, aI_wL, aL_sI, aL_sL, aL_wI, fR_sI, fR_sL, fR_wI, fR_wL, aN_sI, aN_sL, aN_wI, aN_wL, ne_eq, Nat.reduceEqDiff, not_false_eq_true], by simp only [fI_s, fI_sn, fL_s, fL_sn, aI_w, aI_wn, aL_w, aL_wn, fI_sL, fI_wI, fI_wL, fL_sI, fL_wI, fL_wL, aI_sI, aI_sL, aI_wL, aL_sI, aL_sL, aL_wI, fR_sI, fR_sL, fR_wI, fR_wL, aN_sI, aN_sL, aN_wI, aN_wL, ne_eq, Nat.reduceEqDiff, not_false_eq_true]⟩
  have epn : (aI Sr 77 (A 77) (VF (D - 1)) = -1 ↔ aI S 38 (A 38) (VF (D - 1)) = -1) := by
    rcases ro2 with ⟨z1, z2⟩ | ⟨z1, e, z2, z3, z4, z5⟩
    · exact ⟨fun _ => z1, fun _ => z2⟩
    · exact ⟨fun y => absurd (z4.symm.trans y) (nI_ne_neg (by omega)), fun y => absurd y z1⟩
  refine r_event (tm := t) (tk := up / dn) (E := E) (v := VF (D - 1)) (cs := cs) lm hi (by rw [r1.a rfl]; exact hp) r2.1 (by rw [r2.2.2.2.1]; exact a5.2.2.1) (by omega) r4.1.1 e2 (by rw [r2.2.2.2.2.1]; exact ht.1) hw.1 htd hcs ?_ (Ltie S A (VF (D - 1)) w) ?_ ?_ ?_ ?_ ?_ ?_
  · intro z
    rw [show (0 : Int64) = lN 0 from rfl, lN_eqq hd2 (by omega)] at z; omega
  · rcases ro2 with ⟨z1, z2⟩ | ⟨z1, e, z2, z3, z4, z5⟩
    · exact Or.inl ⟨z2, Or.inl z1⟩
    · obtain ⟨q1, ⟨c', cs', q2, q3⟩, q4⟩ := r4.2.1 e z2
      refine Or.inr ⟨e, z2, z4, ⟨c', q2.1, q3.1⟩, ?_⟩
      have hw0 : aL S 31 (A 31) e ≠ 0 := by
        rcases (ev _ hv).2.2 with y | ⟨_, ⟨e', y1, y2, y3, y4⟩, _⟩
        · exact absurd y z1
        · have : e' = e := by
            have q := y2.symm.trans z3
            rwa [nI_eq (by omega) (by omega)] at q
          rw [this] at y4; exact y4
      constructor
      · intro y
        rcases y with y | ⟨e', y1, y2, y3⟩
        · exact absurd y z1
        · have : e' = e := by
            have q := y1.symm.trans z3
            rwa [nI_eq (by omega) (by omega)] at q
          rw [this] at y3
          rw [y3] at q2
          obtain ⟨ec, ecs⟩ := q2.inj hw
          subst ec
          have c0 : 0 < c' := by
            rcases Nat.eq_zero_or_pos c' with q | q
            · rw [y3] at hw0; exact absurd (hw.z.mpr q) hw0
            · exact q
          refine ⟨q3.1, c0, fun k hk => ?_⟩
          obtain ⟨u1, u2, u3⟩ := q3.2 k hk
          obtain ⟨s1, s2, s3⟩ := hcs k hk
          rw [u1, u2, u3, s1, s2, s3, ecs k hk]; exact ⟨rfl, rfl, rfl⟩
      · rintro ⟨l1, l2, l3⟩
        have ec : c' = c := by
          have q := q3.1.symm.trans l1
          have := q2.1; have := hw.1
          rwa [nI_eq (by omega) (by omega)] at q
        subst ec
        refine Or.inr ⟨e, z3, by omega, ?_⟩
        have hcc : ∀ k, k < c' → cs' k = cs k := fun k hk => by
          obtain ⟨u1, u2, u3⟩ := q3.2 k hk
          obtain ⟨s1, s2, s3⟩ := hcs k hk
          obtain ⟨l4, l5, l6⟩ := l3 k hk
          have b1 := q2.2.1 k hk; have b2 := hw.2.1 k hk
          rw [u1, s1, nI_eq (by omega) (by omega)] at l4
          rw [u2, s2, iJ_inj (by omega) (by omega) (by omega) (by omega)] at l5
          rw [u3, s3, nI_eq (by omega) (by omega)] at l6
          omega
        rw [q2.2.2, hw.2.2]
        have : ∀ z, z ≤ c' → pkn c' cs' z = pkn c' cs z := by
          intro z
          induction z with
          | zero => intro _; rfl
          | succ z ihz => intro hz; rw [pkn, pkn, ihz (by omega), hcc z (by omega)]
        rw [this c' (Nat.le_refl _)]
  · intro hn e he h77
    rcases ro2 with ⟨z1, z2⟩ | ⟨z1, e', z2, z3, z4, z5⟩
    · exact absurd (h77.symm.trans z2) (nI_ne_neg (by omega))
    · have : e' = e := by
        have q := z4.symm.trans h77
        rwa [nI_eq (by omega) (by omega)] at q
      subst this
      rcases (ev _ hv).2.2 with y | ⟨⟨tp, y1, y2⟩, _⟩
      · exact absurd y z1
      · exact ⟨tp, z5.trans y2, b6 hn tp y2 _ (bad 6 tp)⟩
  · intro hL hn
    exact b2 hL (fun z => hn ⟨hmz.mpr z.1, hle.mpr z.2⟩) _ (bad 2 pl)
  · intro hL q1 q2 hn
    refine b5 hL (hmz.mp q1) (hle.mp q2) (fun z => hn ⟨z.1, ?_⟩) _ (bad 5 pl)
    have l2 := hle.mp q2
    have l3 := ht.2
    rw [hud, lN_add, show (3870720000 : Int64) = lN 3870720000 from rfl, lN_leq (by omega) (by omega)]; exact z.2
  · intro hL q1 q2 q3 q4 q5 Sr1 ar
    have e5' : (if aI Sr 77 (A 77) (VF (D - 1)) = -1 then (0 : Int32) else 1) = (if aI S 38 (A 38) (VF (D - 1)) = -1 then 0 else 1) := by
      by_cases y : aI S 38 (A 38) (VF (D - 1)) = -1
      · rw [if_pos y, if_pos (epn.mpr y)]
      · rw [if_neg y, if_neg (fun z => y (epn.mp z))]
    rw [e5'] at ar
    have l2 := hle.mp q2
    rw [hud, lN_add, show (3870720000 : Int64) = lN 3870720000 from rfl, lN_leq (by have := ht.2; omega) (by omega)] at q5
    exact hQ hL (hmz.mp q1) l2 q4 q5 Sr1 ar
  · intro q1 q2; exact hud
end
