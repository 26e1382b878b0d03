/-! Performing: voices begin. -/
section
variable {S S1 S2 S0 Sr Sr1 Sr2 R0 : PS} {A : Nat → Nat} {B : Nat → Int32} {n N nd pc : Nat} {bh par ks lv g ow : Nat → Nat}
variable {D m st E V M t ln sy x v : Nat} {lp : Int} {X Y C H F VF TB cs : Nat → Nat} {w : Int64}
/-- the reference at an event -/
theorem r_evt2 {Q : PS → Prop} {i pl c : Nat} {up dn : Nat} {td : Int32} (hlm : LayM R0 A) (a10 : PfE S A B n D E V VF) (hv : v < V) (r1 : KPf R0 Sr) (r102 : fI Sr 102 (A 9) = 0) (r155 : fI Sr 155 (A 9) = nI v) (r156 : fL Sr 156 (A 9) = lN t) (ht : t ≤ 3870720000) (r4 : RpN S Sr R0 A B n sy E V M) (hi : i < 3100) (hp : aI R0 43 (A 43) i = nI pl) (hw : Pch c cs w) (htd : td = 0 ∨ td = 1)
    (hcs : ∀ k, k < c → aI Sr 83 (A 83) k = nI (cs k / 5 % 7) ∧ aI Sr 84 (A 84) k = iJ ((cs k : Int) % 5 - 2) ∧ aI Sr 85 (A 85) k = nI (cs k / 35)) (hup : up < 2 ^ 63) (hd1 : 1 ≤ dn) (hd2 : dn < 2 ^ 63)
    (b6 : ¬ Ltie S A v w → ∀ tp, aI S 38 (A 38) v = nI tp → ∀ Sr1, RBad R0 Sr1 A (6, tp) → Q Sr1)
    (b2 : Ltie S A v w → ¬ (up % dn = 0 ∧ up / dn ≤ 3870720000) → ∀ Sr1, RBad R0 Sr1 A (2, pl) → Q Sr1)
    (b5 : Ltie S A v w → up % dn = 0 → up / dn ≤ 3870720000 → ¬ (E < 300 ∧ t + up / dn ≤ 3870720000) → ∀ Sr1, RBad R0 Sr1 A (5, pl) → Q Sr1)
    (hQ : Ltie S A v w → up % dn = 0 → up / dn ≤ 3870720000 → E < 300 → t + up / dn ≤ 3870720000 → ∀ Sr1, AddR Sr Sr1 A E v t (up / dn) c cs (if aI S 38 (A 38) v = -1 then 0 else 1) td pl → Q Sr1) : wp_X12_event (A 9) (nI i) (nI c) (lN up) (lN dn) td Sr Q := by
  have lm := r1.lay hlm
  obtain ⟨⟨e1, e2, e3, e4, e5⟩, eev, ev⟩ := a10
  obtain ⟨ro1, ro2⟩ := r4.2.2.1 _ hv
  have hud : lN up / lN dn = lN (up / dn) := lN_div hup hd1 hd2
  have hdb : up / dn < 2 ^ 63 := Nat.lt_of_le_of_lt (Nat.div_le_self up dn) hup
  have hmul : up / dn * dn ≤ up := Nat.div_mul_le_self up dn
  have hmod : lN up - lN up / lN dn * lN dn = lN (up % dn) := by
    rw [hud, lN_mul, lN_sub hmul]
    congr 1
    have := Nat.div_add_mod up dn
    rw [Nat.mul_comm] at this
    omega
  have hmz : lN up - lN up / lN dn * lN dn = 0 ↔ up % dn = 0 := by
    rw [hmod, show (0 : Int64) = lN 0 from rfl, lN_eqq (Nat.lt_of_le_of_lt (Nat.mod_le up dn) hup) (by omega)]
  have hle : lN up / lN dn ≤ 3870720000 ↔ up / dn ≤ 3870720000 := by
    rw [hud, show (3870720000 : Int64) = lN 3870720000 from rfl, lN_leq hdb (by omega)]
  have bad : ∀ k q : Nat, RBad R0 (sI (sI Sr 102 (A 9) (nI k)) 103 (A 9) (nI q)) A (k, q) := fun k q => ⟨(r1.sI rfl).sI rfl, by simp only [fI_s, fI_sn, fL_s, fL_sn, aI_w, aI_wn, aL_w, aL_wn, fI_sL, fI_wI, fI_wL, fL_sI, fL_wI, fL_wL, aI_sI, aI_sL, aI_wL, aL_sI, aL_sL, aL_wI, fR_sI, fR_sL, fR_wI, fR_wL, aN_sI, aN_sL, aN_wI, aN_wL, ne_eq, Nat.reduceEqDiff, not_false_eq_true], by simp only [fI_s, fI_sn, fL_s, fL_sn, aI_w, aI_wn, aL_w, aL_wn, fI_sL, fI_wI, fI_wL, fL_sI, fL_wI, fL_wL, aI_sI, aI_sL, aI_wL, aL_sI, aL_sL, aL_wI, fR_sI, fR_sL, fR_wI, fR_wL, aN_sI, aN_sL, aN_wI, aN_wL, ne_eq, Nat.reduceEqDiff, not_false_eq_true]⟩
  have epn : (aI Sr 77 (A 77) v = -1 ↔ aI S 38 (A 38) v = -1) := by
    rcases ro2 with ⟨z1, z2⟩ | ⟨z1, e, z2, z3, z4, z5⟩
    · exact ⟨fun _ => z1, fun _ => z2⟩
    · exact ⟨fun y => absurd (z4.symm.trans y) (nI_ne_neg (by omega)), fun y => absurd y z1⟩
  refine r_event (tm := t) (tk := up / dn) (E := E) (v := v) (cs := cs) lm hi (by rw [r1.a rfl]; exact hp) r102 r155 (by omega) r4.1.1 e2 r156 hw.1 htd hcs ?_ (Ltie S A v w) ?_ ?_ ?_ ?_ ?_ ?_
  · intro z
    rw [show (0 : Int64) = lN 0 from rfl, lN_eqq hd2 (by omega)] at z; omega
  · rcases ro2 with ⟨z1, z2⟩ | ⟨z1, e, z2, z3, z4, z5⟩
    · exact Or.inl ⟨z2, Or.inl z1⟩
    · obtain ⟨q1, ⟨c', cs', q2, q3⟩, q4⟩ := r4.2.1 e z2
      refine Or.inr ⟨e, z2, z4, ⟨c', q2.1, q3.1⟩, ?_⟩
      have hw0 : aL S 31 (A 31) e ≠ 0 := by
        rcases (ev _ hv).2.2 with y | ⟨_, ⟨e', y1, y2, y3, y4⟩, _⟩
        · exact absurd y z1
        · have : e' = e := by
            have q := y2.symm.trans z3
            rwa [nI_eq (by omega) (by omega)] at q
          rw [this] at y4; exact y4
      constructor
      · intro y
        rcases y with y | ⟨e', y1, y2, y3⟩
        · exact absurd y z1
        · have : e' = e := by
            have q := y1.symm.trans z3
            rwa [nI_eq (by omega) (by omega)] at q
          rw [this] at y3
          rw [y3] at q2
          obtain ⟨ec, ecs⟩ := q2.inj hw
          subst ec
          have c0 : 0 < c' := by
            rcases Nat.eq_zero_or_pos c' with q | q
            · rw [y3] at hw0; exact absurd (hw.z.mpr q) hw0
            · exact q
          refine ⟨q3.1, c0, fun k hk => ?_⟩
          obtain ⟨u1, u2, u3⟩ := q3.2 k hk
          obtain ⟨s1, s2, s3⟩ := hcs k hk
          rw [u1, u2, u3, s1, s2, s3, ecs k hk]; exact ⟨rfl, rfl, rfl⟩
      · rintro ⟨l1, l2, l3⟩
        have ec : c' = c := by
          have q := q3.1.symm.trans l1
          have := q2.1; have := hw.1
          rwa [nI_eq (by omega) (by omega)] at q
        subst ec
        refine Or.inr ⟨e, z3, by omega, ?_⟩
        have hcc : ∀ k, k < c' → cs' k = cs k := fun k hk => by
          obtain ⟨u1, u2, u3⟩ := q3.2 k hk
          obtain ⟨s1, s2, s3⟩ := hcs k hk
          obtain ⟨l4, l5, l6⟩ := l3 k hk
          have b1 := q2.2.1 k hk; have b2 := hw.2.1 k hk
          rw [u1, s1, nI_eq (by omega) (by omega)] at l4
          rw [u2, s2, iJ_inj (by omega) (by omega) (by omega) (by omega)] at l5
          rw [u3, s3, nI_eq (by omega) (by omega)] at l6
          omega
        rw [q2.2.2, hw.2.2]
        have : ∀ z, z ≤ c' → pkn c' cs' z = pkn c' cs z := by
          intro z
          induction z with
          | zero => intro _; rfl
          | succ z ihz => intro hz; rw [pkn, pkn, ihz (by omega), hcc z (by omega)]
        rw [this c' (Nat.le_refl _)]
  · intro hn e he h77
    rcases ro2 with ⟨z1, z2⟩ | ⟨z1, e', z2, z3, z4, z5⟩
    · exact absurd (h77.symm.trans z2) (nI_ne_neg (by omega))
    · have : e' = e := by
        have q := z4.symm.trans h77
        rwa [nI_eq (by omega) (by omega)] at q
      subst this
      rcases (ev _ hv).2.2 with y | ⟨⟨tp, y1, y2⟩, _⟩
      · exact absurd y z1
      · exact ⟨tp, z5.trans y2, b6 hn tp y2 _ (bad 6 tp)⟩
  · intro hL hn
    exact b2 hL (fun z => hn ⟨hmz.mpr z.1, hle.mpr z.2⟩) _ (bad 2 pl)
  · intro hL q1 q2 hn
    refine b5 hL (hmz.mp q1) (hle.mp q2) (fun z => hn ⟨z.1, ?_⟩) _ (bad 5 pl)
    have l2 := hle.mp q2
    have l3 := ht
    rw [hud, lN_add, show (3870720000 : Int64) = lN 3870720000 from rfl, lN_leq (by omega) (by omega)]; exact z.2
  · intro hL q1 q2 q3 q4 q5 Sr1 ar
    have e5' : (if aI Sr 77 (A 77) v = -1 then (0 : Int32) else 1) = (if aI S 38 (A 38) v = -1 then 0 else 1) := by
      by_cases y : aI S 38 (A 38) v = -1
      · rw [if_pos y, if_pos (epn.mpr y)]
      · rw [if_neg y, if_neg (fun z => y (epn.mp z))]
    rw [e5'] at ar
    have l2 := hle.mp q2
    rw [hud, lN_add, show (3870720000 : Int64) = lN 3870720000 from rfl, lN_leq (by omega) (by omega)] at q5
    exact hQ hL (hmz.mp q1) l2 q4 q5 Sr1 ar
  · intro q1 q2; exact hud
theorem RSR.o11 {T wr : Nat} (h : RSR S0 R0 A B n N nd bh par ks pc T wr sy g ow) (h1 : 1 ≤ x) (h2 : x ≤ N) (hk : ks x = 11 ∨ ks x = 7) : ow x = g x := by
  obtain ⟨⟨pl, a1, a2, a3, a4⟩, _⟩ := h.at h1 h2
  rcases a4 with z | ⟨a5, a6, a7⟩
  · exact z.2
  · rcases a7 with ⟨z, _⟩ | ⟨z, _⟩ | z | ⟨_, z, _⟩ | ⟨z, _⟩ | ⟨z, _⟩ | ⟨z, _⟩
    · omega
    · omega
    · rcases z.1 with ⟨_, z, _⟩ | ⟨z, _⟩ <;> omega
    · exact z
    · omega
    · omega
    · omega
theorem k_vcs {Q : Int32 → PS → Prop} (sc : StC S0 A B n pc N nd bh par ks lv) (h : CPf S S0 A B n N nd bh par ks lv D m st E V M t ln lp X Y C H F VF TB) (hx : Itm N par Y D x) (hk : ks x = 7)
    (hQ : ∀ S2 m1 F1, m1 = (if D < m then m else m + 1) → CPf S2 S0 A B n N nd bh par ks lv (D + 1) m1 st E V M t ln lp (uq X D x) (uq Y D (x + 1)) (uq C D (x + 1)) (uq H D (H (D - 1))) F1 (uq VF D (VF (D - 1))) (uq TB D t) → GoB S0 A B n N nd bh par ks x S D E V M X Y C H F S2 (D + 1) E V M (uq X D x) (uq Y D (x + 1)) (uq C D (x + 1)) (uq H D (H (D - 1))) F1 → Q 1 S2) : wp_X3_begin (A 3) (nI (x - 1)) (kq D m) S Q := by
  have hx' := hx
  obtain ⟨x1, x2, x3⟩ := hx
  have h' := h
  obtain ⟨a1, a2, ⟨a3, a4⟩, a5, a6, a7, a8, a9, a10⟩ := h
  have hpg := sc.pg a1 a2
  have hA : Ad S A := sc.2.1.ext a1.1
  obtain ⟨R00, T0, wr0, sy0, g0, ow0, r0⟩ := sc.rsr
  obtain ⟨pl, pl1, pl2, _, ah⟩ := r0.pl x1 x2 (by omega)
  have hB : B pl = 91 := by
    rw [hk] at ah
    unfold kof at ah
    by_cases e : B pl = 91
    · exact e
    · rw [if_neg e] at ah
      repeat' split at ah
      all_goals omega
  have s5 := sc.2.2.2.2.1
  have s6 := sc.2.2.2.2.2.1
  have s7 := sc.2.2.2.2.2.2.1
  have tx := s5.1 x x1 x2
  have hbx : x < bh x := by
    have := (s6 x x1 x2).2.1 hk
    omega
  have y2 : x + 1 ≤ N := by omega
  have py : par (x + 1) = x := s5.2.1 x (by omega) (by rw [bn_pos x1]; exact hbx)
  have ky : ks (x + 1) = 11 := ((s6 (x + 1) (by omega) y2).1).mpr ⟨by omega, Or.inl (by rw [py]; exact hk)⟩
  have f := a6 (D - 1) (by omega)
  have lx := s7 x x1 x2
  have ly := s7 (x + 1) (by omega) y2
  have sx : stp ks par x = 1 := by unfold stp; rw [if_neg (by omega), if_neg (by omega)]
  have ell : ll ks par lv (Y (D - 1)) = lv x := by unfold ll; rw [lx.2, x3]
  have elly : ll ks par lv (x + 1) = lv x + 1 := by
    unfold ll
    have sy' : stp ks par (x + 1) = 0 := by unfold stp; rw [if_neg (by omega), if_pos ⟨ky, by rw [py]; exact hk⟩]
    rw [if_neg (by omega), sy', ly.2, py, if_neg (by omega), sx]
  have ly1 : lv (x + 1) = lv x + 1 := by rw [ly.2, py, if_neg (by omega), sx]
  have f4 := f.2.2.2.1
  rw [ell] at f4
  have hu := a5.2.2.2.2.2.2.2.2.2.2.2.2.1.2
  have hD : D < 201 := by have := ly.1.1; omega
  have ty := s5.1 (x + 1) (by omega) y2
  have fk : FrK S0 A N nd bh par ks lv (uq X D x) (uq Y D (x + 1)) (uq C D (x + 1)) (uq H D (H (D - 1))) D := by
    refine ⟨by rw [uq_at]; exact y2, ?_, fun z => ?_, ?_, fun z => by omega, fun _ => ?_, ?_⟩
    · rw [uq_at, uq_at, bn_pos (by omega)]; exact ty.2.1
    · rw [uq_at, uq_at]
      rw [uq_at, uq_at] at z
      refine s5.2.1 (x + 1) ?_ z
      rw [bn_pos (by omega)] at z; omega
    · rw [uq_at, cp_pu a3, pk_f (by omega), if_neg (by decide), elly]; omega
    · rw [uq_at, uq_at, uq_ne (by omega), uq_at, uq_ne (by omega)]
      exact ⟨x1, x2, x3, Or.inr (Or.inl ⟨hk, by omega, py, rfl⟩)⟩
    · rw [uq_at, uq_at, nmy_u2 s5.dn (by omega) y2 (by omega), py, nmy_u2 s5.dn x1 x2 (by omega), x3]
      rcases f.2.2.2.2.2.2 with z | ⟨z, q, q1, q2, q3, q4, q5⟩
      · exact Or.inl z
      · refine Or.inr ⟨z, q, q1, q2, by omega, ?_⟩
        rw [uq_ne (by omega)]; exact ⟨q4, q5⟩
  have h24 := a5.1
  have ex : x - 1 + 1 = x := by omega
  unfold wp_X3_begin
  refine ⟨_, a2.1, s_kindOf hpg (by omega) pl2 pl1 ?_⟩
  rw [hB, if_neg (by decide), if_neg (by decide), if_neg (by decide), if_neg (by decide), if_neg (by decide), if_neg (by decide), if_neg (by decide), if_neg (by decide), if_pos rfl]
  refine ⟨kq D m, ⟨Nat.le_refl _, Nat.le_refl _⟩, ?_⟩
  unfold wp_X3_openVoices
  rintro _ rfl
  rw [nI_1, ex]
  refine ⟨_, a2.1, s_behind hpg (by omega) ?_⟩
  refine ⟨kq D m, ⟨Nat.le_refl _, Nat.le_refl _⟩, ?_⟩
  have h17 := sc.2.2.2.1 (x + 1) (by omega) y2
  rw [Nat.add_sub_cancel] at h17
  rw [h17, nI_1]
  refine s_push hA a2 a4 h24 hD (fun S1 m1 F1 p => ⟨fun z => (by cases z), fun b hb => ?_⟩)
  injection hb with hb
  subst hb
  have w := p.w a1
  have p8 := p.2.2.2.2.2.2.2.1
  have p9 := p.2.2.2.2.2.2.2.2.1
  have p10 := p.2.2.2.2.2.2.2.2.2.1
  rintro _ rfl _ rfl _ rfl _ rfl _ rfl _ rfl _ rfl
  simp only [fI_s, fI_sn, fL_s, fL_sn, aI_w, aI_wn, aL_w, aL_wn, fI_sL, fI_wI, fI_wL, fL_sI, fL_wI, fL_wL, aI_sI, aI_sL, aI_wL, aL_sI, aL_sL, aL_wI, fR_sI, fR_sL, fR_wI, fR_wL, aN_sI, aN_sL, aN_wI, aN_wL, ne_eq, Nat.reduceEqDiff, not_false_eq_true]
  generalize hS2 : sL (sL (sI (sL (sL (sI (sI S1 38 (A 3) (fI S1 38 (A 3) + 1)) 10 (F1 D) (fI S1 27 (A 3))) 11 (F1 D) (fL S1 28 (A 3))) 12 (F1 D) (fL S1 29 (A 3))) 6 (F1 D) (fI S1 30 (A 3))) 13 (F1 D) (-1)) 16 (F1 D) (fL S1 28 (A 3)) = S2
  have k2 : Keep jq rN S1 S2 := by rw [← hS2]; exact ((((((Keep.rf.sI rfl).sI rfl).sL rfl).sL rfl).sI rfl).sL rfl).sL rfl
  have kw : Kws (PW A S0) S0 S2 := by rw [← hS2]; exact (((((((p.2.2.2.2.2.1 S0 a1).sI (PW.at rfl)).sI w).sL w).sL w).sI w).sL w).sL w
  have hfr : ∀ i, i < D → ∀ j, 2 ≤ j → j ≤ 16 → fI S2 j (F i) = fI S1 j (F i) ∧ fL S2 j (F i) = fL S1 j (F i) := fun i hi j j1 j2 => by
    have hne := p.ne hi
    rw [← hS2]
    refine ⟨?_, ?_⟩
    · rw [fI_sL, fI_sL, fI_sI, if_neg (fun z => hne z.2), fI_sL, fI_sL, fI_sI, if_neg (fun z => hne z.2), fI_sn _ _ _ _ _ (by omega)]
    · rw [fL_sL, if_neg (fun z => hne z.2), fL_sL, if_neg (fun z => hne z.2), fL_sI, fL_sL, if_neg (fun z => hne z.2), fL_sL, if_neg (fun z => hne z.2)]; rfl
  have c : CpS S S2 S0 A ks D x (H (D - 1)) := by
    unfold CpS
    rw [← hS2]
    simp only [fI_s, fI_sn, fL_s, fL_sn, aI_w, aI_wn, aL_w, aL_wn, fI_sL, fI_wI, fI_wL, fL_sI, fL_wI, fL_wL, aI_sI, aI_sL, aI_wL, aL_sI, aL_sL, aL_wI, fR_sI, fR_sL, fR_wI, fR_wL, aN_sI, aN_sL, aN_wI, aN_wL, ne_eq, Nat.reduceEqDiff, not_false_eq_true, hk, reduceIte, Nat.reduceEqDiff]
    exact ⟨p.2.2.2.2.2.2.1, p8 26 (by decide), p8 27 (by decide), p9 28, p9 29, p8 30 (by decide), p8 31 (by decide), p8 32 (by decide), p9 33, p9 34, p8 35 (by decide), p8 36 (by decide), p8 37 (by decide), by rw [p8 38 (by decide)], p8 39 (by decide)⟩
  have fr : FrC S2 S0 A N bh ks st (uq X D x) (uq Y D (x + 1)) (uq C D (x + 1)) (uq H D (H (D - 1))) F1 (uq VF D (VF (D - 1))) (uq TB D t) D := by
    refine ⟨by rw [← hS2, uq_at, hz_pos x1]; simp only [fI_s, fI_sn, fL_s, fL_sn, aI_w, aI_wn, aL_w, aL_wn, fI_sL, fI_wI, fI_wL, fL_sI, fL_wI, fL_wL, aI_sI, aI_sL, aI_wL, aL_sI, aL_sL, aL_wI, fR_sI, fR_sL, fR_wI, fR_wL, aN_sI, aN_sL, aN_wI, aN_wL, ne_eq, Nat.reduceEqDiff, not_false_eq_true]; exact p10.1, by rw [← hS2, uq_at]; simp only [fI_s, fI_sn, fL_s, fL_sn, aI_w, aI_wn, aL_w, aL_wn, fI_sL, fI_wI, fI_wL, fL_sI, fL_wI, fL_wL, aI_sI, aI_sL, aI_wL, aL_sI, aL_sL, aL_wI, fR_sI, fR_sL, fR_wI, fR_wL, aN_sI, aN_sL, aN_wI, aN_wL, ne_eq, Nat.reduceEqDiff, not_false_eq_true]; exact p10.2.1, by rw [← hS2, uq_at, bn_pos (by omega)]; simp only [fI_s, fI_sn, fL_s, fL_sn, aI_w, aI_wn, aL_w, aL_wn, fI_sL, fI_wI, fI_wL, fL_sI, fL_wI, fL_wL, aI_sI, aI_sL, aI_wL, aL_sI, aL_sL, aL_wI, fR_sI, fR_sL, fR_wI, fR_wL, aN_sI, aN_sL, aN_wI, aN_wL, ne_eq, Nat.reduceEqDiff, not_false_eq_true]; exact p10.2.2, fun _ => ?_⟩
    rw [uq_at]
    refine ⟨fun z => by omega, fun z => by omega, fun z => by omega, fun z => by omega, fun _ => ?_, fun z => absurd hk z⟩
    unfold FrV
    rw [uq_at, uq_at, uq_at, uq_at, uq_ne (show D - 1 ≠ D by omega), ← hS2]
    simp only [fI_s, fI_sn, fL_s, fL_sn, aI_w, aI_wn, aL_w, aL_wn, fI_sL, fI_wI, fI_wL, fL_sI, fL_wI, fL_wL, aI_sI, aI_sL, aI_wL, aL_sI, aL_sL, aL_wI, fR_sI, fR_sL, fR_wI, fR_wL, aN_sI, aN_sL, aN_wI, aN_wL, ne_eq, Nat.reduceEqDiff, not_false_eq_true]
    rw [p8 27 (by decide), p9 28, p9 29, p8 30 (by decide)]
    exact ⟨a5.2.2.1, a5.2.2.2.1.1, ⟨ln, a5.2.2.2.2.1.2.1, a5.2.2.2.2.1.2.2, a5.2.2.2.2.1.1⟩, ⟨lp, a5.2.2.2.2.2.1.1, a5.2.2.2.2.2.1.2⟩, Or.inl ⟨trivial, trivial, a5.2.2.2.1.1, trivial⟩⟩
  have cp3 := h'.push p k2 kw hfr (a5.push a3 c (fun z => by omega) (fun z => by omega) (fun _ => rfl) (fun z => by omega)) fk fr
  rw [if_neg (show ¬ ks x = 3 by omega)] at cp3
  refine hQ S2 m1 F1 p.2.2.2.2.1 cp3 ?_
  intro R0 pc T wr sy g ow hr Sr rp Q2 hQ2
  have lm := rp.1.lay hr.1
  obtain ⟨at1, gx, owx⟩ := hr.at x1 x2
  obtain ⟨aty, gy, owy⟩ := hr.at (x := x + 1) (by omega) y2
  have oy : ow (x + 1) = g (x + 1) := hr.o11 (by omega) y2 (Or.inl ky)
  have ox : ow x = g x := hr.o11 x1 x2 (Or.inr hk)
  have e46 : aI R0 46 (A 46) (g x) = nI (ow (x + 1)) := by
    have q := hr.2.2.1.1 x x2
    rw [ox, bn_pos x1, if_pos hbx] at q
    rw [oy]; exact q
  have hb := (a6 (D - 1) (by omega)).hb
  have hpn : ¬ pn S0 A ks x = true := by unfold pn; rw [decide_eq_true_iff]; omega
  have vD : ∀ {r : Nat}, r = 260 → vp_in (nI D) r := fun h => by rw [h]; exact vp_in_nI (by omega) (by omega)
  unfold wp_X12_begin
  intro v1 hv1
  rw [rp.2.1.2.1] at hv1
  subst hv1
  refine ⟨_, lm.f105, by rw [lm.n42]; exact vp_in_nI gx (by omega), ?_⟩
  rw [nI_clamp (by omega), rp.1.a rfl, hr.sort x1 x2, hk, if_neg (by decide), if_neg (by decide), if_neg (by decide), if_neg (by decide), if_neg (by decide), if_neg (by decide), if_neg (by decide), if_pos (by decide)]
  have cD : (nI D).toNatClampNeg = D := nI_clamp (by omega)
  refine ⟨_, lm.f178, vD lm.n91, ?_⟩
  rintro _ rfl
  refine ⟨_, lm.f183, vD lm.n96, ?_⟩
  rintro _ rfl
  refine ⟨_, lm.f184, vD lm.n97, ?_⟩
  rintro _ rfl
  refine ⟨_, lm.f177, vD lm.n90, ?_⟩
  rintro _ rfl _ rfl
  rw [cD]
  simp only [fI_s, fI_sn, fL_s, fL_sn, aI_w, aI_wn, aL_w, aL_wn, fI_sL, fI_wI, fI_wL, fL_sI, fL_wI, fL_wL, aI_sI, aI_sL, aI_wL, aL_sI, aL_sL, aL_wI, fR_sI, fR_sL, fR_wI, fR_wL, aN_sI, aN_sL, aN_wI, aN_wL, ne_eq, Nat.reduceEqDiff, not_false_eq_true]
  generalize hSr1 : sI (wI (wL (wL (wI Sr 91 (A 91) D (fI Sr 155 (A 9))) 96 (A 96) D (fL Sr 156 (A 9))) 97 (A 97) D (fL Sr 157 (A 9))) 90 (A 90) D (fI Sr 158 (A 9))) 165 (A 9) (fI Sr 165 (A 9) + 1) = Sr1
  have st1 : St Sr1 = St Sr := by rw [← hSr1]; rfl
  have lm1 := lm.st st1
  refine ⟨_, lm.f109, by rw [lm.n46]; exact vp_in_nI gx (by omega), ?_⟩
  rw [rp.1.a (r := 46) rfl, e46]
  refine r_enter lm1 (by rw [← hSr1]; simp only [fI_s, fI_sn, fL_s, fL_sn, aI_w, aI_wn, aL_w, aL_wn, fI_sL, fI_wI, fI_wL, fL_sI, fL_wI, fL_wL, aI_sI, aI_sL, aI_wL, aL_sI, aL_sL, aL_wI, fR_sI, fR_sL, fR_wI, fR_wL, aN_sI, aN_sL, aN_wI, aN_wL, ne_eq, Nat.reduceEqDiff, not_false_eq_true]; exact rp.2.1.2.1) (by omega) owy ?_
  have kr : KPf R0 Sr1 := by rw [← hSr1]; exact ((((rp.1.wI rfl).wL rfl).wL rfl).wI rfl).sI rfl
  obtain ⟨b102, b188, b154, b155, b156, b157, b158, b159, b160, b161, b162, b163, b164, b166, b165, b169⟩ := rp.2.1
  have ss : RpS S2 (enS Sr1 A D (nI (g x)) (ow (x + 1)) (hw S0 A ks X (H (D - 1)))) S0 A ks (D + 1) (uq X D x) := by
    refine rp.2.1.push a3 (R0 := R0) (gx := g x) c ?_ (fun z => by omega)
    rw [← hSr1]
    exact ⟨by unfold enS; simp only [fI_s, fI_sn, fL_s, fL_sn, aI_w, aI_wn, aL_w, aL_wn, fI_sL, fI_wI, fI_wL, fL_sI, fL_wI, fL_wL, aI_sI, aI_sL, aI_wL, aL_sI, aL_sL, aL_wI, fR_sI, fR_sL, fR_wI, fR_wL, aN_sI, aN_sL, aN_wI, aN_wL, ne_eq, Nat.reduceEqDiff, not_false_eq_true], by unfold enS; simp only [fI_s, fI_sn, fL_s, fL_sn, aI_w, aI_wn, aL_w, aL_wn, fI_sL, fI_wI, fI_wL, fL_sI, fL_wI, fL_wL, aI_sI, aI_sL, aI_wL, aL_sI, aL_sL, aL_wI, fR_sI, fR_sL, fR_wI, fR_wL, aN_sI, aN_sL, aN_wI, aN_wL, ne_eq, Nat.reduceEqDiff, not_false_eq_true], by unfold enS; simp only [fI_s, fI_sn, fL_s, fL_sn, aI_w, aI_wn, aL_w, aL_wn, fI_sL, fI_wI, fI_wL, fL_sI, fL_wI, fL_wL, aI_sI, aI_sL, aI_wL, aL_sI, aL_sL, aL_wI, fR_sI, fR_sL, fR_wI, fR_wL, aN_sI, aN_sL, aN_wI, aN_wL, ne_eq, Nat.reduceEqDiff, not_false_eq_true], by unfold enS; simp only [fI_s, fI_sn, fL_s, fL_sn, aI_w, aI_wn, aL_w, aL_wn, fI_sL, fI_wI, fI_wL, fL_sI, fL_wI, fL_wL, aI_sI, aI_sL, aI_wL, aL_sI, aL_sL, aL_wI, fR_sI, fR_sL, fR_wI, fR_wL, aN_sI, aN_sL, aN_wI, aN_wL, ne_eq, Nat.reduceEqDiff, not_false_eq_true], by unfold enS; simp only [fI_s, fI_sn, fL_s, fL_sn, aI_w, aI_wn, aL_w, aL_wn, fI_sL, fI_wI, fI_wL, fL_sI, fL_wI, fL_wL, aI_sI, aI_sL, aI_wL, aL_sI, aL_sL, aL_wI, fR_sI, fR_sL, fR_wI, fR_wL, aN_sI, aN_sL, aN_wI, aN_wL, ne_eq, Nat.reduceEqDiff, not_false_eq_true], by unfold enS; simp only [fI_s, fI_sn, fL_s, fL_sn, aI_w, aI_wn, aL_w, aL_wn, fI_sL, fI_wI, fI_wL, fL_sI, fL_wI, fL_wL, aI_sI, aI_sL, aI_wL, aL_sI, aL_sL, aL_wI, fR_sI, fR_sL, fR_wI, fR_wL, aN_sI, aN_sL, aN_wI, aN_wL, ne_eq, Nat.reduceEqDiff, not_false_eq_true], by unfold enS; simp only [fI_s, fI_sn, fL_s, fL_sn, aI_w, aI_wn, aL_w, aL_wn, fI_sL, fI_wI, fI_wL, fL_sI, fL_wI, fL_wL, aI_sI, aI_sL, aI_wL, aL_sI, aL_sL, aL_wI, fR_sI, fR_sL, fR_wI, fR_wL, aN_sI, aN_sL, aN_wI, aN_wL, ne_eq, Nat.reduceEqDiff, not_false_eq_true, hk, reduceIte], by unfold enS; simp only [fI_s, fI_sn, fL_s, fL_sn, aI_w, aI_wn, aL_w, aL_wn, fI_sL, fI_wI, fI_wL, fL_sI, fL_wI, fL_wL, aI_sI, aI_sL, aI_wL, aL_sI, aL_sL, aL_wI, fR_sI, fR_sL, fR_wI, fR_wL, aN_sI, aN_sL, aN_wI, aN_wL, ne_eq, Nat.reduceEqDiff, not_false_eq_true, hk, reduceIte], by unfold enS; simp only [fI_s, fI_sn, fL_s, fL_sn, aI_w, aI_wn, aL_w, aL_wn, fI_sL, fI_wI, fI_wL, fL_sI, fL_wI, fL_wL, aI_sI, aI_sL, aI_wL, aL_sI, aL_sL, aL_wI, fR_sI, fR_sL, fR_wI, fR_wL, aN_sI, aN_sL, aN_wI, aN_wL, ne_eq, Nat.reduceEqDiff, not_false_eq_true, hk, reduceIte], by unfold enS; simp only [fI_s, fI_sn, fL_s, fL_sn, aI_w, aI_wn, aL_w, aL_wn, fI_sL, fI_wI, fI_wL, fL_sI, fL_wI, fL_wL, aI_sI, aI_sL, aI_wL, aL_sI, aL_sL, aL_wI, fR_sI, fR_sL, fR_wI, fR_wL, aN_sI, aN_sL, aN_wI, aN_wL, ne_eq, Nat.reduceEqDiff, not_false_eq_true, hk, reduceIte], by unfold enS; simp only [fI_s, fI_sn, fL_s, fL_sn, aI_w, aI_wn, aL_w, aL_wn, fI_sL, fI_wI, fI_wL, fL_sI, fL_wI, fL_wL, aI_sI, aI_sL, aI_wL, aL_sI, aL_sL, aL_wI, fR_sI, fR_sL, fR_wI, fR_wL, aN_sI, aN_sL, aN_wI, aN_wL, ne_eq, Nat.reduceEqDiff, not_false_eq_true, hk, reduceIte], by unfold enS; simp only [fI_s, fI_sn, fL_s, fL_sn, aI_w, aI_wn, aL_w, aL_wn, fI_sL, fI_wI, fI_wL, fL_sI, fL_wI, fL_wL, aI_sI, aI_sL, aI_wL, aL_sI, aL_sL, aL_wI, fR_sI, fR_sL, fR_wI, fR_wL, aN_sI, aN_sL, aN_wI, aN_wL, ne_eq, Nat.reduceEqDiff, not_false_eq_true, hk, reduceIte], by unfold enS; simp only [fI_s, fI_sn, fL_s, fL_sn, aI_w, aI_wn, aL_w, aL_wn, fI_sL, fI_wI, fI_wL, fL_sI, fL_wI, fL_wL, aI_sI, aI_sL, aI_wL, aL_sI, aL_sL, aL_wI, fR_sI, fR_sL, fR_wI, fR_wL, aN_sI, aN_sL, aN_wI, aN_wL, ne_eq, Nat.reduceEqDiff, not_false_eq_true, hk, reduceIte], by unfold enS; simp only [fI_s, fI_sn, fL_s, fL_sn, aI_w, aI_wn, aL_w, aL_wn, fI_sL, fI_wI, fI_wL, fL_sI, fL_wI, fL_wL, aI_sI, aI_sL, aI_wL, aL_sI, aL_sL, aL_wI, fR_sI, fR_sL, fR_wI, fR_wL, aN_sI, aN_sL, aN_wI, aN_wL, ne_eq, Nat.reduceEqDiff, not_false_eq_true, hk, reduceIte], by unfold enS; simp only [fI_s, fI_sn, fL_s, fL_sn, aI_w, aI_wn, aL_w, aL_wn, fI_sL, fI_wI, fI_wL, fL_sI, fL_wI, fL_wL, aI_sI, aI_sL, aI_wL, aL_sI, aL_sL, aL_wI, fR_sI, fR_sL, fR_wI, fR_wL, aN_sI, aN_sL, aN_wI, aN_wL, ne_eq, Nat.reduceEqDiff, not_false_eq_true, hk, reduceIte], by unfold enS; simp only [fI_s, fI_sn, fL_s, fL_sn, aI_w, aI_wn, aL_w, aL_wn, fI_sL, fI_wI, fI_wL, fL_sI, fL_wI, fL_wL, aI_sI, aI_sL, aI_wL, aL_sI, aL_sL, aL_wI, fR_sI, fR_sL, fR_wI, fR_wL, aN_sI, aN_sL, aN_wI, aN_wL, ne_eq, Nat.reduceEqDiff, not_false_eq_true]; rw [b169, if_neg hpn]; rfl⟩
  refine hQ2 _ (rp.push h' p k2 hfr kr.en ss ?_ (fun k hk r r1 r2 => ?_) (fun i hi => ?_) ?_)
  · rw [← hSr1]; unfold enS
    exact ⟨⟨by simp only [fI_s, fI_sn, fL_s, fL_sn, aI_w, aI_wn, aL_w, aL_wn, fI_sL, fI_wI, fI_wL, fL_sI, fL_wI, fL_wL, aI_sI, aI_sL, aI_wL, aL_sI, aL_sL, aL_wI, fR_sI, fR_sL, fR_wI, fR_wL, aN_sI, aN_sL, aN_wI, aN_wL, ne_eq, Nat.reduceEqDiff, not_false_eq_true], by simp only [fI_s, fI_sn, fL_s, fL_sn, aI_w, aI_wn, aL_w, aL_wn, fI_sL, fI_wI, fI_wL, fL_sI, fL_wI, fL_wL, aI_sI, aI_sL, aI_wL, aL_sI, aL_sL, aL_wI, fR_sI, fR_sL, fR_wI, fR_wL, aN_sI, aN_sL, aN_wI, aN_wL, ne_eq, Nat.reduceEqDiff, not_false_eq_true], by simp only [fI_s, fI_sn, fL_s, fL_sn, aI_w, aI_wn, aL_w, aL_wn, fI_sL, fI_wI, fI_wL, fL_sI, fL_wI, fL_wL, aI_sI, aI_sL, aI_wL, aL_sI, aL_sL, aL_wI, fR_sI, fR_sL, fR_wI, fR_wL, aN_sI, aN_sL, aN_wI, aN_wL, ne_eq, Nat.reduceEqDiff, not_false_eq_true]⟩, fun r r1 r2 => ⟨by (have : r ≠ 86 ∧ r ≠ 87 ∧ r ≠ 88 ∧ r ≠ 90 ∧ r ≠ 91 ∧ r ≠ 92 := by omega); simp only [fI_s, fI_sn, fL_s, fL_sn, aI_w, aI_wn, aL_w, aL_wn, fI_sL, fI_wI, fI_wL, fL_sI, fL_wI, fL_wL, aI_sI, aI_sL, aI_wL, aL_sI, aL_sL, aL_wI, fR_sI, fR_sL, fR_wI, fR_wL, aN_sI, aN_sL, aN_wI, aN_wL, ne_eq, Nat.reduceEqDiff, not_false_eq_true, aI_wn _ _ _ _ _ r this.1, aI_wn _ _ _ _ _ r this.2.1, aI_wn _ _ _ _ _ r this.2.2.1, aI_wn _ _ _ _ _ r this.2.2.2.1, aI_wn _ _ _ _ _ r this.2.2.2.2.1, aI_wn _ _ _ _ _ r this.2.2.2.2.2], by (have : r ≠ 96 ∧ r ≠ 97 := by omega); simp only [fI_s, fI_sn, fL_s, fL_sn, aI_w, aI_wn, aL_w, aL_wn, fI_sL, fI_wI, fI_wL, fL_sI, fL_wI, fL_wL, aI_sI, aI_sL, aI_wL, aL_sI, aL_sL, aL_wI, fR_sI, fR_sL, fR_wI, fR_wL, aN_sI, aN_sL, aN_wI, aN_wL, ne_eq, Nat.reduceEqDiff, not_false_eq_true, aL_wn _ _ _ _ _ r this.1, aL_wn _ _ _ _ _ r this.2]⟩⟩
  · rw [← hSr1]; unfold enS
    have hne : k ≠ D := by omega
    exact ⟨by simp only [fI_s, fI_sn, fL_s, fL_sn, aI_w, aI_wn, aL_w, aL_wn, fI_sL, fI_wI, fI_wL, fL_sI, fL_wI, fL_wL, aI_sI, aI_sL, aI_wL, aL_sI, aL_sL, aL_wI, fR_sI, fR_sL, fR_wI, fR_wL, aN_sI, aN_sL, aN_wI, aN_wL, ne_eq, Nat.reduceEqDiff, not_false_eq_true, aI_wI, hne, and_false, if_false], by simp only [fI_s, fI_sn, fL_s, fL_sn, aI_w, aI_wn, aL_w, aL_wn, fI_sL, fI_wI, fI_wL, fL_sI, fL_wI, fL_wL, aI_sI, aI_sL, aI_wL, aL_sI, aL_sL, aL_wI, fR_sI, fR_sL, fR_wI, fR_wL, aN_sI, aN_sL, aN_wI, aN_wL, ne_eq, Nat.reduceEqDiff, not_false_eq_true, aL_wL, hne, and_false, if_false]⟩
  · rw [← hSr1]; unfold enS
    exact ⟨by simp only [fI_s, fI_sn, fL_s, fL_sn, aI_w, aI_wn, aL_w, aL_wn, fI_sL, fI_wI, fI_wL, fL_sI, fL_wI, fL_wL, aI_sI, aI_sL, aI_wL, aL_sI, aL_sL, aL_wI, fR_sI, fR_sL, fR_wI, fR_wL, aN_sI, aN_sL, aN_wI, aN_wL, ne_eq, Nat.reduceEqDiff, not_false_eq_true], by simp only [fI_s, fI_sn, fL_s, fL_sn, aI_w, aI_wn, aL_w, aL_wn, fI_sL, fI_wI, fI_wL, fL_sI, fL_wI, fL_wL, aI_sI, aI_sL, aI_wL, aL_sI, aL_sL, aL_wI, fR_sI, fR_sL, fR_wI, fR_wL, aN_sI, aN_sL, aN_wI, aN_wL, ne_eq, Nat.reduceEqDiff, not_false_eq_true]⟩
  · refine ⟨?_, ?_, ?_, ?_, fun z => ?_⟩
    · unfold enS; simp only [fI_s, fI_sn, fL_s, fL_sn, aI_w, aI_wn, aL_w, aL_wn, fI_sL, fI_wI, fI_wL, fL_sI, fL_wI, fL_wL, aI_sI, aI_sL, aI_wL, aL_sI, aL_sL, aL_wI, fR_sI, fR_sL, fR_wI, fR_wL, aN_sI, aN_sL, aN_wI, aN_wL, ne_eq, Nat.reduceEqDiff, not_false_eq_true]; rw [uq_at, uq_at, if_neg (by omega)]
    · unfold enS; simp only [fI_s, fI_sn, fL_s, fL_sn, aI_w, aI_wn, aL_w, aL_wn, fI_sL, fI_wI, fI_wL, fL_sI, fL_wI, fL_wL, aI_sI, aI_sL, aI_wL, aL_sI, aL_sL, aL_wI, fR_sI, fR_sL, fR_wI, fR_wL, aN_sI, aN_sL, aN_wI, aN_wL, ne_eq, Nat.reduceEqDiff, not_false_eq_true]
      rw [uq_at, uq_at, uq_at, kr.a rfl, hr.2.2.1.1 (x + 1) y2]
    · unfold enS; simp only [fI_s, fI_sn, fL_s, fL_sn, aI_w, aI_wn, aL_w, aL_wn, fI_sL, fI_wI, fI_wL, fL_sI, fL_wI, fL_wL, aI_sI, aI_sL, aI_wL, aL_sI, aL_sL, aL_wI, fR_sI, fR_sL, fR_wI, fR_wL, aN_sI, aN_sL, aN_wI, aN_wL, ne_eq, Nat.reduceEqDiff, not_false_eq_true]; rw [uq_at, uq_at]
    · unfold enS; simp only [fI_s, fI_sn, fL_s, fL_sn, aI_w, aI_wn, aL_w, aL_wn, fI_sL, fI_wI, fI_wL, fL_sI, fL_wI, fL_wL, aI_sI, aI_sL, aI_wL, aL_sI, aL_sL, aL_wI, fR_sI, fR_sL, fR_wI, fR_wL, aN_sI, aN_sL, aN_wI, aN_wL, ne_eq, Nat.reduceEqDiff, not_false_eq_true]; rw [uq_at, uq_at]
      exact (hw_cg (fun i hi => uq_ne (by omega))).symm
    · rw [uq_at, cp_uq (by omega)]
      refine ⟨fun y1 => by omega, fun y1 => by omega, fun y1 => by omega, fun _ => ?_, fun y1 => absurd y1 hpn⟩
      unfold RpV
      rw [uq_at, uq_at, cp_uq (by omega)]
      unfold enS
      rw [← hSr1, ← hS2]
      simp only [fI_s, fI_sn, fL_s, fL_sn, aI_w, aI_wn, aL_w, aL_wn, fI_sL, fI_wI, fI_wL, fL_sI, fL_wI, fL_wL, aI_sI, aI_sL, aI_wL, aL_sI, aL_sL, aL_wI, fR_sI, fR_sL, fR_wI, fR_wL, aN_sI, aN_sL, aN_wI, aN_wL, ne_eq, Nat.reduceEqDiff, not_false_eq_true, uq_at]
      rw [p8 27 (by decide), p9 28, p9 29, p8 30 (by decide)]
      exact ⟨b155, b156, b157, b158, fun z => absurd trivial z⟩
end
