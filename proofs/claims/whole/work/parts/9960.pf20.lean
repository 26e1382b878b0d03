/-! Performing: a note, a chord, a rest. -/
section
variable {S S1 S2 S0 Sr Sr1 Sr2 R0 : PS} {A : Nat → Nat} {B : Nat → Int32} {n N nd pc : Nat} {bh par ks lv g ow : Nat → Nat}
variable {D m st E V M t ln sy x : Nat} {lp : Int} {X Y C H F VF TB : Nat → Nat} {kk : Nat × Nat}
theorem kof0_ne {c : Int32} (h : kof c = 0) (d : Int32) (hd : kof d ≠ 0) : ¬ c = d := fun e => hd (by rw [← e]; exact h)
theorem k_note {Q : Int32 → PS → Prop} (sc : StC S0 A B n pc N nd bh par ks lv) (h : CPf S S0 A B n N nd bh par ks lv D m st E V M t ln lp X Y C H F VF TB) (hx : Itm N par Y D x) (hk : ks x = 0) (hs1 : 1 ≤ st) (hlp : lpb lp (st - 1))
    (hQ : ∀ S2 t' ln' lp', CPf S2 S0 A B n N nd bh par ks lv D m st (E + 1) V M t' ln' lp' X Y C H F VF TB → GoB S0 A B n N nd bh par ks x S D E V M X Y C H F S2 D (E + 1) V M X Y C H F → Q 1 S2)
    (hF : ∀ S2 e, CBad S0 S2 A m F e → GoF S0 A B n N nd bh par ks x S D E V M X Y C H F e → Q 0 S2) : wp_X3_begin (A 3) (nI (x - 1)) kk S Q := by
  obtain ⟨x1, x2, x3⟩ := hx
  have h' := h
  obtain ⟨a1, a2, ⟨a3, a4⟩, a5, a6, a7, a8, a9, a10⟩ := h
  have hpg := sc.pg a1 a2
  have hn := sc.2.2.1.2.2.2.1
  obtain ⟨R00, T0, wr0, sy0, g0, ow0, r0⟩ := sc.rsr
  obtain ⟨pl, pl1, pl2, pl3, hton, f, wq, c, tq, t1, t2, t3, t4, t5, t6, t7, t8, t9, t10, t11, t12, t13, t13b, t14⟩ := r0.tn x1 x2 hk
  have hk0 : kof (B pl) = 0 := kof_ton hton
  have he : x - 1 < N := by omega
  have d201 := a4.2.2.2
  have hX : ∀ i, 1 ≤ i → i ≤ D - 1 → 1 ≤ X i ∧ X i ≤ N := fun i i1 i2 => ⟨((a6 i (by omega)).2.2.2.2.2.1 i1).1, ((a6 i (by omega)).2.2.2.2.2.1 i1).2.1⟩
  obtain ⟨⟨fu1, fu2⟩, ⟨fd1, fd2⟩, ⟨fm1, fm2⟩, ⟨fh1, fh2⟩⟩ := folds sc hX
  obtain ⟨s24, ⟨s26, s26b⟩, s27, ⟨s28, s28b⟩, ⟨s29, s29b, s29c⟩, ⟨s30, s30b⟩, s31, ⟨s32, s32b⟩, s33, s34, s35, s36, s37, s38, s39⟩ := a5
  have p8 := pow8 s32b
  have hcp3 := cp_le (p := pk ks 3) (X := X) (D - 1)
  -- where the pitches are written
  have hq' : ∀ k, ∃ q, k < c → isTon (B q) = true ∧ aI S0 22 (A 22) (f + k) = pco B q := fun k => by
    by_cases kc : k < c
    · obtain ⟨q, q1, q2, _⟩ := t14 k kc
      exact ⟨q, fun _ => ⟨q1, q2⟩⟩
    · exact ⟨0, fun z => absurd z kc⟩
  obtain ⟨qf, hqf⟩ := Classical.skolem.mp hq'
  generalize hrel : decide (0 < cp (pk ks 3) X (D - 1)) = rel
  have hrl : nI (cp (pk ks 3) X (D - 1)) ≤ 0 ↔ rel = false := by rw [← hrel]; exact relb (by omega)
  generalize hup : pf (wu S0 A ks) X (D - 1) = up at *
  generalize hdn : pf (wd5 S0 A ks) X (D - 1) = dn at *
  generalize hml : sf (wm S0 A ks 18) X (D - 1) = ml at *
  generalize hmh : sf (wm S0 A ks 19) X (D - 1) = mh at *
  generalize htd : aI S0 18 (A 18) (x - 1) = td at *
  have hlp' : lpb lp st := s30b
  -- the class's state with its new length and last pitch
  have mvd : ∀ lp' : Int, lpb lp' st → ∀ S1, (S1 = S ∧ lp' = lp ∨ S1 = sI S 30 (A 3) (iJ lp')) → ∀ S2, (S2 = S1 ∧ tq = 0 ∨ S2 = sL S1 29 (A 3) (lN tq) ∧ tq ≠ 0) → Keep (fun j => decide (j = 29 ∨ j = 30)) rN S S2 ∧ Kws (PW A S0) S0 S2 ∧ fL S2 29 (A 3) = lN (if tq = 0 then ln else tq) ∧ fI S2 30 (A 3) = iJ lp' ∧ CPf S2 S0 A B n N nd bh par ks lv D m st E V M t (if tq = 0 then ln else tq) lp' X Y C H F VF TB := by
    intro lp' hb S1 h1 S2 h2
    have k1 : Keep (fun j => decide (j = 29 ∨ j = 30)) rN S S1 ∧ Kws (PW A S0) S0 S1 ∧ fL S1 29 (A 3) = lN ln ∧ fI S1 30 (A 3) = iJ lp' := by
      rcases h1 with ⟨z1, z2⟩ | z
      · subst z1; exact ⟨Keep.rf, a1, s29, by rw [z2]; exact s30⟩
      · subst z; exact ⟨Keep.rf.sI rfl, a1.sI (PW.at rfl), by simp only [fI_s, fI_sn, fL_s, fL_sn, aI_w, aI_wn, aL_w, aL_wn, fI_sL, fI_wI, fI_wL, fL_sI, fL_wI, fL_wL, aI_sI, aI_sL, aI_wL, aL_sI, aL_sL, aL_wI, fR_sI, fR_sL, fR_wI, fR_wL, aN_sI, aN_sL, aN_wI, aN_wL, ne_eq, Nat.reduceEqDiff, not_false_eq_true]; exact s29, by simp only [fI_s, fI_sn, fL_s, fL_sn, aI_w, aI_wn, aL_w, aL_wn, fI_sL, fI_wI, fI_wL, fL_sI, fL_wI, fL_wL, aI_sI, aI_sL, aI_wL, aL_sI, aL_sL, aL_wI, fR_sI, fR_sL, fR_wI, fR_wL, aN_sI, aN_sL, aN_wI, aN_wL, ne_eq, Nat.reduceEqDiff, not_false_eq_true]⟩
    have k2 : Keep (fun j => decide (j = 29 ∨ j = 30)) rN S S2 ∧ Kws (PW A S0) S0 S2 ∧ fL S2 29 (A 3) = lN (if tq = 0 then ln else tq) ∧ fI S2 30 (A 3) = iJ lp' := by
      rcases h2 with ⟨z1, z2⟩ | ⟨z1, z2⟩
      · subst z1; rw [if_pos z2]; exact k1
      · subst z1; rw [if_neg z2]; exact ⟨k1.1.sL rfl, k1.2.1.sL (PW.at rfl), by simp only [fI_s, fI_sn, fL_s, fL_sn, aI_w, aI_wn, aL_w, aL_wn, fI_sL, fI_wI, fI_wL, fL_sI, fL_wI, fL_wL, aI_sI, aI_sL, aI_wL, aL_sI, aL_sL, aL_wI, fR_sI, fR_sL, fR_wI, fR_wL, aN_sI, aN_sL, aN_wI, aN_wL, ne_eq, Nat.reduceEqDiff, not_false_eq_true], by simp only [fI_s, fI_sn, fL_s, fL_sn, aI_w, aI_wn, aL_w, aL_wn, fI_sL, fI_wI, fI_wL, fL_sI, fL_wI, fL_wL, aI_sI, aI_sL, aI_wL, aL_sI, aL_sL, aL_wI, fR_sI, fR_sL, fR_wI, fR_wL, aN_sI, aN_sL, aN_wI, aN_wL, ne_eq, Nat.reduceEqDiff, not_false_eq_true]; exact k1.2.2.2⟩
    refine ⟨k2.1, k2.2.1, k2.2.2.1, k2.2.2.2, h'.mv k2.1 k2.2.1 ⟨k2.2.2.1, ?_⟩ ⟨k2.2.2.2, hb⟩⟩
    split <;> omega
  -- the reference up to its event
  have ref : ∀ R0 pc T wr sy g ow, RSR S0 R0 A B n N nd bh par ks pc T wr sy g ow → ∀ Sr, RPf S Sr S0 R0 A B n sy N bh ks g ow D E V M X Y C H F → ∀ Q2 : PS → Prop,
      (¬ (∀ k, k < c → okq B rel qf lp ml mh k) → ∀ Sr1, RBad R0 Sr1 A (3, pl) → Q2 Sr1) →
      ((∀ k, k < c → okq B rel qf lp ml mh k) → ∀ Sr2, g x < 3100 → aI R0 43 (A 43) (g x) = nI pl → (∀ S2, Keep (fun j => decide (j = 29 ∨ j = 30)) rN S S2 → fL S2 29 (A 3) = lN (if tq = 0 then ln else tq) → (rel = true → fI S2 30 (A 3) = (if c = 0 then iJ lp else iJ (sq B rel qf lp 1))) → RPf S2 Sr2 S0 R0 A B n sy N bh ks g ow D E V M X Y C H F) → (∀ k, k < c → aI Sr2 83 (A 83) k = nI (cdq B rel qf lp ml mh k / 5 % 7) ∧ aI Sr2 84 (A 84) k = iJ ((cdq B rel qf lp ml mh k : Int) % 5 - 2) ∧ aI Sr2 85 (A 85) k = nI (cdq B rel qf lp ml mh k / 35)) → wp_X12_event (A 9) (nI (g x)) (nI c) (lN ((if tq = 0 then ln else tq) * up)) (lN dn) td Sr2 Q2) →
      wp_X12_begin (A 9) (nI (g x)) (hw S0 A ks X (H (D - 1))) Sr Q2 := by
    intro R0 pc T wr sy g ow hr Sr rp Q2 q0 q1
    have lm := rp.1.lay hr.1
    obtain ⟨at1, gx, owx⟩ := hr.at x1 x2
    obtain ⟨pl', u1, u2, u3, _, f', w', c', tq', v1, v2, v3, v4, v5, v6, v7, v8, v9, v10, v11, v12, v13, v13b, v14⟩ := hr.tn x1 x2 hk
    have e1 : pl' = pl := by
      have q := u2.symm.trans pl2
      rwa [nI_eq (by omega) (by omega)] at q
    have e2 : c' = c := by
      have q := v7.symm.trans t7
      rwa [nI_eq (by omega) (by omega)] at q
    have e3 : tq' = tq := by
      have q := v10.symm.trans t10
      rwa [lN_eqq (by omega) (by omega)] at q
    have hpc2 := hr.2.1
    have hf1 : f' = f := by
      have q := v1.symm.trans t1
      have := sc.2.2.1.2.1
      rwa [nI_eq (by omega) (by omega)] at q
    subst e1 e2 e3 hf1
    unfold wp_X12_begin
    intro v1' hv1
    refine ⟨_, lm.f105, by rw [lm.n42]; exact vp_in_nI gx (by omega), ?_⟩
    rw [nI_clamp (by omega), rp.1.a rfl, hr.sort x1 x2, hk, if_pos (by decide)]
    obtain ⟨b102, b188, b154, b155, b156, b157, b158, b159, b160, b161, b162, b163, b164, b166, b165, b169⟩ := rp.2.1
    have e49 : aI Sr 49 (A 49) (g x) = td := by rw [rp.1.a rfl, v12, htd]
    have eln : (if tq' = 0 then fL Sr 157 (A 9) else lN tq') = lN (if tq' = 0 then ln else tq') := by
      split
      · rw [b157]; exact s29
      · rfl
    have e161 : lN (if tq' = 0 then ln else tq') * fL Sr 161 (A 9) = lN ((if tq' = 0 then ln else tq') * up) := by rw [b161, s33, lN_mul]
    have e162 : fL Sr 162 (A 9) = lN dn := by rw [b162]; exact s34
    refine r_sound (B := B) (rel := rel) (qf := qf) (fr := lp) (ml := ml) (mh := mh) (L0 := 100 + 100 * ((st - 1 : Nat) : Int)) (ln := lN (if tq' = 0 then ln else tq')) (c := c') (tq := tq') (w' := w') (pl := pl') lm gx (by rw [rp.1.a rfl]; exact u3) b102 (by rw [rp.1.a rfl]; exact v8) v5 (by rw [rp.1.a rfl]; exact v3) (by omega) (by rw [rp.1.l rfl]; exact v11) v9 (fun k hk => ?_) (by rw [b159]; exact s31) hrl (fun z => ?_) (by omega) (by omega) hlp.1 hlp.2 (by rw [b163]; exact s35) (by rw [b164]; exact s36) (by omega) (by omega) (by omega) (by omega) eln.symm (fun nok Sr2 kr => ?_) (fun ok Sr2 kr r157 r158 ra => ?_)
    · obtain ⟨w1, w2⟩ := hqf k hk
      obtain ⟨q, y1, y2, y3, y4, y5⟩ := v14 k hk
      exact ⟨w1, q, y1, y2.symm.trans w2, by rw [rp.1.a rfl]; exact y3, by rw [rp.1.a rfl]; exact y4, by rw [rp.1.a rfl]; exact y5⟩
    · rw [b158 (by rw [z, decide_eq_true_iff] at hrel; exact hrel)]; exact s30
    · have kp : KPf R0 (sI (sI Sr2 102 (A 9) 3) 103 (A 9) (nI pl')) := ((Keep.tr rp.1 (kr.mono (fun j => by unfold jPf jSr; simp only [decide_eq_false_iff_not]; omega) (fun r => by unfold rPf rSr; simp only [decide_eq_false_iff_not]; omega))).sI rfl).sI rfl
      have vv := (a8.2.1 (D - 1) (by omega))
      have v12' := a10.1.2.2.2.2
      exact r_event_f (k := 3) (v := VF (D - 1)) (kp.lay hr.1) (by simp only [fI_s, fI_sn, fL_s, fL_sn, aI_w, aI_wn, aL_w, aL_wn, fI_sL, fI_wI, fI_wL, fL_sI, fL_wI, fL_wL, aI_sI, aI_sL, aI_wL, aL_sI, aL_sL, aL_wI, fR_sI, fR_sL, fR_wI, fR_wL, aN_sI, aN_sL, aN_wI, aN_wL, ne_eq, Nat.reduceEqDiff, not_false_eq_true]; rw [(kr.2.1 155 rfl).1, b155]; exact s27) (by omega) (by omega) (by omega) (by simp only [fI_s, fI_sn, fL_s, fL_sn, aI_w, aI_wn, aL_w, aL_wn, fI_sL, fI_wI, fI_wL, fL_sI, fL_wI, fL_wL, aI_sI, aI_sL, aI_wL, aL_sI, aL_sL, aL_wI, fR_sI, fR_sL, fR_wI, fR_wL, aN_sI, aN_sL, aN_wI, aN_wL, ne_eq, Nat.reduceEqDiff, not_false_eq_true]; rfl) (q0 nok _ ⟨kp, by simp only [fI_s, fI_sn, fL_s, fL_sn, aI_w, aI_wn, aL_w, aL_wn, fI_sL, fI_wI, fI_wL, fL_sI, fL_wI, fL_wL, aI_sI, aI_sL, aI_wL, aL_sI, aL_sL, aL_wI, fR_sI, fR_sL, fR_wI, fR_wL, aN_sI, aN_sL, aN_wI, aN_wL, ne_eq, Nat.reduceEqDiff, not_false_eq_true]; rfl, by simp only [fI_s, fI_sn, fL_s, fL_sn, aI_w, aI_wn, aL_w, aL_wn, fI_sL, fI_wI, fI_wL, fL_sI, fL_wI, fL_wL, aI_sI, aI_sL, aI_wL, aL_sI, aL_sL, aL_wI, fR_sI, fR_sL, fR_wI, fR_wL, aN_sI, aN_sL, aN_wI, aN_wL, ne_eq, Nat.reduceEqDiff, not_false_eq_true]⟩)
    · rw [e161, e162, e49]
      refine q1 ok Sr2 gx u3 (fun S2 ks2 k29 k30 => ?_) ra
      refine rp.mv h' ks2 kr (by rw [r157, k29]) (fun z => ?_)
      have rt : rel = true := by rw [← hrel, decide_eq_true_iff]; exact z
      rw [r158, k30 rt]
      split
      · rw [b158 z]; exact s30
      · rfl
  unfold wp_X3_begin
  refine ⟨_, a2.1, s_kindOf hpg he pl2 pl1 ?_⟩
  rw [if_neg (kof0_ne hk0 36 (by decide)), if_neg (kof0_ne hk0 61 (by decide)), if_neg (kof0_ne hk0 76 (by decide)), if_neg (kof0_ne hk0 77 (by decide)), if_neg (kof0_ne hk0 82 (by decide)), if_neg (kof0_ne hk0 84 (by decide)), if_neg (kof0_ne hk0 87 (by decide)), if_neg (kof0_ne hk0 88 (by decide)), if_neg (kof0_ne hk0 91 (by decide)), if_neg (kof0_ne hk0 124 (by decide))]
  unfold wp_X3_sound
  refine s_find (rel := rel) (qf := qf) (ml := ml) (mh := mh) (lp := lp) (st := st) a2 hpg he t7 t5 t1 t2 (fun k hk => hqf k hk) s30 hlp' s26b s31 hrl s35 s36 (by omega) (by omega) (by omega) (by omega) (fun ok => ?_) (fun nok => ?_)
  · have cds : ∀ k, k < c → cdq B rel qf lp ml mh k < 350 := fun k hk => (cdq_b (ok k hk)).2
    have hw : Pch c (cdq B rel qf lp ml mh) (lN (pkn c (cdq B rel qf lp ml mh) c)) := ⟨t5, cds, rfl⟩
    generalize hW : lN (pkn c (cdq B rel qf lp ml mh) c) = w at *
    have wne : ¬ w = -1 := by
      rw [← hW]
      intro z
      have := congrArg Int64.toInt z
      rw [lN_tI (pkn_63 t5 (fun k hk => by have := cds k hk; omega))] at this
      have q : (-1 : Int64).toInt = -1 := by decide
      omega
    rw [if_neg wne]
    -- the states to come
    generalize hlf : (if rel = true then (if c = 0 then lp else sq B rel qf lp 1) else lp) = lf
    have lfb : lpb lf st := by
      rw [← hlf]
      split
      · split
        · exact hlp'
        · have sb := sq_b (rel := rel) (qf := qf) (fr := lp) (c := c) (B := B) (fun k hk => (hqf k hk).1) (L := 100 + 100 * ((st - 1 : Nat) : Int)) (by omega) hlp.1 hlp.2 1 (by omega)
          unfold lpb; omega
      · exact hlp'
    generalize hS1 : (if rel = true then sI S 30 (A 3) (iJ (if c = 0 then lp else sq B rel qf lp 1)) else S) = S1
    have hS1' : S1 = S ∧ lf = lp ∨ S1 = sI S 30 (A 3) (iJ lf) := by
      cases hr : rel with
      | false => rw [hr, if_neg (by decide)] at hS1 hlf; exact Or.inl ⟨hS1.symm, hlf.symm⟩
      | true => rw [hr, if_pos rfl] at hS1 hlf; right; rw [← hS1, ← hlf]
    have h1 := mvd lf lfb S1 hS1'
    have kS1 : Kws (PW A S0) S0 S1 ∧ St S1 = St S := by
      rcases hS1' with ⟨z, _⟩ | z
      · rw [z]; exact ⟨a1, rfl⟩
      · rw [z]; exact ⟨a1.sI (PW.at rfl), rfl⟩
    have hpg1 : Pg S1 S0 A B n N nd pc := sc.pg kS1.1 (a2.st kS1.2)
    have f30 : ∀ S2, fI S2 30 (A 3) = iJ lf → (rel = true → fI S2 30 (A 3) = (if c = 0 then iJ lp else iJ (sq B rel qf lp 1))) := fun S2 z hr => by
      rw [z, ← hlf, hr, if_pos rfl]
      split <;> rfl
    refine ⟨_, (a2.st kS1.2).1, s_ticksOf hpg1 he ?_⟩
    rw [t10]
    intro K46 hK46
    have lnb : 1 ≤ (if tq = 0 then ln else tq) ∧ (if tq = 0 then ln else tq) ≤ 3870720000 := by split <;> omega
    have upb : (if tq = 0 then ln else tq) * up ≤ 3870720000 * 43046721 := Nat.mul_le_mul lnb.2 (by omega)
    generalize hlnf : (if tq = 0 then ln else tq) = lnf at *
    -- behind the length
    have main : ∀ S2, (S2 = S1 ∧ tq = 0 ∨ S2 = sL S1 29 (A 3) (lN tq) ∧ tq ≠ 0) → K46 S2 := by
      intro S2 hS2
      obtain ⟨k2, kw2, l29, l30, cp2⟩ := h1 S2 hS2
      have r30 := f30 S2 l30
      have cp2' := cp2
      obtain ⟨b1, b2, ⟨b3, b4⟩, b5, b6, b7, b8, b9, b10⟩ := cp2
      have hpg2 := sc.pg b1 b2
      have hv := b8.2.1 (D - 1) (by omega)
      have hup2 : lnf * up < 2 ^ 63 := by omega
      have e33 : fL S2 33 (A 3) = lN up := by rw [(k2.2.1 33 rfl).2]; exact s33
      have e34 : fL S2 34 (A 3) = lN dn := by rw [(k2.2.1 34 rfl).2]; exact s34
      have hE := b10.1
      apply hK46
      refine s_keepTie (V := V) (E := E) (D := D) (VF := VF) (v := VF (D - 1)) (B := B) (n := n) b2 b10 b5.2.2.1 hv hn (fun hL => ?_) (fun hL tp tp1 tp2 => ?_)
      · rw [if_neg (by decide)]
        rintro _ rfl
        rw [l29, e33, lN_mul, e34]
        intro K102 hK102
        have two : ¬ (lnf * up % dn = 0 ∧ lnf * up / dn ≤ 3870720000) → K102 S2 := by
          intro hn2
          apply hK102
          refine s_ptell b2 hpg2 he ?_
          rw [pl2]
          refine hF _ (2, pl) (CBad.mk (kdm (by decide) (by decide)) b1 b2 b4) ?_
          intro R0 pc T wr sy g ow hr Sr rp Q2 hQ2
          refine ref R0 pc T wr sy g ow hr Sr rp Q2 (fun z => absurd ok z) (fun _ Sr2 gx g43 mk ra => ?_)
          have rp2 := mk S2 k2 l29 r30
          exact r_evt (tk := 0) hr cp2' rp2 gx g43 hw t13 ra hup2 fd1 (by omega) (fun z => absurd hL z) (fun _ _ Sr1 rb => hQ2 Sr1 rb) (fun _ z1 z2 => absurd ⟨z1, z2⟩ hn2) (fun _ z1 z2 => absurd ⟨z1, z2⟩ hn2)
        rw [if_neg (show ¬ lN dn < 1 from fun z => by rw [show (1 : Int64) = lN 1 from rfl, lN_ltq (by omega) (by omega)] at z; omega)]
        have dne : ¬ lN dn = 0 := fun z => by rw [show (0 : Int64) = lN 0 from rfl, lN_eqq (by omega) (by omega)] at z; omega
        refine ⟨dne, ?_⟩
        have hud : lN (lnf * up) / lN dn = lN (lnf * up / dn) := lN_div hup2 fd1 (by omega)
        have hdb : lnf * up / dn ≤ lnf * up := Nat.div_le_self _ _
        have hmul : lnf * up / dn * dn ≤ lnf * up := Nat.div_mul_le_self _ _
        have hdm := Nat.div_add_mod (lnf * up) dn
        rw [Nat.mul_comm] at hdm
        rw [hud, lN_mul, lN_sub hmul]
        have hmz : lN (lnf * up - lnf * up / dn * dn) = 0 ↔ lnf * up % dn = 0 := by
          rw [show (0 : Int64) = lN 0 from rfl, lN_eqq (by omega) (by omega)]; omega
        by_cases m0 : lnf * up % dn = 0
        · rw [if_pos (hmz.mpr m0)]
          refine ⟨dne, ?_⟩
          rw [show (3870720000 : Int64) = lN 3870720000 from rfl]
          by_cases m1 : lnf * up / dn ≤ 3870720000
          · rw [if_pos ((lN_leq (by omega) (by omega)).mpr m1)]
            refine ⟨_, b2.1, s_placeOf hpg2 he ?_⟩
            rw [pl2, e34]
            refine ⟨dne, ?_⟩
            rw [hud]
            have tk1 : 1 ≤ lnf * up / dn := by
              have : dn ≤ lnf * up := by
                rcases Nat.lt_or_ge (lnf * up) dn with z | z
                · rw [Nat.mod_eq_of_lt z] at m0
                  have : 1 ≤ lnf * up := Nat.mul_pos lnb.1 fu1
                  omega
                · exact z
              exact Nat.div_pos this fd1
            refine s_append (V := V) (E := E) (v := VF (D - 1)) (tm := t) b2 hE.2.2.1 hv hE.2.2.2.2 hE.1 hE.2.1 b5.2.2.1 b5.2.2.2.1.1 b5.2.2.2.1.2 m1 (fun E3 tm3 S3 ac kw3 => ?_) (fun n5 => ?_)
            · rw [if_neg (by decide)]
              have k3 := kw3 S0 b1
              have ac0 := ac pl
              have hpg3 : Pg S3 S0 A B n N nd pc := sc.pg k3 (b2.st ac0.1.1)
              refine ⟨_, (b2.st ac0.1.1).1, s_one hpg3 he ?_⟩
              rw [htd]
              have hld : (if aI S2 38 (A 38) (VF (D - 1)) = -1 then (0 : Int32) else 1) = 0 ∨ (if aI S2 38 (A 38) (VF (D - 1)) = -1 then (0 : Int32) else 1) = 1 := by split; exact Or.inl rfl; exact Or.inr rfl
              have done : ∀ S4, AddC S2 S4 A E (VF (D - 1)) t (lnf * up / dn) w (if aI S2 38 (A 38) (VF (D - 1)) = -1 then 0 else 1) td pl → Kws (PW A S0) S0 S4 → Q 1 S4 := by
                intro S4 ad k4
                have hc1 : td = 1 → w ≠ 0 := fun z e => by
                  have := t13b (hw.z.mp e)
                  rw [z] at this; exact absurd this (by decide)
                refine hQ S4 _ _ _ (cp2'.add ad k4 E3 tk1 tm3 hw hld t13 hc1 (by omega) hn) ?_
                intro R0 pc T wr sy g ow hr Sr rp Q2 hQ2
                refine ref R0 pc T wr sy g ow hr Sr rp Q2 (fun z => absurd ok z) (fun _ Sr2 gx g43 mk ra => ?_)
                have rp2 := mk S2 k2 l29 r30
                exact r_evt (tk := 0) hr cp2' rp2 gx g43 hw t13 ra hup2 fd1 (by omega) (fun z => absurd hL z) (fun _ z => absurd ⟨m0, m1⟩ z) (fun _ _ _ z => absurd ⟨E3, tm3⟩ z) (fun _ _ _ _ _ Sr3 ar => hQ2 Sr3 (RPf.add cp2' rp2 ad ar hw E3 t13 (by omega)))
              rcases t13 with z | z
              · rw [if_neg (by rw [z]; decide)]
                rw [z] at done
                exact done S3 ac0 k3
              · rw [if_pos z]
                rw [z] at done
                have st3 := ac0.1.1
                refine ⟨_, (b2.st st3).2.2.2.1, ?_⟩
                rw [(ac0.1.2.1 27 rfl).1, b5.2.2.1]
                refine s_tieLatest (V := V) (E := E + 1) (e := E) (b2.st st3).2.2.2.2.2 (by rw [(ac0.1.2.1 79 rfl).1]; exact hE.2.2.1) hv hE.2.2.2.2 ac0.2.1 (by omega) (by omega) (by rw [ac0.2.2.2.2.2.2.2.2.2.2.1, uq_at]) ?_
                exact done _ (AddC.tie ac) ((k3.wI (PW.at rfl)).wI (PW.at rfl))
            · rw [if_pos rfl]
              refine hF _ (5, pl) (CBad.mk (kdm (by decide) (by decide)) b1 b2 b4) ?_
              intro R0 pc T wr sy g ow hr Sr rp Q2 hQ2
              refine ref R0 pc T wr sy g ow hr Sr rp Q2 (fun z => absurd ok z) (fun _ Sr2 gx g43 mk ra => ?_)
              have rp2 := mk S2 k2 l29 r30
              exact r_evt (tk := 0) hr cp2' rp2 gx g43 hw t13 ra hup2 fd1 (by omega) (fun z => absurd hL z) (fun _ z => absurd ⟨m0, m1⟩ z) (fun _ _ _ _ Sr1 rb => hQ2 Sr1 rb) (fun _ _ _ z1 z2 => absurd ⟨z1, z2⟩ n5)
          · rw [if_neg (fun z => m1 ((lN_leq (by omega) (by omega)).mp z))]
            exact two (fun z => m1 z.2)
        · rw [if_neg (fun z => m0 (hmz.mp z))]
          exact two (fun z => m0 z.1)
      · rw [if_pos rfl]
        refine hF _ (6, tp) (CBad.mk (kdm (by decide) (by decide)) b1 b2 b4) ?_
        intro R0 pc T wr sy g ow hr Sr rp Q2 hQ2
        refine ref R0 pc T wr sy g ow hr Sr rp Q2 (fun z => absurd ok z) (fun _ Sr2 gx g43 mk ra => ?_)
        have rp2 := mk S2 k2 l29 r30
        refine r_evt (tk := 0) hr cp2' rp2 gx g43 hw t13 ra hup2 fd1 (by omega) (fun _ tp' q Sr1 rb => hQ2 Sr1 ⟨rb.1, rb.2.1, ?_⟩) (fun z => absurd z hL) (fun z => absurd z hL) (fun z => absurd z hL)
        rw [rb.2.2]; exact q.symm.trans tp2
    by_cases z : tq = 0
    · rw [if_pos (by rw [z]; decide)]
      exact main S1 (Or.inl ⟨rfl, z⟩)
    · rw [if_neg (by rw [show (0 : Int64) = lN 0 from rfl, lN_leq (by omega) (by omega)]; omega)]
      refine ⟨_, (a2.st kS1.2).1, s_ticksOf hpg1 he ?_⟩
      rw [t10]
      rintro _ rfl
      exact main _ (Or.inr ⟨rfl, z⟩)
  · rw [if_pos rfl]
    refine s_ptell a2 hpg he ?_
    rw [pl2]
    refine hF _ (3, pl) (CBad.mk (kdm (by decide) (by decide)) a1 a2 a4) ?_
    intro R0 pc T wr sy g ow hr Sr rp Q2 hQ2
    exact ref R0 pc T wr sy g ow hr Sr rp Q2 (fun _ Sr1 rb => hQ2 Sr1 rb) (fun z => absurd z nok)
end
