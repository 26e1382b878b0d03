/-! Performing: the reference enters a list; its stack grows and shrinks. -/
section
variable {S S1 S2 S0 Sr Sr1 Sr2 R0 : PS} {A : Nat → Nat} {B : Nat → Int32} {n N nd : Nat} {bh par ks lv g ow : Nat → Nat}
variable {D m st E V M t ln sy : Nat} {lp : Int} {X Y C H F VF TB X' Y' C' H' F' : Nat → Nat}
def enS (Sr : PS) (A : Nat → Nat) (D : Nat) (p1 : Int32) (w : Nat) (p3 : Int32) : PS := sI (wI (wI (wI (wI Sr 87 (A 87) D p1) 86 (A 86) D (aI Sr 46 (A 46) w)) 92 (A 92) D (nI w)) 88 (A 88) D p3) 188 (A 9) (nI (D + 1))
theorem r_enter {Q : PS → Prop} {w : Nat} {p1 p3 : Int32} (h : LayM Sr A) (hD : fI Sr 188 (A 9) = nI D) (hb : D < 260) (hw : w < 3100) (hQ : Q (enS Sr A D p1 w p3)) : wp_X12_enter (A 9) p1 (nI w) p3 Sr Q := by
  unfold wp_X12_enter
  refine ⟨_, h.f174, by rw [hD, h.n87]; exact vp_in_nI hb (by omega), ?_⟩
  rintro _ rfl
  refine ⟨_, h.f173, _, h.f109, by simp only [fI_s, fI_sn, fL_s, fL_sn, aI_w, aI_wn, aL_w, aL_wn, fI_sL, fI_wI, fI_wL, fL_sI, fL_wI, fL_wL, aI_sI, aI_sL, aI_wL, aL_sI, aL_sL, aL_wI, fR_sI, fR_sL, fR_wI, fR_wL, aN_sI, aN_sL, aN_wI, aN_wL, ne_eq, Nat.reduceEqDiff, not_false_eq_true]; rw [h.n46]; exact vp_in_nI hw (by omega), by simp only [fI_s, fI_sn, fL_s, fL_sn, aI_w, aI_wn, aL_w, aL_wn, fI_sL, fI_wI, fI_wL, fL_sI, fL_wI, fL_wL, aI_sI, aI_sL, aI_wL, aL_sI, aL_sL, aL_wI, fR_sI, fR_sL, fR_wI, fR_wL, aN_sI, aN_sL, aN_wI, aN_wL, ne_eq, Nat.reduceEqDiff, not_false_eq_true]; rw [hD, h.n86]; exact vp_in_nI hb (by omega), ?_⟩
  rintro _ rfl
  refine ⟨_, h.f179, by simp only [fI_s, fI_sn, fL_s, fL_sn, aI_w, aI_wn, aL_w, aL_wn, fI_sL, fI_wI, fI_wL, fL_sI, fL_wI, fL_wL, aI_sI, aI_sL, aI_wL, aL_sI, aL_sL, aL_wI, fR_sI, fR_sL, fR_wI, fR_wL, aN_sI, aN_sL, aN_wI, aN_wL, ne_eq, Nat.reduceEqDiff, not_false_eq_true]; rw [hD, h.n92]; exact vp_in_nI hb (by omega), ?_⟩
  rintro _ rfl
  refine ⟨_, h.f175, by simp only [fI_s, fI_sn, fL_s, fL_sn, aI_w, aI_wn, aL_w, aL_wn, fI_sL, fI_wI, fI_wL, fL_sI, fL_wI, fL_wL, aI_sI, aI_sL, aI_wL, aL_sI, aL_sL, aL_wI, fR_sI, fR_sL, fR_wI, fR_wL, aN_sI, aN_sL, aN_wI, aN_wL, ne_eq, Nat.reduceEqDiff, not_false_eq_true]; rw [hD, h.n88]; exact vp_in_nI hb (by omega), ?_⟩
  rintro _ rfl _ rfl
  simp only [fI_s, fI_sn, fL_s, fL_sn, aI_w, aI_wn, aL_w, aL_wn, fI_sL, fI_wI, fI_wL, fL_sI, fL_wI, fL_wL, aI_sI, aI_sL, aI_wL, aL_sI, aL_sL, aL_wI, fR_sI, fR_sL, fR_wI, fR_wL, aN_sI, aN_sL, aN_wI, aN_wL, ne_eq, Nat.reduceEqDiff, not_false_eq_true]
  rw [hD, nI_clamp (by omega), nI_clamp (by omega), nI_1]
  exact hQ
theorem KPf.en {p1 p3 : Int32} {w : Nat} (h : KPf R0 Sr) : KPf R0 (enS Sr A D p1 w p3) := ((((h.wI rfl).wI rfl).wI rfl).wI rfl).sI rfl
theorem r_pstep {Q : PS → Prop} {i st pl : Nat} (h : LayM Sr A) (hi : i < 3100) (hs : fI Sr 154 (A 9) = nI st) (hb : st ≤ 3000) (hf : fI Sr 102 (A 9) = 0) (hp : aI Sr 43 (A 43) i = nI pl)
    (h1 : st < 3000 → Q (sI Sr 154 (A 9) (nI (st + 1)))) (h0 : st = 3000 → Q (sI (sI Sr 102 (A 9) 5) 103 (A 9) (nI pl))) : wp_X12_step (A 9) (nI i) Sr Q := by
  unfold wp_X12_step
  rw [hs, show (3000 : Int32) = nI 3000 from rfl]
  by_cases c : st = 3000
  · rw [if_pos (by rw [c])]
    refine ⟨_, h.f106, by rw [h.n43]; exact vp_in_nI hi (by omega), ?_⟩
    rw [nI_clamp (by omega), hp]
    unfold wp_X12_bad
    rw [if_pos hf]
    rintro _ rfl _ rfl
    exact h0 c
  · rw [if_neg (fun z => c ((nI_eq (by omega) (by omega)).mp z))]
    rintro _ rfl
    rw [nI_1]; exact h1 (by omega)
theorem r_pbad {Q : PS → Prop} {k : Int32} {i pl : Nat} (h : LayM Sr A) (hi : i < 3100) (hf : fI Sr 102 (A 9) = 0) (hp : aI Sr 43 (A 43) i = nI pl) (hQ : Q (sI (sI Sr 102 (A 9) k) 103 (A 9) (nI pl))) : (∃ b2, fR Sr 106 (A 9) = some b2 ∧ (vp_in (nI i) (aN Sr b2) ∧ wp_X12_bad (A 9) k (aI Sr 43 b2 (nI i).toNatClampNeg) Sr Q)) := by
  refine ⟨_, h.f106, by rw [h.n43]; exact vp_in_nI hi (by omega), ?_⟩
  rw [nI_clamp (by omega), hp]
  unfold wp_X12_bad
  rw [if_pos hf]
  rintro _ rfl _ rfl
  exact hQ
def EqR (Sr Sr1 : PS) (A : Nat → Nat) : Prop := (fI Sr1 146 (A 9) = fI Sr 146 (A 9) ∧ fI Sr1 149 (A 9) = fI Sr 149 (A 9) ∧ fI Sr1 153 (A 9) = fI Sr 153 (A 9)) ∧ ∀ r, 65 ≤ r → r ≤ 80 → aI Sr1 r (A r) = aI Sr r (A r) ∧ aL Sr1 r (A r) = aL Sr r (A r)
theorem EqR.of {J R : Nat → Bool} (k : Keep J R Sr Sr1) (h1 : J 146 = false) (h2 : J 149 = false) (h4 : J 153 = false) (h3 : ∀ r, 65 ≤ r → r ≤ 80 → R r = false) : EqR Sr Sr1 A := ⟨⟨by rw [(k.2.1 146 h1).1], by rw [(k.2.1 149 h2).1], by rw [(k.2.1 153 h4).1]⟩, fun r a b => ⟨by rw [(k.2.2 r (h3 r a b)).1], by rw [(k.2.2 r (h3 r a b)).2]⟩⟩
theorem EqR.r (h : EqR Sr Sr1 A) (r : Nat) (h1 : 65 ≤ r) (h2 : r ≤ 80) : aI Sr1 r (A r) = aI Sr r (A r) := (h.2 r h1 h2).1
theorem EqR.l (h : EqR Sr Sr1 A) (r : Nat) (h1 : 65 ≤ r) (h2 : r ≤ 80) : aL Sr1 r (A r) = aL Sr r (A r) := (h.2 r h1 h2).2
theorem RpE.eq {e : Nat} (h : RpE S Sr R0 A B n sy e) (q : EqE S S1 A) (z : EqR Sr Sr1 A) : RpE S1 Sr1 R0 A B n sy e := by
  unfold RpE PcR
  rw [q.r 28 (by decide) (by decide), q.l 31 (by decide) (by decide), q.r 32 (by decide) (by decide), q.r 33 (by decide) (by decide), q.l 29 (by decide) (by decide), q.l 30 (by decide) (by decide), q.r 34 (by decide) (by decide), z.r 65 (by decide) (by decide), z.r 66 (by decide) (by decide), z.r 67 (by decide) (by decide), z.r 68 (by decide) (by decide), z.l 69 (by decide) (by decide), z.l 70 (by decide) (by decide), z.r 72 (by decide) (by decide), z.r 73 (by decide) (by decide), z.r 74 (by decide) (by decide), z.r 75 (by decide) (by decide)]; exact h
theorem RpO.eq {v : Nat} (h : RpO S Sr A E v) (q : EqE S S1 A) (z : EqR Sr Sr1 A) : RpO S1 Sr1 A E v := by
  unfold RpO
  rw [q.l 36 (by decide) (by decide), q.r 37 (by decide) (by decide), q.r 38 (by decide) (by decide), z.l 76 (by decide) (by decide), z.r 77 (by decide) (by decide), z.r 71 (by decide) (by decide)]; exact h
theorem RpM.eq {k : Nat} (h : RpM S Sr A k) (q : EqM S S1 A) (z : EqR Sr Sr1 A) : RpM S1 Sr1 A k := by
  unfold RpM
  rw [(q.2 10 (by decide) (by decide)).2, (q.2 11 (by decide) (by decide)).1, (q.2 12 (by decide) (by decide)).1, z.l 78 (by decide) (by decide), z.r 79 (by decide) (by decide), z.r 80 (by decide) (by decide)]; exact h
theorem RpN.eq (h : RpN S Sr R0 A B n sy E V M) (q : EqE S S1 A) (q2 : EqM S S1 A) (z : EqR Sr Sr1 A) : RpN S1 Sr1 R0 A B n sy E V M := by
  obtain ⟨a1, a2, a3, a4⟩ := h
  refine ⟨?_, fun e he => (a2 e he).eq q z, fun v hv => (a3 v hv).eq q z, fun k hk => (a4 k hk).eq q2 z⟩
  rw [z.1.1, z.1.2.1, z.1.2.2]; exact a1
theorem hw_cg {h : Nat} (hX : ∀ i, i + 1 < h → X' i = X i) : hw S0 A ks X' h = hw S0 A ks X h := by
  unfold hw
  split
  · rfl
  · rw [cp_cg (fun i _ b => hX i (by omega))]
theorem FrK.hb {k : Nat} (h : FrK S0 A N nd bh par ks lv X Y C H k) : H k ≤ k + 1 := by
  rcases h.2.2.2.2.2.2 with z | ⟨_, q, q1, _, q3, _⟩
  · omega
  · omega
theorem RpF.cg {k : Nat} (h : RpF S Sr S0 R0 A N bh ks g ow X Y C H F k) (hb : H k ≤ k + 1) (hb1 : H (k - 1) ≤ k + 1) (hX : ∀ i, i ≤ k → X' i = X i) (hY : Y' k = Y k) (hH : H' k = H k) (hH1 : H' (k - 1) = H (k - 1)) (hF : F' k = F k)
    (hf : ∀ j, 2 ≤ j → j ≤ 16 → j ≠ 3 → fI S1 j (F k) = fI S j (F k) ∧ fL S1 j (F k) = fL S j (F k)) (h86 : aI Sr1 86 (A 86) k = (if C' k < bn N bh (Y k) then nI (g (C' k + 1)) else -1))
    (hr : ∀ r, 87 ≤ r → r ≤ 100 → aI Sr1 r (A r) k = aI Sr r (A r) k ∧ aL Sr1 r (A r) k = aL Sr r (A r) k)
    (hn : pn S0 A ks (X k) = true → 1 ≤ k → aI Sr1 81 (A 81) (cp (pn S0 A ks) X (k - 1)) = aI Sr 81 (A 81) (cp (pn S0 A ks) X (k - 1)) ∧ aI Sr1 82 (A 82) (cp (pn S0 A ks) X (k - 1)) = aI Sr 82 (A 82) (cp (pn S0 A ks) X (k - 1))) : RpF S1 Sr1 S0 R0 A N bh ks g ow X' Y' C' H' F' k := by
  obtain ⟨a1, a2, a3, a4, a5⟩ := h
  have q := fun r a b => (hr r a b).1
  have ql := fun r a b => (hr r a b).2
  refine ⟨by rw [hX k (by omega), q 87 (by omega) (by omega)]; exact a1, by rw [hY]; exact h86, by rw [hY, q 92 (by omega) (by omega)]; exact a3, ?_, fun z => ?_⟩
  · rw [hH, hw_cg (X := X) (fun i hi => hX i (by omega)), q 88 (by omega) (by omega)]; exact a4
  · obtain ⟨b1, b2, b3, b4, b5⟩ := a5 z
    have cc : ∀ p, cp p X' (k - 1) = cp p X (k - 1) := fun p => cp_cg (fun i _ b => hX i (by omega))
    rw [hX k (by omega), hF, cc, cc, hH1, hw_cg (X := X) (X' := X') (fun i hi => hX i (by omega)), q 90 (by omega) (by omega), q 89 (by omega) (by omega), ql 94 (by omega) (by omega), ql 95 (by omega) (by omega), (hf 6 (by omega) (by omega) (by omega)).1, (hf 5 (by omega) (by omega) (by omega)).1, (hf 8 (by omega) (by omega) (by omega)).2, (hf 9 (by omega) (by omega) (by omega)).2]
    refine ⟨b1, b2, b3, fun y => ?_, fun y => ?_⟩
    · have := b4 y
      unfold RpV at this ⊢
      rw [hX k (by omega), hF, hY, cc, q 91 (by omega) (by omega), ql 96 (by omega) (by omega), ql 97 (by omega) (by omega), q 90 (by omega) (by omega), ql 99 (by omega) (by omega), ql 100 (by omega) (by omega), ql 98 (by omega) (by omega), q 93 (by omega) (by omega), (hf 10 (by omega) (by omega) (by omega)).1, (hf 11 (by omega) (by omega) (by omega)).2, (hf 12 (by omega) (by omega) (by omega)).2, (hf 6 (by omega) (by omega) (by omega)).1, (hf 13 (by omega) (by omega) (by omega)).2, (hf 16 (by omega) (by omega) (by omega)).2, (hf 14 (by omega) (by omega) (by omega)).2, (hf 15 (by omega) (by omega) (by omega)).1]; exact this
    · rw [(hn y z).1, (hn y z).2]; exact b5 y
theorem RPf.push {m1 x y c h' : Nat} {F1 : Nat → Nat} {e0 c0 l0 : Int32} (h : RPf S Sr S0 R0 A B n sy N bh ks g ow D E V M X Y C H F) (hc : CPf S S0 A B n N nd bh par ks lv D m st E V M t ln lp X Y C H F VF TB) (p : Psh S S1 A D m m1 F F1 e0 c0 l0) (k2 : Keep jq rN S1 S2)
    (hfr : ∀ i, i < D → ∀ j, 2 ≤ j → j ≤ 16 → fI S2 j (F i) = fI S1 j (F i) ∧ fL S2 j (F i) = fL S1 j (F i))
    (kr : KPf R0 Sr2) (hs : RpS S2 Sr2 S0 A ks (D + 1) (uq X D x)) (he : EqR Sr Sr2 A)
    (hr : ∀ k, k < D → ∀ r, 86 ≤ r → r ≤ 100 → aI Sr2 r (A r) k = aI Sr r (A r) k ∧ aL Sr2 r (A r) k = aL Sr r (A r) k)
    (hn : ∀ i, i < cp (pn S0 A ks) X (D - 1) → aI Sr2 81 (A 81) i = aI Sr 81 (A 81) i ∧ aI Sr2 82 (A 82) i = aI Sr 82 (A 82) i)
    (hF : RpF S2 Sr2 S0 R0 A N bh ks g ow (uq X D x) (uq Y D y) (uq C D c) (uq H D h') F1 D) :
    RPf S2 Sr2 S0 R0 A B n sy N bh ks g ow (D + 1) E V M (uq X D x) (uq Y D y) (uq C D c) (uq H D h') F1 := by
  obtain ⟨a1, a2, a3, a4⟩ := h
  obtain ⟨p1, p2, p3, p4, p5, p6, p7, p8, p9, p10, p11, p12, p13⟩ := p
  refine ⟨kr, hs, fun k hk => ?_, a4.eq (p12.tr (EqE.of k2 rfl rfl (fun _ _ _ => rfl))) (p13.tr (EqM.of k2 rfl (fun _ _ _ => rfl))) he⟩
  by_cases e : k = D
  · subst e; exact hF
  · have fk := hc.2.2.2.2.1
    refine (a3 k (by omega)).cg (fk k (by omega)).hb (by have := (fk (k - 1) (by omega)).hb; omega) (fun i hi => uq_ne (by omega)) (uq_ne e) (uq_ne e) (uq_ne (by omega)) (p4 k (by omega)) (fun j j1 j2 _ => ⟨(hfr k (by omega) j j1 j2).1.trans (p11 k (by omega) j (by omega)).1, (hfr k (by omega) j j1 j2).2.trans (p11 k (by omega) j (by omega)).2⟩) (by rw [(hr k (by omega) 86 (by omega) (by omega)).1, uq_ne e]; exact (a3 k (by omega)).2.1) (fun r r1 r2 => hr k (by omega) r (by omega) r2) (fun y z => hn _ ?_)
    have e1 := cp_po (p := pn S0 A ks) (X := X) z
    rw [y, if_pos rfl] at e1
    have := cp_mono (p := pn S0 A ks) (X := X) (i := k) (k := D - 1) (by omega)
    omega
theorem RPf.pop (h : RPf S Sr S0 R0 A B n sy N bh ks g ow D E V M X Y C H F) (hc : CPf S S0 A B n N nd bh par ks lv D m st E V M t ln lp X Y C H F VF TB) (hD : 2 ≤ D) (k2 : Keep jo rN S S2) (hfr : ∀ i, i < D - 1 → fI S2 5 (F i) = fI S 5 (F i) ∧ fL S2 5 (F i) = fL S 5 (F i))
    (kr : KPf R0 Sr2) (hs : RpS S2 Sr2 S0 A ks (D - 1) X) (he : EqR Sr Sr2 A)
    (hr : ∀ k, k < D - 1 → ∀ r, 86 ≤ r → r ≤ 100 → aI Sr2 r (A r) k = aI Sr r (A r) k ∧ aL Sr2 r (A r) k = aL Sr r (A r) k)
    (hn : aI Sr2 81 (A 81) = aI Sr 81 (A 81) ∧ aI Sr2 82 (A 82) = aI Sr 82 (A 82)) :
    RPf S2 Sr2 S0 R0 A B n sy N bh ks g ow (D - 1) E V M X Y C H F := by
  obtain ⟨a1, a2, a3, a4⟩ := h
  refine ⟨kr, hs, fun k hk => ?_, a4.eq (EqE.of k2 rfl rfl (fun _ _ _ => rfl)) (EqM.of k2 rfl (fun _ _ _ => rfl)) he⟩
  have fk := hc.2.2.2.2.1
  have hh : ∀ j, 2 ≤ j → j ≤ 16 → j ≠ 3 → fI S2 j (F k) = fI S j (F k) ∧ fL S2 j (F k) = fL S j (F k) := fun j j1 j2 _ => by
    by_cases e : j = 5
    · subst e; exact hfr k hk
    · rw [(k2.2.1 j (by unfold jo; rw [decide_eq_false_iff_not]; omega)).1, (k2.2.1 j (by unfold jo; rw [decide_eq_false_iff_not]; omega)).2]; exact ⟨rfl, rfl⟩
  exact (a3 k (by omega)).cg (fk k (by omega)).hb (by have := (fk (k - 1) (by omega)).hb; omega) (fun _ _ => rfl) rfl rfl rfl rfl hh (by rw [(hr k hk 86 (by omega) (by omega)).1]; exact (a3 k (by omega)).2.1) (fun r r1 r2 => hr k hk r (by omega) r2) (fun _ _ => by rw [hn.1, hn.2]; exact ⟨rfl, rfl⟩)
end
