/-! Performing: a music of voices ends. -/
section
variable {S S1 S2 S0 Sr Sr1 Sr2 R0 : PS} {A : Nat → Nat} {B : Nat → Int32} {n N nd pc : Nat} {bh par ks lv g ow : Nat → Nat}
variable {D m st E V M t ln sy x v : Nat} {lp : Int} {X Y C H F VF TB cs : Nat → Nat} {w : Int64}
theorem s_endVoice {Q : Int32 → PS → Prop} (hl : PfL S A) (hE : PfE S A B n D E V VF) (h27 : fI S 27 (A 3) = nI v) (hv : v < V) (hn : n ≤ 1500) (h1 : aI S 38 (A 38) v = -1 → Q 1 S) (h0 : ∀ tp, tp ≤ n → aI S 38 (A 38) v = nI tp → Q 0 (sI (sI S 0 (A 0) 6) 1 (A 0) (nI tp))) : wp_X3_endVoice (A 3) S Q := by
  obtain ⟨⟨e1, e2, e3, e4, e5⟩, _, ev⟩ := hE
  unfold wp_X3_endVoice
  refine ⟨_, hl.2.2.2.1, ?_⟩
  rw [h27]
  refine s_tiePlace hl.2.2.2.2.2 e3 hv e5 ?_
  rcases (ev v hv).2.2 with z | ⟨⟨tp, z1, z2⟩, _⟩
  · rw [if_pos z]; exact h1 z
  · rw [if_neg (by rw [z2]; exact nI_ne_neg (by omega))]
    refine ⟨_, hl.2.1, ?_⟩
    rw [z2]
    refine s_tell ?_
    rw [if_pos rfl]
    exact h0 tp z1 z2
theorem r_endOfVoice {Q : PS → Prop} (lm : LayM Sr A) (r102 : fI Sr 102 (A 9) = 0) (r155 : fI Sr 155 (A 9) = nI v) (hv : v < V) (hV : V ≤ 12) (hE : E ≤ 300) (ro : RpO S Sr A E v) (h1 : aI S 38 (A 38) v = -1 → Q Sr) (h0 : ∀ tp, aI S 38 (A 38) v = nI tp → aI S 38 (A 38) v ≠ -1 → Q (sI (sI Sr 102 (A 9) 6) 103 (A 9) (nI tp))) (ht : aI S 38 (A 38) v ≠ -1 → ∃ tp, aI S 38 (A 38) v = nI tp) : wp_X12_endOfVoice (A 9) Sr Q := by
  unfold wp_X12_endOfVoice
  rw [if_pos r102, r155]
  refine ⟨_, lm.f148, by rw [lm.n77]; exact vp_in_nI (by omega) (by omega), ?_⟩
  rw [nI_clamp (by omega)]
  rcases ro.2 with ⟨z1, z2⟩ | ⟨z1, e, z2, z3, z4, z5⟩
  · rw [if_pos z2]; exact h1 z1
  · rw [z4, if_neg (nI_ne_neg (by omega))]
    obtain ⟨tp, t1⟩ := ht z1
    refine ⟨_, lm.f141, _, lm.f148, by rw [lm.n77]; exact vp_in_nI (by omega) (by omega), ?_⟩
    rw [z4]
    refine ⟨by rw [lm.n71]; exact vp_in_nI (by omega) (by omega), ?_⟩
    rw [nI_clamp (by omega), z5, t1]
    unfold wp_X12_bad
    rw [if_pos r102]
    rintro _ rfl _ rfl
    exact h0 tp t1 z1
/-- a [ whose music has ended: the class's frame tells how the first one did, and the greatest time -/
def VEc (S SB : PS) (F : Nat → Nat) (k fe le l : Nat) (q : Int) : Prop := Keep (fun j => decide (13 ≤ j ∧ j ≤ 16)) rN S SB ∧ (∀ a, a ≠ F k → ∀ j, fI SB j a = fI S j a ∧ fL SB j a = fL S j a) ∧ fL SB 13 (F k) = lN fe ∧ fL SB 16 (F k) = lN le ∧ fL SB 14 (F k) = lN l ∧ fI SB 15 (F k) = iJ q
def VEr (Sr SrB : PS) (A : Nat → Nat) (k fe le l : Nat) (q : Int) (rel : Prop) : Prop := Keep (fun _ => false) (fun r => decide (r = 93 ∨ 98 ≤ r ∧ r ≤ 100)) Sr SrB ∧ (∀ r i, i ≠ k → aI SrB r (A r) i = aI Sr r (A r) i ∧ aL SrB r (A r) i = aL Sr r (A r) i) ∧ aL SrB 99 (A 99) k = lN fe ∧ aL SrB 100 (A 100) k = lN le ∧ aL SrB 98 (A 98) k = lN l ∧ (rel → aI SrB 93 (A 93) k = iJ q)
def nxC (SB : PS) (A F : Nat → Nat) (k V tb l y bhy : Nat) (q : Int) : PS := sI (sI (sI (sL (sL (sI (wI (wI (wL (sI SB 79 (A 7) (nI (V + 1))) 36 (A 36) V (lN tb)) 37 (A 37) V (-1)) 38 (A 38) V (-1)) 27 (A 3) (nI V)) 28 (A 3) (lN tb)) 29 (A 3) (lN l)) 30 (A 3) (iJ q)) 3 (F k) (nI y)) 4 (F k) (nI bhy)
def nxR (SrB : PS) (A : Nat → Nat) (k V tb l gy : Nat) (q inn : Int32) : PS := wI (wI (sI (sL (sL (wI (wL (sI (sI SrB 155 (A 9) (nI V)) 149 (A 9) (nI (V + 1))) 76 (A 76) V (lN tb)) 77 (A 77) V (-1)) 156 (A 9) (lN tb)) 157 (A 9) (lN l)) 158 (A 9) q) 92 (A 92) k (nI gy)) 86 (A 86) k inn
def clC (SB : PS) (A : Nat → Nat) (D c7 v fe l : Nat) (q : Int) : PS := sI (sL (sL (sI (sI (sI SB 24 (A 3) (nI (D - 1))) 38 (A 3) (nI (c7 - 1))) 27 (A 3) (nI v)) 28 (A 3) (lN fe)) 29 (A 3) (lN l)) 30 (A 3) (iJ q)
def clR (SrB : PS) (A : Nat → Nat) (c7 v fe l : Nat) (q : Int32) : PS := sL (sI (sL (sI (sI SrB 165 (A 9) (nI (c7 - 1))) 155 (A 9) (nI v)) 157 (A 9) (lN l)) 158 (A 9) q) 156 (A 9) (lN fe)
/-- the next voice, of the class -/
theorem cpf_nx {SB : PS} {fe le l l12 : Nat} {q l6 : Int} (sc : StC S0 A B n pc N nd bh par ks lv) (h : CPf S S0 A B n N nd bh par ks lv D m st E V M t ln lp X Y C H F VF TB) (hD : 2 ≤ D) (hk : ks (X (D - 1)) = 7) (ve : VEc S SB F (D - 1) fe le l q) (kw : Kws (PW A S0) S0 SB) (h1 : TB (D - 1) ≤ fe) (h2 : fe ≤ le) (h3 : le ≤ 3870720000) (h4 : 1 ≤ l) (h5 : l ≤ 3870720000) (h6 : lpb q st)
    (hp : Y (D - 1) ≠ X (D - 1) + 1 → aI S 38 (A 38) (VF (D - 1)) = -1) (hf : fL S 12 (F (D - 1)) = lN l12 ∧ 1 ≤ l12 ∧ l12 ≤ 3870720000) (hl : fI S 6 (F (D - 1)) = iJ l6 ∧ lpb l6 st) (hV : V < 12) (hb : bh (Y (D - 1)) < bh (X (D - 1))) :
    CPf (nxC SB A F (D - 1) V (TB (D - 1)) l12 (bh (Y (D - 1)) + 1) (bh (bh (Y (D - 1)) + 1)) l6) S0 A B n N nd bh par ks lv D m st E (V + 1) M (TB (D - 1)) l12 l6 X (uq Y (D - 1) (bh (Y (D - 1)) + 1)) (uq C (D - 1) (bh (Y (D - 1)) + 1)) H F (uq VF (D - 1) V) TB := by
  obtain ⟨a1, a2, ⟨a3, a4⟩, a5, a6, a7, ⟨v0, v1, v2⟩, a9, a10⟩ := h
  obtain ⟨kb, fb, b13, b16, b14, b15⟩ := ve
  have s5 := sc.2.2.2.2.1
  have s6 := sc.2.2.2.2.2.1
  have s7 := sc.2.2.2.2.2.2.1
  have d201 := a4.2.2.2
  have hk1 : 1 ≤ D - 1 := by omega
  have hk2 : D - 1 - 1 ≠ D - 1 := by omega
  have f := a6 (D - 1) (by omega)
  obtain ⟨x1, x2, x3, x4⟩ := f.2.2.2.2.2.1 (by omega)
  obtain ⟨y1, y2, y3⟩ : 1 ≤ Y (D - 1) ∧ par (Y (D - 1)) = X (D - 1) ∧ H (D - 1) = H (D - 1 - 1) := by
    rcases x4 with z | z | z
    · omega
    · exact z.2
    · omega
  have yN := f.1
  have ty := s5.1 (Y (D - 1)) y1 yN
  have tx := s5.1 (X (D - 1)) x1 x2
  have y'N : bh (Y (D - 1)) + 1 ≤ N := by omega
  have py : par (bh (Y (D - 1)) + 1) = X (D - 1) := by
    have := s5.2.2 (Y (D - 1)) y1 yN (by rw [y2, bn_pos x1]; exact hb)
    rw [this, y2]
  have ky : ks (Y (D - 1)) = 11 := ((s6 _ y1 yN).1).mpr ⟨by omega, Or.inl (by rw [y2]; exact hk)⟩
  have ky' : ks (bh (Y (D - 1)) + 1) = 11 := ((s6 _ (by omega) y'N).1).mpr ⟨by omega, Or.inl (by rw [py]; exact hk)⟩
  have ty' := s5.1 _ (show 1 ≤ bh (Y (D - 1)) + 1 by omega) y'N
  have elv : ∀ z, 1 ≤ z → z ≤ N → par z = X (D - 1) → ks z = 11 → ll ks par lv z = lv (X (D - 1)) + stp ks par (X (D - 1)) := by
    intro z z1 z2 z3 z4
    unfold ll
    rw [if_neg (by omega), (s7 z z1 z2).2, z3, if_neg (by omega)]
    have : stp ks par z = 0 := by unfold stp; rw [if_neg (by omega), if_pos ⟨z4, by rw [z3]; exact hk⟩]
    rw [this]; rfl
  have enm : ∀ z, 1 ≤ z → z ≤ N → par z = X (D - 1) → ks z = 11 → nmy par ks z = nmy par ks (X (D - 1)) := fun z z1 z2 z3 z4 => by rw [nmy_u2 s5.dn z1 z2 (by omega), z3]
  have st1 : St (nxC SB A F (D - 1) V (TB (D - 1)) l12 (bh (Y (D - 1)) + 1) (bh (bh (Y (D - 1)) + 1)) l6) = St S := kb.1
  have wk : PW A S0 (F (D - 1)) ∨ F (D - 1) ∉ pL S0 := PW.fr a1.1 (a4.1 (D - 1) (by omega)).2
  have hne : ∀ i, i < D - 1 → F i ≠ F (D - 1) := fun i hi => a4.ne (by omega) (by omega) (by omega)
  have jj : ∀ j, j < 13 ∨ 16 < j → fI SB j = fI S j ∧ fL SB j = fL S j := fun j hj => ⟨(kb.2.1 j (by simp only [decide_eq_false_iff_not]; omega)).1, (kb.2.1 j (by simp only [decide_eq_false_iff_not]; omega)).2⟩
  have aa : aI SB = aI S ∧ aL SB = aL S := ⟨by funext r; exact (kb.2.2 r rfl).1, by funext r; exact (kb.2.2 r rfl).2⟩
  refine ⟨((((((((((kw.sI (PW.at rfl)).wL (PW.at rfl)).wI (PW.at rfl)).wI (PW.at rfl)).sI (PW.at rfl)).sL (PW.at rfl)).sL (PW.at rfl)).sI (PW.at rfl)).sI wk).sI wk), a2.st st1, ⟨a3, a4.st st1⟩, ?_, fun i hi => ?_, fun i hi => ?_, ⟨?_, fun i hi => ?_, fun i i1 i2 i3 => ?_⟩, ?_, ?_⟩
  · obtain ⟨z1, z2, z3, z4, z5, z6, z7⟩ := a5
    unfold PfS
    unfold nxC
    simp only [fI_s, fI_sn, fL_s, fL_sn, aI_w, aI_wn, aL_w, aL_wn, fI_sL, fI_wI, fI_wL, fL_sI, fL_wI, fL_wL, aI_sI, aI_sL, aI_wL, aL_sI, aL_sL, aL_wI, fR_sI, fR_sL, fR_wI, fR_wL, aN_sI, aN_sL, aN_wI, aN_wL, ne_eq, Nat.reduceEqDiff, not_false_eq_true]
    rw [(jj 24 (by omega)).1, (jj 26 (by omega)).1, (jj 31 (by omega)).1, (jj 32 (by omega)).1, (jj 33 (by omega)).2, (jj 34 (by omega)).2, (jj 35 (by omega)).1, (jj 36 (by omega)).1, (jj 37 (by omega)).1, (jj 38 (by omega)).1, (jj 39 (by omega)).1]
    exact ⟨z1, z2, by rw [uq_at], ⟨trivial, by omega⟩, ⟨trivial, hf.2⟩, ⟨trivial, hl.2⟩, z7⟩
  · by_cases e : i = D - 1
    · subst e
      refine ⟨by rw [uq_at]; exact y'N, ?_, fun z => ?_, ?_, fun z => by omega, fun _ => ?_, ?_⟩
      · rw [uq_at, uq_at, bn_pos (by omega)]; exact ty'.2.1
      · rw [uq_at, uq_at] at z ⊢
        exact s5.2.1 _ (by rw [bn_pos (by omega)] at z; omega) z
      · rw [uq_at, elv _ (by omega) y'N py ky']
        have q := f.2.2.2.1
        rw [elv _ y1 yN y2 ky] at q; exact q
      · rw [uq_at, uq_ne (by omega)]
        exact ⟨x1, x2, x3, Or.inr (Or.inl ⟨hk, by omega, py, y3⟩)⟩
      · rw [uq_at, enm _ (by omega) y'N py ky', ← enm _ y1 yN y2 ky]; exact f.2.2.2.2.2.2
    · exact (a6 i hi).cg (fun _ _ => rfl) (fun z hz => uq_ne (by omega)) (uq_ne e) (fun _ _ => rfl)
  · by_cases e : i = D - 1
    · subst e
      obtain ⟨c1, c2, c3, c4⟩ := a7 (D - 1) hi
      obtain ⟨d1, d2, d3, d4, d5, d6⟩ := c4 hk1
      obtain ⟨g1, g2, g3, g4, g5⟩ := d5 hk
      refine ⟨by unfold nxC; simp only [fI_s, fI_sn, fL_s, fL_sn, aI_w, aI_wn, aL_w, aL_wn, fI_sL, fI_wI, fI_wL, fL_sI, fL_wI, fL_wL, aI_sI, aI_sL, aI_wL, aL_sI, aL_sL, aL_wI, fR_sI, fR_sL, fR_wI, fR_wL, aN_sI, aN_sL, aN_wI, aN_wL, ne_eq, Nat.reduceEqDiff, not_false_eq_true]; rw [(jj 2 (by omega)).1]; exact c1, by unfold nxC; simp only [fI_s, fI_sn, fL_s, fL_sn, aI_w, aI_wn, aL_w, aL_wn, fI_sL, fI_wI, fI_wL, fL_sI, fL_wI, fL_wL, aI_sI, aI_sL, aI_wL, aL_sI, aL_sL, aL_wI, fR_sI, fR_sL, fR_wI, fR_wL, aN_sI, aN_sL, aN_wI, aN_wL, ne_eq, Nat.reduceEqDiff, not_false_eq_true]; rw [uq_at], by unfold nxC; simp only [fI_s, fI_sn, fL_s, fL_sn, aI_w, aI_wn, aL_w, aL_wn, fI_sL, fI_wI, fI_wL, fL_sI, fL_wI, fL_wL, aI_sI, aI_sL, aI_wL, aL_sI, aL_sL, aL_wI, fR_sI, fR_sL, fR_wI, fR_wL, aN_sI, aN_sL, aN_wI, aN_wL, ne_eq, Nat.reduceEqDiff, not_false_eq_true]; rw [uq_at, bn_pos (by omega)], fun _ => ⟨fun z => by omega, fun z => by omega, fun z => by omega, fun z => by omega, fun _ => ?_, fun z => absurd hk z⟩⟩
      unfold FrV nxC
      simp only [fI_s, fI_sn, fL_s, fL_sn, aI_w, aI_wn, aL_w, aL_wn, fI_sL, fI_wI, fI_wL, fL_sI, fL_wI, fL_wL, aI_sI, aI_sL, aI_wL, aL_sI, aL_sL, aL_wI, fR_sI, fR_sL, fR_wI, fR_wL, aN_sI, aN_sL, aN_wI, aN_wL, ne_eq, Nat.reduceEqDiff, not_false_eq_true]
      rw [uq_at, uq_ne hk2, (jj 10 (by omega)).1, (jj 11 (by omega)).2, (jj 12 (by omega)).2, (jj 6 (by omega)).1, b13, b16, b14, b15]
      refine ⟨g1, g2, g3, g4, Or.inr ⟨?_, fe, le, l, h1, h2, h3, rfl, rfl, h4, h5, rfl, q, rfl, h6⟩⟩
      have := tx.2.1
      have : X (D - 1) < Y (D - 1) := by have := ty.1; omega
      omega
    · have hi' : i < D - 1 := by omega
      have fe' : ∀ j, j < 17 → fI (nxC SB A F (D - 1) V (TB (D - 1)) l12 (bh (Y (D - 1)) + 1) (bh (bh (Y (D - 1)) + 1)) l6) j (F i) = fI S j (F i) ∧ fL (nxC SB A F (D - 1) V (TB (D - 1)) l12 (bh (Y (D - 1)) + 1) (bh (bh (Y (D - 1)) + 1)) l6) j (F i) = fL S j (F i) := fun j hj => by
        unfold nxC
        refine ⟨?_, ?_⟩
        · rw [fI_sI, if_neg (fun z => hne i hi' z.2), fI_sI, if_neg (fun z => hne i hi' z.2), fI_sn _ _ _ _ _ (by omega), fI_sL, fI_sL, fI_sn _ _ _ _ _ (by omega), fI_wI, fI_wI, fI_wL, fI_sn _ _ _ _ _ (by omega)]; exact (fb _ (hne i hi') j).1
        · rw [fL_sI, fL_sI, fL_sI, fL_sn _ _ _ _ _ (by omega), fL_sn _ _ _ _ _ (by omega)]; exact (fb _ (hne i hi') j).2
      exact (a7 i hi).cg (Nat.le_refl st) (fun _ _ => rfl) (uq_ne e) (fun _ _ => rfl) rfl (fun z hz => uq_ne (by omega)) rfl (by rw [(fe' 3 (by omega)).1, uq_ne e]; exact (a7 i hi).2.1) (fun j j1 j2 _ => fe' j (by omega))
  · rw [uq_ne (by omega)]; exact v0
  · by_cases e : i = D - 1
    · rw [e, uq_at]; omega
    · rw [uq_ne e]; have := v1 i hi; omega
  · refine ⟨?_, (v2 i i1 i2 i3).2⟩
    by_cases e : i = D - 1
    · rw [e]; exact Nat.le_refl _
    · exact (v2 (D - 1) (by omega) (by omega) hk).2 i i1 (by omega) i3
  · have q : EqM S (nxC SB A F (D - 1) V (TB (D - 1)) l12 (bh (Y (D - 1)) + 1) (bh (bh (Y (D - 1)) + 1)) l6) A := by
      refine ⟨by unfold nxC; simp only [fI_s, fI_sn, fL_s, fL_sn, aI_w, aI_wn, aL_w, aL_wn, fI_sL, fI_wI, fI_wL, fL_sI, fL_wI, fL_wL, aI_sI, aI_sL, aI_wL, aL_sI, aL_sL, aL_wI, fR_sI, fR_sL, fR_wI, fR_wL, aN_sI, aN_sL, aN_wI, aN_wL, ne_eq, Nat.reduceEqDiff, not_false_eq_true]; rw [(jj 17 (by omega)).1], fun r r1 r2 => ⟨?_, ?_⟩⟩
      · unfold nxC; simp only [aI_sI, aI_sL, aI_wL]; rw [aI_wn _ _ _ _ _ _ (by omega), aI_wn _ _ _ _ _ _ (by omega), aI_wL, aI_sI, aa.1]
      · unfold nxC; simp only [aL_sI, aL_sL, aL_wI]; rw [aL_wn _ _ _ _ _ _ (by omega), aL_sI, aa.2]
    obtain ⟨m1, mt, mu, md, m2, m3, m4, m5, m6⟩ := a9.eq q
    exact ⟨m1, mt, mu, md, m2, m3, m4, m6 (D - 1) (by omega) (by omega) hk, m6⟩
  · obtain ⟨⟨e1, e2, e3, e4, e5⟩, eev, evo⟩ := a10
    have r28 : ∀ r, 28 ≤ r → r ≤ 34 → aI (nxC SB A F (D - 1) V (TB (D - 1)) l12 (bh (Y (D - 1)) + 1) (bh (bh (Y (D - 1)) + 1)) l6) r = aI S r ∧ aL (nxC SB A F (D - 1) V (TB (D - 1)) l12 (bh (Y (D - 1)) + 1) (bh (bh (Y (D - 1)) + 1)) l6) r = aL S r := fun r r1 r2 => by
      unfold nxC
      refine ⟨?_, ?_⟩
      · simp only [aI_sI, aI_sL, aI_wL]; rw [aI_wn _ _ _ _ _ _ (by omega), aI_wn _ _ _ _ _ _ (by omega), aI_wL, aI_sI, aa.1]
      · simp only [aL_sI, aL_sL, aL_wI]; rw [aL_wn _ _ _ _ _ _ (by omega), aL_sI, aa.2]
    have r36 : aL (nxC SB A F (D - 1) V (TB (D - 1)) l12 (bh (Y (D - 1)) + 1) (bh (bh (Y (D - 1)) + 1)) l6) 36 (A 36) = uq (aL S 36 (A 36)) V (lN (TB (D - 1))) := by unfold nxC; simp only [fI_s, fI_sn, fL_s, fL_sn, aI_w, aI_wn, aL_w, aL_wn, fI_sL, fI_wI, fI_wL, fL_sI, fL_wI, fL_wL, aI_sI, aI_sL, aI_wL, aL_sI, aL_sL, aL_wI, fR_sI, fR_sL, fR_wI, fR_wL, aN_sI, aN_sL, aN_wI, aN_wL, ne_eq, Nat.reduceEqDiff, not_false_eq_true]; rw [aa.2]
    have r37 : aI (nxC SB A F (D - 1) V (TB (D - 1)) l12 (bh (Y (D - 1)) + 1) (bh (bh (Y (D - 1)) + 1)) l6) 37 (A 37) = uq (aI S 37 (A 37)) V (-1) := by unfold nxC; simp only [fI_s, fI_sn, fL_s, fL_sn, aI_w, aI_wn, aL_w, aL_wn, fI_sL, fI_wI, fI_wL, fL_sI, fL_wI, fL_wL, aI_sI, aI_sL, aI_wL, aL_sI, aL_sL, aL_wI, fR_sI, fR_sL, fR_wI, fR_wL, aN_sI, aN_sL, aN_wI, aN_wL, ne_eq, Nat.reduceEqDiff, not_false_eq_true]; rw [aa.1]
    have r38 : aI (nxC SB A F (D - 1) V (TB (D - 1)) l12 (bh (Y (D - 1)) + 1) (bh (bh (Y (D - 1)) + 1)) l6) 38 (A 38) = uq (aI S 38 (A 38)) V (-1) := by unfold nxC; simp only [fI_s, fI_sn, fL_s, fL_sn, aI_w, aI_wn, aL_w, aL_wn, fI_sL, fI_wI, fI_wL, fL_sI, fL_wI, fL_wL, aI_sI, aI_sL, aI_wL, aL_sI, aL_sL, aL_wI, fR_sI, fR_sL, fR_wI, fR_wL, aN_sI, aN_sL, aN_wI, aN_wL, ne_eq, Nat.reduceEqDiff, not_false_eq_true]; rw [aa.1]
    refine ⟨⟨by unfold nxC; simp only [fI_s, fI_sn, fL_s, fL_sn, aI_w, aI_wn, aL_w, aL_wn, fI_sL, fI_wI, fI_wL, fL_sI, fL_wI, fL_wL, aI_sI, aI_sL, aI_wL, aL_sI, aL_sL, aL_wI, fR_sI, fR_sL, fR_wI, fR_wL, aN_sI, aN_sL, aN_wI, aN_wL, ne_eq, Nat.reduceEqDiff, not_false_eq_true]; rw [(jj 70 (by omega)).1]; exact e1, e2, by unfold nxC; simp only [fI_s, fI_sn, fL_s, fL_sn, aI_w, aI_wn, aL_w, aL_wn, fI_sL, fI_wI, fI_wL, fL_sI, fL_wI, fL_wL, aI_sI, aI_sL, aI_wL, aL_sI, aL_sL, aL_wI, fR_sI, fR_sL, fR_wI, fR_wL, aN_sI, aN_sL, aN_wI, aN_wL, ne_eq, Nat.reduceEqDiff, not_false_eq_true], by omega, by omega⟩, fun e he => ?_, fun u hu => ?_⟩
    · unfold EvC
      rw [r37, r38, (r28 28 (by omega) (by omega)).1, (r28 29 (by omega) (by omega)).2, (r28 30 (by omega) (by omega)).2, (r28 31 (by omega) (by omega)).2, (r28 32 (by omega) (by omega)).1, (r28 33 (by omega) (by omega)).1, (r28 34 (by omega) (by omega)).1]
      obtain ⟨⟨u, u1, u2⟩, c2, c3, c4, c5, c6, c7⟩ := eev e he
      refine ⟨⟨u, by omega, u2⟩, c2, c3, c4, c5, c6, fun z => ?_⟩
      rcases c7 z with ⟨u', w1, w2, w3, w4⟩ | q
      · exact Or.inl ⟨u', by omega, w2, by rw [uq_ne (by omega)]; exact w3, by rw [uq_ne (by omega)]; exact w4⟩
      · exact Or.inr q
    · unfold VoC
      rw [r36, r37, r38, (r28 28 (by omega) (by omega)).1, (r28 31 (by omega) (by omega)).2]
      by_cases z : u = V
      · subst z
        rw [uq_at, uq_at, uq_at]
        exact ⟨⟨TB (D - 1), by omega, rfl⟩, Or.inl rfl, Or.inl rfl⟩
      · rw [uq_ne z, uq_ne z, uq_ne z]
        obtain ⟨c1, c2, c3⟩ := evo u (by omega)
        refine ⟨c1, c2, ?_⟩
        rcases c3 with c3 | ⟨c4, c5, k0, c6, c7⟩
        · exact Or.inl c3
        · refine Or.inr ⟨c4, c5, ?_⟩
          by_cases ek : k0 = D - 1
          · by_cases ef : Y (D - 1) = X (D - 1) + 1
            · have g5 := ((a7 (D - 1) (by omega)).2.2.2 (by omega)).2.2.2.2.1 hk
              rcases g5.2.2.2.2 with ⟨_, _, _, g⟩ | ⟨g, _⟩
              · exact ⟨D - 1 - 1, by omega, by rw [uq_ne (by omega), ← g, ← ek]; exact c7⟩
              · exact absurd ef g
            · have := hp ef
              rw [← ek, ← c7] at this
              obtain ⟨tp, _, t2⟩ := c4
              rw [t2] at this
              exact absurd this (nI_ne_neg (by have := sc.2.2.1.2.2.2.1; omega))
          · exact ⟨k0, c6, by rw [uq_ne ek]; exact c7⟩
end
