/-! Performing: the end of a music of voices, of both. -/
section
variable {S S1 S2 S0 Sr Sr1 Sr2 R0 : PS} {A : Nat → Nat} {B : Nat → Int32} {n N nd pc : Nat} {bh par ks lv g ow : Nat → Nat}
variable {D m st E V M t ln sy x v : Nat} {lp : Int} {X Y C H F VF TB cs : Nat → Nat} {w : Int64}
def FrVa (S : PS) (st : Nat) (X Y F VF TB : Nat → Nat) (k : Nat) : Prop := (Y k = X k + 1 ∧ fL S 13 (F k) = -1 ∧ fL S 16 (F k) = lN (TB k) ∧ VF k = VF (k - 1)) ∨ (Y k ≠ X k + 1 ∧ ∃ fe le l, TB k ≤ fe ∧ fe ≤ le ∧ le ≤ 3870720000 ∧ fL S 13 (F k) = lN fe ∧ fL S 16 (F k) = lN le ∧ 1 ≤ l ∧ l ≤ 3870720000 ∧ fL S 14 (F k) = lN l ∧ ∃ q : Int, fI S 15 (F k) = iJ q ∧ lpb q st)
def HNf (S : PS) (F : Nat → Nat) (k t fe le l : Nat) (q : Int) : Prop := ∃ le0, fL S 13 (F k) = lN fe ∧ fL S 16 (F k) = lN le0 ∧ le = (if t ≤ le0 then le0 else t) ∧ le0 ≤ 3870720000 ∧ fL S 14 (F k) = lN l ∧ fI S 15 (F k) = iJ q
theorem Pch0 : Pch 0 (fun _ => 0) 0 := ⟨by omega, fun k hk => by omega, rfl⟩
theorem AddR.up {c pl tk : Nat} {ld td z : Int32} (h : AddR Sr Sr1 A E v t tk c cs ld td pl) : AddR (sI Sr 188 (A 9) z) (sI Sr1 188 (A 9) z) A E v t tk c cs ld td pl := by
  obtain ⟨⟨k1, k2, k3⟩, a2, a3, a4, a5, a6, a7, a8, a9, a10, a11, a12, a13, a14, a15, a16⟩ := h
  refine ⟨⟨k1, fun j hj => ⟨?_, (k2 j hj).2⟩, k3⟩, by simp only [fI_s, fI_sn, fL_s, fL_sn, aI_w, aI_wn, aL_w, aL_wn, fI_sL, fI_wI, fI_wL, fL_sI, fL_wI, fL_wL, aI_sI, aI_sL, aI_wL, aL_sI, aL_sL, aL_wI, fR_sI, fR_sL, fR_wI, fR_wL, aN_sI, aN_sL, aN_wI, aN_wL, ne_eq, Nat.reduceEqDiff, not_false_eq_true]; exact a2, a3, a4, a5, a6, a7, a8, a9, a10, a11, a12, a13, a14, a15, a16⟩
  funext a
  rw [fI_sI, fI_sI, (k2 j hj).1]
theorem lN_nm {a : Nat} (h : a < 2 ^ 63) : lN a ≠ -1 := fun z => by
  have y : lN 0 ≤ lN a := (lN_leq (by omega) h).mpr (Nat.zero_le _)
  rw [z] at y; exact absurd y (by decide)
set_option maxHeartbeats 4000000 in
theorem e_vcs {Q : Int32 → PS → Prop} (sc : StC S0 A B n pc N nd bh par ks lv) (h : CPf S S0 A B n N nd bh par ks lv D m st E V M t ln lp X Y C H F VF TB) (hD : 2 ≤ D) (hk : ks (X (D - 1)) = 7)
    (hN : V < 12 → ∀ S2 t' ln' lp' y, CPf S2 S0 A B n N nd bh par ks lv D m st E (V + 1) M t' ln' lp' X (uq Y (D - 1) y) (uq C (D - 1) y) H F (uq VF (D - 1) V) TB → GoL S0 A B n N nd bh par ks S D E V M X Y C H F S2 D E (V + 1) M X (uq Y (D - 1) y) (uq C (D - 1) y) H F → Q 1 S2)
    (hP : ∀ S2 E' t' ln' lp', CPf S2 S0 A B n N nd bh par ks lv (D - 1) m st E' V M t' ln' lp' X Y C H F VF TB → GoL S0 A B n N nd bh par ks S D E V M X Y C H F S2 (D - 1) E' V M X Y C H F → Q 1 S2)
    (hF : ∀ S2 e, CBad S0 S2 A m F e → GoLF S0 A B n N nd bh par ks S D E V M X Y C H F e → Q 0 S2) : wp_X3_end (A 3) (F (D - 1)) S Q := by
  have h' := h
  obtain ⟨a1, a2, ⟨a3, a4⟩, a5, a6, a7, ⟨v0, v1, v2⟩, a9, a10⟩ := h
  have hk1 : 1 ≤ D - 1 := by omega
  have hk0 : D - 1 < D := by omega
  have e2 : D - 1 - 1 = D - 2 := by omega
  have d201 := a4.2.2.2
  have hn := sc.2.2.1.2.2.2.1
  have s5 := sc.2.2.2.2.1
  have s6 := sc.2.2.2.2.2.1
  have h17 := sc.2.2.2.1
  have hpg := sc.pg a1 a2
  obtain ⟨R00, T0, wr0, sy0, g0, ow0, r0⟩ := sc.rsr
  have f := a6 (D - 1) (by omega)
  obtain ⟨x1, x2, x3, x4⟩ := f.2.2.2.2.2.1 hk1
  obtain ⟨y1, y2, y3⟩ : 1 ≤ Y (D - 1) ∧ par (Y (D - 1)) = X (D - 1) ∧ H (D - 1) = H (D - 1 - 1) := by
    rcases x4 with z | z | z
    · omega
    · exact z.2
    · omega
  have yN := f.1
  obtain ⟨c1, c2, c3, c4⟩ := a7 (D - 1) (by omega)
  rw [hz_pos x1] at c1
  obtain ⟨-, -, -, -, fv, -⟩ := c4 hk1
  obtain ⟨g1, g2, ⟨l12, lb1, lb2, g3⟩, ⟨l6, g4, g4b⟩, g5⟩ := fv hk
  replace g5 : FrVa S st X Y F VF TB (D - 1) := g5
  clear c4 fv
  rw [e2] at g1
  obtain ⟨pl, pl1, pl2, _, ah⟩ := r0.pl x1 x2 (by omega)
  have hB : B pl = 91 := by
    rw [hk] at ah
    unfold kof at ah
    by_cases e : B pl = 91
    · exact e
    · rw [if_neg e] at ah
      repeat' split at ah
      all_goals omega
  have ky : ks (Y (D - 1)) = 11 := ((s6 _ y1 yN).1).mpr ⟨by omega, Or.inl (by rw [y2]; exact hk)⟩
  have ty := s5.1 (Y (D - 1)) y1 yN
  have tx := s5.1 (X (D - 1)) x1 x2
  have hv := v1 (D - 1) (by omega)
  have hv2 := v1 (D - 2) (by omega)
  have hTt := (v2 (D - 1) hk1 (by omega) hk).1
  obtain ⟨s24, ⟨s26, s26b⟩, s27, ⟨s28, s28b⟩, ⟨s29, s29b, s29c⟩, ⟨s30, s30b⟩, s31, ⟨s32, s32b⟩, s33, s34, s35, s36, s37, s38, s39⟩ := a5
  have hE := a10.1
  have wk : PW A S0 (F (D - 1)) ∨ F (D - 1) ∉ pL S0 := PW.fr a1.1 (a4.1 (D - 1) (by omega)).2
  have c3e : cp (pk ks 3) X (D - 1) = cp (pk ks 3) X (D - 2) := by rw [cp_po hk1, e2, pk_f (by omega), if_neg (by decide)]; rfl
  have c7e : cp (pk ks 7) X (D - 1) = cp (pk ks 7) X (D - 2) + 1 := by rw [cp_po hk1, e2, pk_t hk, if_pos rfl]
  have c7l := cp_le (p := pk ks 7) (X := X) (D - 1)
  have hpl' : ∀ R0 pc T wr sy g ow, RSR S0 R0 A B n N nd bh par ks pc T wr sy g ow → aI R0 43 (A 43) (g (X (D - 1))) = nI pl := fun R0 pc T wr sy g ow hr => by
    obtain ⟨q, q1, q2, q3, _⟩ := hr.pl x1 x2 (by omega)
    rw [q3, ← q2, pl2]
  have tpx : aI S 38 (A 38) (VF (D - 1)) ≠ -1 → ∃ tp, aI S 38 (A 38) (VF (D - 1)) = nI tp := fun z => by
    rcases (a10.2.2 _ hv).2.2 with y | ⟨⟨tp, _, y⟩, _⟩
    · exact absurd y z
    · exact ⟨tp, y⟩
  -- the reference up to what follows the music
  have ref : ∀ fe le l q, (Y (D - 1) = X (D - 1) + 1 → fe = t ∧ le = t ∧ l = ln ∧ q = lp) → (Y (D - 1) ≠ X (D - 1) + 1 → HNf S F (D - 1) t fe le l q) →
      ∀ R0 pc T wr sy g ow, RSR S0 R0 A B n N nd bh par ks pc T wr sy g ow → ∀ Sr, RPf S Sr S0 R0 A B n sy N bh ks g ow D E V M X Y C H F → ∀ Q2 : PS → Prop,
      (Y (D - 1) ≠ X (D - 1) + 1 → ∀ tp, aI S 38 (A 38) (VF (D - 1)) = nI tp → aI S 38 (A 38) (VF (D - 1)) ≠ -1 → ∀ Sr1, RBad R0 Sr1 A (6, tp) → Q2 Sr1) →
      ((Y (D - 1) ≠ X (D - 1) + 1 → aI S 38 (A 38) (VF (D - 1)) = -1) → bh (Y (D - 1)) < bh (X (D - 1)) → V = 12 → ∀ Sr1, RBad R0 Sr1 A (5, pl) → Q2 Sr1) →
      ((Y (D - 1) ≠ X (D - 1) + 1 → aI S 38 (A 38) (VF (D - 1)) = -1) → bh (Y (D - 1)) < bh (X (D - 1)) → V < 12 → ∀ SrB, VEr Sr SrB A (D - 1) fe le l q (0 < cp (pk ks 3) X (D - 2)) → Q2 (nxR SrB A (D - 1) V (TB (D - 1)) l12 (g (bh (Y (D - 1)) + 1)) (aI SrB 90 (A 90) (D - 1)) (aI R0 46 (A 46) (g (bh (Y (D - 1)) + 1))))) →
      ((Y (D - 1) ≠ X (D - 1) + 1 → aI S 38 (A 38) (VF (D - 1)) = -1) → ¬ bh (Y (D - 1)) < bh (X (D - 1)) → ∀ SrB, VEr Sr SrB A (D - 1) fe le l q (0 < cp (pk ks 3) X (D - 2)) → (le ≤ fe → Q2 (sI (clR SrB A (cp (pk ks 7) X (D - 1)) (VF (D - 2)) fe l (aI SrB 93 (A 93) (D - 1))) 188 (A 9) (nI (D - 1)))) ∧ (¬ le ≤ fe → ∀ K : PS → Prop, (∀ S23, (∀ S4, S4 = sI S23 188 (A 9) ((fI S23 188 (A 9)) - 1) → Q2 S4) → K S23) → wp_X12_event (A 9) (nI (g (X (D - 1)))) 0 (lN le - lN fe) 1 0 (clR SrB A (cp (pk ks 7) X (D - 1)) (VF (D - 2)) fe l (aI SrB 93 (A 93) (D - 1))) K)) → fe ≤ 3870720000 → le ≤ 3870720000 → wp_X12_leave (A 9) (nI (D - 1)) (nI (g (X (D - 1)))) Sr Q2 := by
    intro fe le l q hfst hnf R0 pc T wr sy g ow hr Sr rp Q2 o6 o5 oN oC feb leb
    have lm := rp.1.lay hr.1
    obtain ⟨at1, gx, owx⟩ := hr.at x1 x2
    obtain ⟨aty, gy, owy⟩ := hr.at y1 yN
    have oy : ow (Y (D - 1)) = g (Y (D - 1)) := hr.o11 y1 yN (Or.inl ky)
    have ox : ow (X (D - 1)) = g (X (D - 1)) := hr.o11 x1 x2 (Or.inr hk)
    obtain ⟨r1, r2, r3, r4⟩ := rp
    obtain ⟨b102, b188, b154, b155, b156, b157, b158, b159, b160, b161, b162, b163, b164, b166, b165, b169⟩ := r2
    have rv : RpV S Sr A ks X Y F (D - 1) := ((r3 (D - 1) hk0).2.2.2.2 hk1).2.2.2.1 hk
    have e92 := (r3 (D - 1) hk0).2.2.1
    have e46 : aI R0 46 (A 46) (g (X (D - 1))) = nI (g (X (D - 1) + 1)) := by
      have z := hr.2.2.1.1 (X (D - 1)) x2
      rw [ox, bn_pos x1, if_pos (by have := ty.1; have := ty.2.2.1; rw [y2, bn_pos x1] at this; omega)] at z; exact z
    have gxy : g (Y (D - 1)) = g (X (D - 1) + 1) ↔ Y (D - 1) = X (D - 1) + 1 := by
      constructor
      · intro z
        have hlt : X (D - 1) + 1 ≤ Y (D - 1) := by have := ty.1; omega
        rcases Nat.lt_or_ge (X (D - 1) + 1) (Y (D - 1)) with y | y
        · have := hr.2.2.1.2.2.2.2 _ _ y yN; omega
        · omega
      · intro z; rw [z]
    have e47 : aI R0 47 (A 47) (g (Y (D - 1))) = if bh (Y (D - 1)) < bh (X (D - 1)) then nI (g (bh (Y (D - 1)) + 1)) else -1 := by
      have z := hr.2.2.1.2.1 (Y (D - 1)) y1 yN
      rw [y2, bn_pos x1] at z; exact z
    have cD : (nI (D - 1)).toNatClampNeg = D - 1 := nI_clamp (by omega)
    have vD : ∀ {r : Nat}, r = 260 → vp_in (nI (D - 1)) r := fun h => by rw [h]; exact vp_in_nI (by omega) (by omega)
    have vx : ∀ {r : Nat}, r = 3100 → vp_in (nI (g (X (D - 1)))) r := fun h => by rw [h]; exact vp_in_nI gx (by omega)
    have cx : (nI (g (X (D - 1)))).toNatClampNeg = g (X (D - 1)) := nI_clamp (by omega)
    unfold wp_X12_leave
    rw [if_neg (nI_ne_neg (by omega))]
    refine ⟨_, lm.f105, vx lm.n42, ?_⟩
    intro K hK
    rw [cx, r1.a rfl, hr.sort x1 x2, hk, if_neg (by decide), if_neg (by decide), if_neg (by decide), if_neg (by decide), if_pos (by decide)]
    unfold wp_X12_isGoingOn
    refine ⟨_, lm.f179, vD lm.n92, ?_⟩
    rintro _ rfl
    refine ⟨_, lm.f109, vx lm.n46, ?_⟩
    intro K97 hK97
    rw [cD, cx, e92, oy, r1.a (r := 46) rfl, e46]
    -- a fault is told
    have flt : ∀ (k : Nat) S4, Kd (k, 0) → KPf R0 S4 → fI S4 102 (A 9) = nI k → Q2 S4 → K97 S4 := by
      intro k S4 kd k4 f4 q4
      have lm4 := k4.lay hr.1
      apply hK97
      rw [cD, e92, oy]
      refine ⟨_, lm4.f110, by rw [lm4.n47]; exact vp_in_nI gy (by omega), ?_⟩
      rintro _ rfl
      intro K138 hK138
      rw [if_neg (by rw [f4]; exact kd.ne)]
      apply hK138
      rw [if_neg (by rw [f4]; exact kd.nle)]
      show (if (1 : Int32) = 0 then _ else _)
      rw [if_neg (by decide)]
      exact q4
    -- no fault yet
    have main : (Y (D - 1) ≠ X (D - 1) + 1 → aI S 38 (A 38) (VF (D - 1)) = -1) → ∀ SrB, VEr Sr SrB A (D - 1) fe le l q (0 < cp (pk ks 3) X (D - 2)) → K97 SrB := by
      intro hp SrB vr
      have kb := vr.k r1
      have lmb := kb.lay hr.1
      have kj := vr.j
      have f102 : fI SrB 102 (A 9) = 0 := by rw [kj.1]; exact b102
      apply hK97
      rw [cD, e92, oy]
      refine ⟨_, lmb.f110, by rw [lmb.n47]; exact vp_in_nI gy (by omega), ?_⟩
      rintro _ rfl
      intro K138 hK138
      have e47b : aI SrB 47 (A 47) (nI (g (Y (D - 1)))).toNatClampNeg = if bh (Y (D - 1)) < bh (X (D - 1)) then nI (g (bh (Y (D - 1)) + 1)) else -1 := by rw [nI_clamp (by omega), kb.a (r := 47) rfl]; exact e47
      rw [e47b, if_pos f102]
      by_cases cb : bh (Y (D - 1)) < bh (X (D - 1))
      · have y'N : bh (Y (D - 1)) + 1 ≤ N := by omega
        obtain ⟨aty', gy', owy'⟩ := hr.at (x := bh (Y (D - 1)) + 1) (by omega) y'N
        have ne : ¬ nI (g (bh (Y (D - 1)) + 1)) = -1 := nI_ne_neg (by omega)
        rw [if_pos cb, if_neg ne]
        have e149 : fI SrB 149 (A 9) = nI V := by rw [kj.1]; exact r4.1.2.1
        rw [e149, show (12 : Int32) = nI 12 from rfl]
        by_cases cV : V = 12
        · rw [if_pos (by rw [cV])]
          refine ⟨_, lmb.f106, vx lmb.n43, ?_⟩
          rw [cx, kb.a rfl, hpl' R0 pc T wr sy g ow hr]
          unfold wp_X12_bad
          rw [if_pos f102]
          rintro _ rfl _ rfl
          have e5 : fI (sI (sI SrB 102 (A 9) 5) 103 (A 9) (nI pl)) 102 (A 9) = nI 5 := by simp only [fI_s, fI_sn, fL_s, fL_sn, aI_w, aI_wn, aL_w, aL_wn, fI_sL, fI_wI, fI_wL, fL_sI, fL_wI, fL_wL, aI_sI, aI_sL, aI_wL, aL_sI, aL_sL, aL_wI, fR_sI, fR_sL, fR_wI, fR_wL, aN_sI, aN_sL, aN_wI, aN_wL, ne_eq, Nat.reduceEqDiff, not_false_eq_true]; rfl
          apply hK138
          rw [if_neg (by rw [e5]; decide)]
          show (if (1 : Int32) = 0 then _ else _)
          rw [if_neg (by decide)]
          exact o5 hp cb cV _ ⟨(kb.sI rfl).sI rfl, e5, by simp only [fI_s, fI_sn, fL_s, fL_sn, aI_w, aI_wn, aL_w, aL_wn, fI_sL, fI_wI, fI_wL, fL_sI, fL_wI, fL_wL, aI_sI, aI_sL, aI_wL, aL_sI, aL_sL, aL_wI, fR_sI, fR_sL, fR_wI, fR_wL, aN_sI, aN_sL, aN_wI, aN_wL, ne_eq, Nat.reduceEqDiff, not_false_eq_true]⟩
        · rw [if_neg (fun z => cV ((nI_eq (by have := hE.2.2.2.2; omega) (by omega)).mp z))]
          have hV : V < 12 := by have := hE.2.2.2.2; omega
          apply hK138
          rw [if_pos (by rw [f102]; decide), e47b, if_pos cb, if_neg ne]
          rintro _ rfl _ rfl
          refine ⟨_, lmb.f147, _, lmb.f183, vD lmb.n96, by simp only [fI_s, fI_sn, fL_s, fL_sn, aI_w, aI_wn, aL_w, aL_wn, fI_sL, fI_wI, fI_wL, fL_sI, fL_wI, fL_wL, aI_sI, aI_sL, aI_wL, aL_sI, aL_sL, aL_wI, fR_sI, fR_sL, fR_wI, fR_wL, aN_sI, aN_sL, aN_wI, aN_wL, ne_eq, Nat.reduceEqDiff, not_false_eq_true]; rw [e149, lmb.n76]; exact vp_in_nI hV (by omega), ?_⟩
          rintro _ rfl
          refine ⟨_, lmb.f148, by simp only [fI_s, fI_sn, fL_s, fL_sn, aI_w, aI_wn, aL_w, aL_wn, fI_sL, fI_wI, fI_wL, fL_sI, fL_wI, fL_wL, aI_sI, aI_sL, aI_wL, aL_sI, aL_sL, aL_wI, fR_sI, fR_sL, fR_wI, fR_wL, aN_sI, aN_sL, aN_wI, aN_wL, ne_eq, Nat.reduceEqDiff, not_false_eq_true]; rw [e149, lmb.n77]; exact vp_in_nI hV (by omega), ?_⟩
          rintro _ rfl
          refine ⟨_, lmb.f183, vD lmb.n96, ?_⟩
          rintro _ rfl
          refine ⟨_, lmb.f184, vD lmb.n97, ?_⟩
          rintro _ rfl
          refine ⟨_, lmb.f177, vD lmb.n90, ?_⟩
          rintro _ rfl
          refine ⟨_, lmb.f179, vD lmb.n92, ?_⟩
          rintro _ rfl
          refine ⟨_, lmb.f173, _, lmb.f109, by simp only [fI_s, fI_sn, fL_s, fL_sn, aI_w, aI_wn, aL_w, aL_wn, fI_sL, fI_wI, fI_wL, fL_sI, fL_wI, fL_wL, aI_sI, aI_sL, aI_wL, aL_sI, aL_sL, aL_wI, fR_sI, fR_sL, fR_wI, fR_wL, aN_sI, aN_sL, aN_wI, aN_wL, ne_eq, Nat.reduceEqDiff, not_false_eq_true]; rw [lmb.n46]; exact vp_in_nI gy' (by omega), vD lmb.n86, ?_⟩
          rintro _ rfl
          simp only [fI_s, fI_sn, fL_s, fL_sn, aI_w, aI_wn, aL_w, aL_wn, fI_sL, fI_wI, fI_wL, fL_sI, fL_wI, fL_wL, aI_sI, aI_sL, aI_wL, aL_sI, aL_sL, aL_wI, fR_sI, fR_sL, fR_wI, fR_wL, aN_sI, aN_sL, aN_wI, aN_wL, ne_eq, Nat.reduceEqDiff, not_false_eq_true]
          rw [e149, nI_1, nI_clamp (by omega), nI_clamp (by omega), kb.a (r := 46) rfl, if_neg (by decide)]
          have e96 : aL SrB 96 (A 96) (D - 1) = lN (TB (D - 1)) := by rw [(vr.a (r := 96) (by omega)).2, rv.2.1]; exact g2
          have e97 : aL SrB 97 (A 97) (D - 1) = lN l12 := by rw [(vr.a (r := 97) (by omega)).2, rv.2.2.1]; exact g3
          rw [e96, e97]
          exact oN hp cb hV SrB vr
      · rw [if_neg cb, if_pos rfl]
        apply hK138
        rw [if_pos (by rw [f102]; decide), e47b, if_neg cb, if_pos rfl]
        obtain ⟨oc1, oc2⟩ := oC hp cb SrB vr
        have e165 : fI SrB 165 (A 9) - 1 = nI (cp (pk ks 7) X (D - 1) - 1) := by rw [kj.1, b165, s38, nI_pr (by omega)]
        have e91 : aI SrB 91 (A 91) (D - 1) = nI (VF (D - 2)) := by rw [(vr.a (r := 91) (by omega)).1, rv.1]; exact g1
        rintro _ rfl
        refine ⟨_, lmb.f178, vD lmb.n91, ?_⟩
        rintro _ rfl
        refine ⟨_, lmb.f185, vD lmb.n98, ?_⟩
        rintro _ rfl
        refine ⟨_, lmb.f180, vD lmb.n93, ?_⟩
        rintro _ rfl
        refine ⟨_, lmb.f186, vD lmb.n99, ?_⟩
        rintro _ rfl
        refine ⟨_, lmb.f186, vD lmb.n99, _, lmb.f187, vD lmb.n100, ?_⟩
        simp only [fI_s, fI_sn, fL_s, fL_sn, aI_w, aI_wn, aL_w, aL_wn, fI_sL, fI_wI, fI_wL, fL_sI, fL_wI, fL_wL, aI_sI, aI_sL, aI_wL, aL_sI, aL_sL, aL_wI, fR_sI, fR_sL, fR_wI, fR_wL, aN_sI, aN_sL, aN_wI, aN_wL, ne_eq, Nat.reduceEqDiff, not_false_eq_true]
        rw [e165, e91, vr.2.2.2.2.1, vr.2.2.1, vr.2.2.2.1]
        have ecl : sL (sI (sL (sI (sI SrB 165 (A 9) (nI (cp (pk ks 7) X (D - 1) - 1))) 155 (A 9) (nI (VF (D - 2)))) 157 (A 9) (lN l)) 158 (A 9) (aI SrB 93 (A 93) (D - 1))) 156 (A 9) (lN fe) = clR SrB A (cp (pk ks 7) X (D - 1)) (VF (D - 2)) fe l (aI SrB 93 (A 93) (D - 1)) := rfl
        rw [ecl]
        have e188 : fI (clR SrB A (cp (pk ks 7) X (D - 1)) (VF (D - 2)) fe l (aI SrB 93 (A 93) (D - 1))) 188 (A 9) = nI D := by unfold clR; simp only [fI_s, fI_sn, fL_s, fL_sn, aI_w, aI_wn, aL_w, aL_wn, fI_sL, fI_wI, fI_wL, fL_sI, fL_wI, fL_wL, aI_sI, aI_sL, aI_wL, aL_sI, aL_sL, aL_wI, fR_sI, fR_sL, fR_wI, fR_wL, aN_sI, aN_sL, aN_wI, aN_wL, ne_eq, Nat.reduceEqDiff, not_false_eq_true]; rw [kj.1]; exact b188
        by_cases cl : le ≤ fe
        · rw [if_pos ((lN_leq (by omega) (by omega)).mpr cl), if_pos trivial]
          apply hK
          rintro _ rfl
          rw [e188, nI_pr a3]
          exact oc1 cl
        · rw [if_neg (fun z => cl ((lN_leq (by omega) (by omega)).mp z))]
          have lmc : LayM (clR SrB A (cp (pk ks 7) X (D - 1)) (VF (D - 2)) fe l (aI SrB 93 (A 93) (D - 1))) A := lmb.st rfl
          refine ⟨_, lmb.f187, vD lmb.n100, _, lmb.f186, vD lmb.n99, ?_⟩
          have e100 : aL (clR SrB A (cp (pk ks 7) X (D - 1)) (VF (D - 2)) fe l (aI SrB 93 (A 93) (D - 1))) 100 (A 100) (D - 1) = lN le := by unfold clR; simp only [fI_s, fI_sn, fL_s, fL_sn, aI_w, aI_wn, aL_w, aL_wn, fI_sL, fI_wI, fI_wL, fL_sI, fL_wI, fL_wL, aI_sI, aI_sL, aI_wL, aL_sI, aL_sL, aL_wI, fR_sI, fR_sL, fR_wI, fR_wL, aN_sI, aN_sL, aN_wI, aN_wL, ne_eq, Nat.reduceEqDiff, not_false_eq_true]; exact vr.2.2.2.1
          have e99 : aL (clR SrB A (cp (pk ks 7) X (D - 1)) (VF (D - 2)) fe l (aI SrB 93 (A 93) (D - 1))) 99 (A 99) (D - 1) = lN fe := by unfold clR; simp only [fI_s, fI_sn, fL_s, fL_sn, aI_w, aI_wn, aL_w, aL_wn, fI_sL, fI_wI, fI_wL, fL_sI, fL_wI, fL_wL, aI_sI, aI_sL, aI_wL, aL_sI, aL_sL, aL_wI, fR_sI, fR_sL, fR_wI, fR_wL, aN_sI, aN_sL, aN_wI, aN_wL, ne_eq, Nat.reduceEqDiff, not_false_eq_true]; exact vr.2.2.1
          rw [vr.2.2.2.1, vr.2.2.1]
          exact oc2 cl _ (fun S23 z => by
            show (if _ then _ else _)
            rw [if_pos trivial]
            exact hK _ z)
    by_cases ef : Y (D - 1) = X (D - 1) + 1
    · rw [if_pos (by rw [gxy.mpr ef])]
      obtain ⟨q1, q2, q3, q4⟩ := hfst ef
      refine ⟨_, lm.f186, vD lm.n99, ?_⟩
      rintro _ rfl
      refine ⟨_, lm.f187, vD lm.n100, ?_⟩
      rintro _ rfl
      refine ⟨_, lm.f185, vD lm.n98, ?_⟩
      rintro _ rfl
      refine ⟨_, lm.f180, vD lm.n93, ?_⟩
      rintro _ rfl
      simp only [fI_s, fI_sn, fL_s, fL_sn, aI_w, aI_wn, aL_w, aL_wn, fI_sL, fI_wI, fI_wL, fL_sI, fL_wI, fL_wL, aI_sI, aI_sL, aI_wL, aL_sI, aL_sL, aL_wI, fR_sI, fR_sL, fR_wI, fR_wL, aN_sI, aN_sL, aN_wI, aN_wL, ne_eq, Nat.reduceEqDiff, not_false_eq_true]
      try rw [cD]
      rw [b156, s28, b157, s29]
      refine main (fun z => absurd ef z) _ ⟨(((Keep.rf.wL rfl).wL rfl).wL rfl).wI rfl, fun r i hi => ?_, ?_, ?_, ?_, fun z => ?_⟩
      · exact ⟨by simp only [aI_wI, aI_wL, hi, and_false, if_false], by simp only [aL_wI, aL_wL, hi, and_false, if_false]⟩
      · simp only [fI_s, fI_sn, fL_s, fL_sn, aI_w, aI_wn, aL_w, aL_wn, fI_sL, fI_wI, fI_wL, fL_sI, fL_wI, fL_wL, aI_sI, aI_sL, aI_wL, aL_sI, aL_sL, aL_wI, fR_sI, fR_sL, fR_wI, fR_wL, aN_sI, aN_sL, aN_wI, aN_wL, ne_eq, Nat.reduceEqDiff, not_false_eq_true]; rw [uq_at, q1]
      · simp only [fI_s, fI_sn, fL_s, fL_sn, aI_w, aI_wn, aL_w, aL_wn, fI_sL, fI_wI, fI_wL, fL_sI, fL_wI, fL_wL, aI_sI, aI_sL, aI_wL, aL_sI, aL_sL, aL_wI, fR_sI, fR_sL, fR_wI, fR_wL, aN_sI, aN_sL, aN_wI, aN_wL, ne_eq, Nat.reduceEqDiff, not_false_eq_true]; rw [uq_at, q2]
      · simp only [fI_s, fI_sn, fL_s, fL_sn, aI_w, aI_wn, aL_w, aL_wn, fI_sL, fI_wI, fI_wL, fL_sI, fL_wI, fL_wL, aI_sI, aI_sL, aI_wL, aL_sI, aL_sL, aL_wI, fR_sI, fR_sL, fR_wI, fR_wL, aN_sI, aN_sL, aN_wI, aN_wL, ne_eq, Nat.reduceEqDiff, not_false_eq_true]; rw [uq_at, q3]
      · simp only [fI_s, fI_sn, fL_s, fL_sn, aI_w, aI_wn, aL_w, aL_wn, fI_sL, fI_wI, fI_wL, fL_sI, fL_wI, fL_wL, aI_sI, aI_sL, aI_wL, aL_sI, aL_sL, aL_wI, fR_sI, fR_sL, fR_wI, fR_wL, aN_sI, aN_sL, aN_wI, aN_wL, ne_eq, Nat.reduceEqDiff, not_false_eq_true]; rw [uq_at, b158 (by rw [c3e]; exact z), s30, q4]
    · rw [if_neg (fun z => ef (gxy.mp ((nI_eq (by omega) (by have := (hr.at (x := X (D - 1) + 1) (by omega) (by have := ty.1; omega)).2.1; omega)).mp z)))]
      obtain ⟨le0, n1, n2, n3, n4, n5, n6⟩ := hnf ef
      refine r_endOfVoice (S := S) (V := V) (E := E) lm b102 (by rw [b155]; exact s27) hv hE.2.2.2.2 hE.2.1 (r4.2.2.1 _ hv) (fun zt => ?_) (fun tp z1 z2 => ?_) tpx
      · obtain ⟨t1, t2, t3, t4⟩ := rv.2.2.2.2 ef
        rw [e2] at t4
        refine ⟨_, lm.f187, _, lm.f187, vD lm.n100, ?_⟩
        intro K96 hK96
        rw [b156, s28]
        have e100 : aL Sr 100 (A 100) (D - 1) = lN le0 := by rw [t2]; exact n2
        try rw [cD]
        rw [e100]
        have fin : ∀ z : Nat, z = (if t ≤ le0 then le0 else t) → K96 (A 100) (nI (D - 1)) (lN z) Sr := by
          intro z hz
          apply hK96
          refine ⟨vD lm.n100, ?_⟩
          rintro _ rfl
          rw [cD]
          refine main (fun _ => zt) _ ⟨Keep.rf.wL rfl, fun r i hi => ?_, ?_, ?_, ?_, fun y => ?_⟩
          · exact ⟨rfl, by simp only [aL_wL, hi, and_false, if_false]⟩
          · simp only [fI_s, fI_sn, fL_s, fL_sn, aI_w, aI_wn, aL_w, aL_wn, fI_sL, fI_wI, fI_wL, fL_sI, fL_wI, fL_wL, aI_sI, aI_sL, aI_wL, aL_sI, aL_sL, aL_wI, fR_sI, fR_sL, fR_wI, fR_wL, aN_sI, aN_sL, aN_wI, aN_wL, ne_eq, Nat.reduceEqDiff, not_false_eq_true]; rw [t1]; exact n1
          · simp only [fI_s, fI_sn, fL_s, fL_sn, aI_w, aI_wn, aL_w, aL_wn, fI_sL, fI_wI, fI_wL, fL_sI, fL_wI, fL_wL, aI_sI, aI_sL, aI_wL, aL_sI, aL_sL, aL_wI, fR_sI, fR_sL, fR_wI, fR_wL, aN_sI, aN_sL, aN_wI, aN_wL, ne_eq, Nat.reduceEqDiff, not_false_eq_true]; rw [uq_at, n3, hz]
          · simp only [fI_s, fI_sn, fL_s, fL_sn, aI_w, aI_wn, aL_w, aL_wn, fI_sL, fI_wI, fI_wL, fL_sI, fL_wI, fL_wL, aI_sI, aI_sL, aI_wL, aL_sI, aL_sL, aL_wI, fR_sI, fR_sL, fR_wI, fR_wL, aN_sI, aN_sL, aN_wI, aN_wL, ne_eq, Nat.reduceEqDiff, not_false_eq_true]; rw [t3]; exact n5
          · simp only [fI_s, fI_sn, fL_s, fL_sn, aI_w, aI_wn, aL_w, aL_wn, fI_sL, fI_wI, fI_wL, fL_sI, fL_wI, fL_wL, aI_sI, aI_sL, aI_wL, aL_sI, aL_sL, aL_wI, fR_sI, fR_sL, fR_wI, fR_wL, aN_sI, aN_sL, aN_wI, aN_wL, ne_eq, Nat.reduceEqDiff, not_false_eq_true]; rw [t4 y]; exact n6
        by_cases y : t ≤ le0
        · rw [if_pos ((lN_leq (by omega) (by omega)).mpr y)]
          refine ⟨_, lm.f187, vD lm.n100, ?_⟩
          try rw [cD]
          rw [e100]
          exact fin le0 (by rw [if_pos y])
        · rw [if_neg (fun z => y ((lN_leq (by omega) (by omega)).mp z))]
          exact fin t (by rw [if_neg y])
      · have kb : KPf R0 (sI (sI Sr 102 (A 9) 6) 103 (A 9) (nI tp)) := (r1.sI rfl).sI rfl
        have lmb := kb.lay hr.1
        refine ⟨_, lmb.f187, _, lmb.f187, vD lmb.n100, ?_⟩
        intro K96 hK96
        have fin : ∀ z : Int64, K96 (A 100) (nI (D - 1)) z (sI (sI Sr 102 (A 9) 6) 103 (A 9) (nI tp)) := by
          intro z
          apply hK96
          refine ⟨vD lmb.n100, ?_⟩
          rintro _ rfl
          refine flt 6 _ (kdm (by decide) (by decide)) (kb.wL rfl) (by simp only [fI_s, fI_sn, fL_s, fL_sn, aI_w, aI_wn, aL_w, aL_wn, fI_sL, fI_wI, fI_wL, fL_sI, fL_wI, fL_wL, aI_sI, aI_sL, aI_wL, aL_sI, aL_sL, aL_wI, fR_sI, fR_sL, fR_wI, fR_wL, aN_sI, aN_sL, aN_wI, aN_wL, ne_eq, Nat.reduceEqDiff, not_false_eq_true]; rfl) ?_
          exact o6 ef tp z1 z2 _ ⟨kb.wL rfl, by simp only [fI_s, fI_sn, fL_s, fL_sn, aI_w, aI_wn, aL_w, aL_wn, fI_sL, fI_wI, fI_wL, fL_sI, fL_wI, fL_wL, aI_sI, aI_sL, aI_wL, aL_sI, aL_sL, aL_wI, fR_sI, fR_sL, fR_wI, fR_wL, aN_sI, aN_sL, aN_wI, aN_wL, ne_eq, Nat.reduceEqDiff, not_false_eq_true]; rfl, by simp only [fI_s, fI_sn, fL_s, fL_sn, aI_w, aI_wn, aL_w, aL_wn, fI_sL, fI_wI, fI_wL, fL_sI, fL_wI, fL_wL, aI_sI, aI_sL, aI_wL, aL_sI, aL_sL, aL_wI, fR_sI, fR_sL, fR_wI, fR_wL, aN_sI, aN_sL, aN_wI, aN_wL, ne_eq, Nat.reduceEqDiff, not_false_eq_true]⟩
        split
        · exact ⟨_, lmb.f187, vD lmb.n100, fin _⟩
        · exact fin _
  -- the class after its frame tells of the music
  have cls : ∀ SB fe le l q, VEc S SB F (D - 1) fe le l q → Kws (PW A S0) S0 SB → TB (D - 1) ≤ fe → fe ≤ le → le ≤ 3870720000 → 1 ≤ l → l ≤ 3870720000 → lpb q st → (Y (D - 1) ≠ X (D - 1) + 1 → aI S 38 (A 38) (VF (D - 1)) = -1) → (Y (D - 1) = X (D - 1) + 1 → fe = t ∧ le = t ∧ l = ln ∧ q = lp) → (Y (D - 1) ≠ X (D - 1) + 1 → HNf S F (D - 1) t fe le l q) →
      (∀ v4, v4 = fI SB 4 (F (D - 1)) → (∃ b5, fR SB 21 (A 3) = some b5 ∧ wp_X6_behind b5 (fI SB 2 (F (D - 1))) SB (fun (r7 : Int32) (S6 : PS) => 
 (if v4 < r7 then
 (∃ b8, fR S6 25 (A 3) = some b8 ∧ (if fI S6 79 b8 < 12 then
 (∃ b9, fR S6 25 (A 3) = some b9 ∧ wp_X8_addVoice b9 (fL S6 11 (F (D - 1))) S6 (fun (r11 : Int32) (S10 : PS) => 
 (∀ S12, S12 = sI S10 27 (A 3) r11 → (∀ S13, S13 = sL S12 28 (A 3) (fL S12 11 (F (D - 1))) → (∀ S14, S14 = sL S13 29 (A 3) (fL S13 12 (F (D - 1))) → (∀ S15, S15 = sI S14 30 (A 3) (fI S14 6 (F (D - 1))) → (∀ S16, S16 = sI S15 3 (F (D - 1)) (v4 + 1) → (∃ b17, fR S16 21 (A 3) = some b17 ∧ wp_X6_behind b17 v4 S16 (fun (r19 : Int32) (S18 : PS) => 
 (∀ S20, S20 = sI S18 4 (F (D - 1)) r19 → Q 1 S20))))))))))
 else
 wp_X3_tell (A 3) 5 (fI S6 2 (F (D - 1))) S6 (fun (r22 : Int32) (S21 : PS) => 
 Q r22 S21)))
 else
 wp_X3_closeVoices (A 3) (F (D - 1)) S6 (fun (r24 : Int32) (S23 : PS) => 
 Q r24 S23))))) := by
    intro SB fe le l q ve kw h1 h2 h3 h4 h5 h6 hp hfst hnf
    have plb : PfL SB A := a2.st ve.1.1
    have pab : PfA SB A D m F := a4.st ve.1.1
    have hpgb := sc.pg kw plb
    have jj : ∀ j, j < 13 ∨ 16 < j → fI SB j = fI S j ∧ fL SB j = fL S j := fun j hj => ve.j (j := j) hj
    have no6 : Y (D - 1) ≠ X (D - 1) + 1 → ∀ tp, aI S 38 (A 38) (VF (D - 1)) = nI tp → ¬ aI S 38 (A 38) (VF (D - 1)) ≠ -1 := fun z tp _ y => y (hp z)
    have c3' : fI S 4 (F (D - 1)) = nI (bh (Y (D - 1))) := by rw [c3, bn_pos y1]
    rintro _ rfl
    rw [(jj 4 (by omega)).1, (jj 2 (by omega)).1, c1, c3']
    refine ⟨_, plb.1, s_behind hpgb (by omega) ?_⟩
    rw [h17 _ x1 x2]
    have bb := tx.2.1
    have bby := ty.2.1
    have hbN : bh (X (D - 1)) ≤ N := by omega
    have hbyX : bh (Y (D - 1)) ≤ bh (X (D - 1)) := by
      have := ty.2.2.1
      rw [y2, bn_pos x1] at this; exact this
    have hN31 := sc.2.2.1.1
    have e79 : fI SB 79 (A 7) = nI V := by rw [(jj 79 (by omega)).1]; exact hE.2.2.1
    by_cases cb : bh (Y (D - 1)) < bh (X (D - 1))
    · rw [if_pos ((nI_lt_iff (by omega) (by omega)).mpr cb)]
      refine ⟨_, plb.2.2.2.1, ?_⟩
      rw [e79, show (12 : Int32) = nI 12 from rfl]
      by_cases cV : V < 12
      · rw [if_pos ((nI_lt_iff (by omega) (by omega)).mpr cV)]
        refine ⟨_, plb.2.2.2.1, ?_⟩
        unfold wp_X8_addVoice
        rintro _ rfl
        rw [e79, if_neg (fun z => by rw [show (12 : Int32) = nI 12 from rfl, nI_le_iff (by omega) (by omega)] at z; omega)]
        rintro _ rfl
        have ls := plb.2.2.2.2.2
        refine ⟨_, ls.f80, by rw [show aN (sI SB 79 (A 7) _) (A 36) = 12 from ls.n36]; exact vp_in_nI (by omega) (by omega), ?_⟩
        rintro _ rfl
        refine ⟨_, ls.f81, by rw [show aN (wL (sI SB 79 (A 7) _) 36 _ _ _) (A 37) = 12 from ls.n37]; exact vp_in_nI (by omega) (by omega), ?_⟩
        rintro _ rfl
        refine ⟨_, ls.f82, by rw [show aN (wI (wL (sI SB 79 (A 7) _) 36 _ _ _) 37 _ _ _) (A 38) = 12 from ls.n38]; exact vp_in_nI (by omega) (by omega), ?_⟩
        rintro _ rfl _ rfl _ rfl _ rfl _ rfl _ rfl
        refine ⟨_, plb.1, ?_⟩
        have kw16 : ∀ z1 z2 z3 z4 z5 z6 z7 z8 z9, Kws (PW A S0) S0 (sI (sI (sL (sL (sI (wI (wI (wL (sI SB 79 (A 7) z1) 36 (A 36) z9 z2) 37 (A 37) z9 z3) 38 (A 38) z9 z3) 27 (A 3) z4) 28 (A 3) z5) 29 (A 3) z6) 30 (A 3) z7) 3 (F (D - 1)) z8) := fun z1 z2 z3 z4 z5 z6 z7 z8 z9 => (((((((((kw.sI (PW.at rfl)).wL (PW.at rfl)).wI (PW.at rfl)).wI (PW.at rfl)).sI (PW.at rfl)).sL (PW.at rfl)).sL (PW.at rfl)).sI (PW.at rfl)).sI wk)
        refine s_behind (sc.pg (kw16 _ _ _ _ _ _ _ _ _) (plb.st rfl)) (by omega) ?_
        have h17' := h17 (bh (Y (D - 1)) + 1) (by omega) (by omega)
        rw [Nat.add_sub_cancel] at h17'
        rw [h17']
        rintro _ rfl
        have e11 : fL SB 11 (F (D - 1)) = lN (TB (D - 1)) := by rw [(jj 11 (by omega)).2]; exact g2
        have e12 : fL SB 12 (F (D - 1)) = lN l12 := by rw [(jj 12 (by omega)).2]; exact g3
        have e6 : fI SB 6 (F (D - 1)) = iJ l6 := by rw [(jj 6 (by omega)).1]; exact g4
        simp only [fI_s, fI_sn, fL_s, fL_sn, aI_w, aI_wn, aL_w, aL_wn, fI_sL, fI_wI, fI_wL, fL_sI, fL_wI, fL_wL, aI_sI, aI_sL, aI_wL, aL_sI, aL_sL, aL_wI, fR_sI, fR_sL, fR_wI, fR_wL, aN_sI, aN_sL, aN_wI, aN_wL, ne_eq, Nat.reduceEqDiff, not_false_eq_true]
        rw [e11, e12, e6, nI_1, nI_1, nI_clamp (by omega)]
        refine hN cV _ _ _ _ _ (cpf_nx sc h' hD hk ve kw h1 h2 h3 h4 h5 h6 hp ⟨g3, lb1, lb2⟩ ⟨g4, g4b⟩ cV cb) ?_
        intro R0 pc T wr sy g ow hr Sr rp Q2 hQ2
        refine ref fe le l q hfst hnf R0 pc T wr sy g ow hr Sr rp Q2 (fun z tp y1 y2 => absurd y2 (no6 z tp y1)) (fun _ _ z => by omega) (fun _ _ _ SrB vr => hQ2 _ ?_) (fun _ z => absurd cb z) (by omega) h3
        have y'N : bh (Y (D - 1)) + 1 ≤ N := by omega
        have py : par (bh (Y (D - 1)) + 1) = X (D - 1) := by
          have := s5.2.2 (Y (D - 1)) y1 yN (by rw [y2, bn_pos x1]; exact cb)
          rw [this, y2]
        have ky' : ks (bh (Y (D - 1)) + 1) = 11 := ((s6 _ (by omega) y'N).1).mpr ⟨by omega, Or.inl (by rw [py]; exact hk)⟩
        exact rpf_nx hr h' rp hD hk ve vr g3 g4 cV y'N (hr.o11 (by omega) y'N (Or.inl ky')) (by have := ty.1; omega)
      · rw [if_neg (fun z => cV ((nI_lt_iff (by have := hE.2.2.2.2; omega) (by omega)).mp z))]
        have V12 : V = 12 := by have := hE.2.2.2.2; omega
        unfold wp_X3_tell
        refine ⟨_, plb.2.1, _, plb.1, ?_⟩
        rw [(jj 2 (by omega)).1, c1]
        refine s_placeOf hpgb (by omega) ?_
        rw [pl2]
        refine s_tell ?_
        refine hF _ (5, pl) (CBad.mk (kdm (by decide) (by decide)) kw plb pab) ?_
        intro R0 pc T wr sy g ow hr Sr rp Q2 hQ2
        exact ref fe le l q hfst hnf R0 pc T wr sy g ow hr Sr rp Q2 (fun z tp y1 y2 => absurd y2 (no6 z tp y1)) (fun _ _ _ Sr1 rb => hQ2 Sr1 rb) (fun _ _ z => absurd z cV) (fun _ z => absurd cb z) (by omega) h3
    · rw [if_neg (fun z => cb ((nI_lt_iff (by omega) (by omega)).mp z))]
      have cc := cpf_cl sc h' hD hk ve kw h1 (by omega) h4 h5 h6 hp
      unfold wp_X3_closeVoices
      rintro _ rfl _ rfl _ rfl _ rfl _ rfl _ rfl _ rfl
      refine ⟨_, plb.1, ?_⟩
      have e24 : fI SB 24 (A 3) - 1 = nI (D - 1) := by rw [(jj 24 (by omega)).1, s24, nI_pr (by omega)]
      have e38 : fI SB 38 (A 3) - 1 = nI (cp (pk ks 7) X (D - 1) - 1) := by rw [(jj 38 (by omega)).1, s38, nI_pr (by omega)]
      have e10 : fI SB 10 (F (D - 1)) = nI (VF (D - 2)) := by rw [(jj 10 (by omega)).1]; exact g1
      have eb2 : fI SB 2 (F (D - 1)) = nI (X (D - 1) - 1) := by rw [(jj 2 (by omega)).1]; exact c1
      simp only [fI_s, fI_sn, fL_s, fL_sn, aI_w, aI_wn, aL_w, aL_wn, fI_sL, fI_wI, fI_wL, fL_sI, fL_wI, fL_wL, aI_sI, aI_sL, aI_wL, aL_sI, aL_sL, aL_wI, fR_sI, fR_sL, fR_wI, fR_wL, aN_sI, aN_sL, aN_wI, aN_wL, ne_eq, Nat.reduceEqDiff, not_false_eq_true]
      rw [e24, e38, e10, ve.2.2.1, ve.2.2.2.2.1, ve.2.2.2.2.2, ve.2.2.2.1, eb2]
      have ecl : sI (sL (sL (sI (sI (sI SB 24 (A 3) (nI (D - 1))) 38 (A 3) (nI (cp (pk ks 7) X (D - 1) - 1))) 27 (A 3) (nI (VF (D - 2)))) 28 (A 3) (lN fe)) 29 (A 3) (lN l)) 30 (A 3) (iJ q) = clC SB A D (cp (pk ks 7) X (D - 1)) (VF (D - 2)) fe l q := rfl
      rw [ecl]
      refine s_placeOf (sc.pg cc.1 cc.2.1) (by omega) ?_
      rw [pl2, lN_sub h2, show (0 : Int64) = lN 0 from rfl]
      have rpc : ∀ {R0 sy g ow Sr SrB}, RPf S Sr S0 R0 A B n sy N bh ks g ow D E V M X Y C H F → VEr Sr SrB A (D - 1) fe le l q (0 < cp (pk ks 3) X (D - 2)) → RPf (clC SB A D (cp (pk ks 7) X (D - 1)) (VF (D - 2)) fe l q) (sI (clR SrB A (cp (pk ks 7) X (D - 1)) (VF (D - 2)) fe l (aI SrB 93 (A 93) (D - 1))) 188 (A 9) (nI (D - 1))) S0 R0 A B n sy N bh ks g ow (D - 1) E V M X Y C H F := fun rp vr => rpf_cl h' rp hD hk ve vr
      generalize clC SB A D (cp (pk ks 7) X (D - 1)) (VF (D - 2)) fe l q = SC at cc rpc
      by_cases cl : le ≤ fe
      · rw [if_pos (by rw [show le - fe = 0 by omega])]
        refine hP _ _ _ _ _ cc ?_
        intro R0 pc T wr sy g ow hr Sr rp Q2 hQ2
        exact ref fe le l q hfst hnf R0 pc T wr sy g ow hr Sr rp Q2 (fun z tp y1 y2 => absurd y2 (no6 z tp y1)) (fun _ z => absurd z cb) (fun _ z => absurd z cb) (fun _ _ SrB vr => ⟨fun _ => hQ2 _ (rpc rp vr), fun z => absurd cl z⟩) (by omega) h3
      · rw [if_neg (fun z => by rw [lN_eqq (by omega) (by omega)] at z; omega)]
        obtain ⟨d1, d2, ⟨d3, d4⟩, d5, d6, d7, ⟨dv0, dv1, dv2⟩, d9, d10⟩ := id cc
        have dhE := d10.1
        have d27 : fI SC 27 (A 3) = nI (VF (D - 2)) := by rw [d5.2.2.1, e2]
        have hu1 : (le - fe) % 1 = 0 := by omega
        have hu2 : (le - fe) / 1 = le - fe := by omega
        -- the reference's event
        have evt : ∀ R0 pc T wr sy g ow, RSR S0 R0 A B n N nd bh par ks pc T wr sy g ow → ∀ Sr, RPf S Sr S0 R0 A B n sy N bh ks g ow D E V M X Y C H F → ∀ Q2 : PS → Prop,
            (¬ Ltie SC A (VF (D - 2)) 0 → ∀ tp, aI SC 38 (A 38) (VF (D - 2)) = nI tp → ∀ Sr1, RBad R0 Sr1 A (6, tp) → Q2 Sr1) →
            (Ltie SC A (VF (D - 2)) 0 → ¬ (E < 300 ∧ fe + (le - fe) ≤ 3870720000) → ∀ Sr1, RBad R0 Sr1 A (5, pl) → Q2 Sr1) →
            (Ltie SC A (VF (D - 2)) 0 → E < 300 → fe + (le - fe) ≤ 3870720000 → ∀ Sr1 Sr2, RPf SC Sr1 S0 R0 A B n sy N bh ks g ow (D - 1) E V M X Y C H F → AddR Sr1 Sr2 A E (VF (D - 2)) fe (le - fe) 0 (fun _ => 0) (if aI SC 38 (A 38) (VF (D - 2)) = -1 then 0 else 1) 0 pl → Q2 Sr2) →
            wp_X12_leave (A 9) (nI (D - 1)) (nI (g (X (D - 1)))) Sr Q2 := by
          intro R0 pc T wr sy g ow hr Sr rp Q2 b6 b5 b1
          refine ref fe le l q hfst hnf R0 pc T wr sy g ow hr Sr rp Q2 (fun z tp y1 y2 => absurd y2 (no6 z tp y1)) (fun _ z => absurd z cb) (fun _ z => absurd z cb) (fun _ _ SrB vr => ⟨fun z => absurd z cl, fun _ K hK => ?_⟩) (by omega) h3
          obtain ⟨at1, gx, owx⟩ := hr.at x1 x2
          have rq := rpc rp vr
          have kc : KPf R0 (clR SrB A (cp (pk ks 7) X (D - 1)) (VF (D - 2)) fe l (aI SrB 93 (A 93) (D - 1))) := (((((vr.k rp.1).sI rfl).sI rfl).sL rfl).sI rfl).sL rfl
          have f188 : fI (clR SrB A (cp (pk ks 7) X (D - 1)) (VF (D - 2)) fe l (aI SrB 93 (A 93) (D - 1))) 188 (A 9) = nI D := by unfold clR; simp only [fI_s, fI_sn, fL_s, fL_sn, aI_w, aI_wn, aL_w, aL_wn, fI_sL, fI_wI, fI_wL, fL_sI, fL_wI, fL_wL, aI_sI, aI_sL, aI_wL, aL_sI, aL_sL, aL_wI, fR_sI, fR_sL, fR_wI, fR_wL, aN_sI, aN_sL, aN_wI, aN_wL, ne_eq, Nat.reduceEqDiff, not_false_eq_true]; rw [vr.j.1]; exact rp.2.1.2.1
          have f102 : fI (clR SrB A (cp (pk ks 7) X (D - 1)) (VF (D - 2)) fe l (aI SrB 93 (A 93) (D - 1))) 102 (A 9) = 0 := by unfold clR; simp only [fI_s, fI_sn, fL_s, fL_sn, aI_w, aI_wn, aL_w, aL_wn, fI_sL, fI_wI, fI_wL, fL_sI, fL_wI, fL_wL, aI_sI, aI_sL, aI_wL, aL_sI, aL_sL, aL_wI, fR_sI, fR_sL, fR_wI, fR_wL, aN_sI, aN_sL, aN_wI, aN_wL, ne_eq, Nat.reduceEqDiff, not_false_eq_true]; rw [vr.j.1]; exact rp.2.1.1
          have f155 : fI (clR SrB A (cp (pk ks 7) X (D - 1)) (VF (D - 2)) fe l (aI SrB 93 (A 93) (D - 1))) 155 (A 9) = nI (VF (D - 2)) := by unfold clR; simp only [fI_s, fI_sn, fL_s, fL_sn, aI_w, aI_wn, aL_w, aL_wn, fI_sL, fI_wI, fI_wL, fL_sI, fL_wI, fL_wL, aI_sI, aI_sL, aI_wL, aL_sI, aL_sL, aL_wI, fR_sI, fR_sL, fR_wI, fR_wL, aN_sI, aN_sL, aN_wI, aN_wL, ne_eq, Nat.reduceEqDiff, not_false_eq_true]
          have f156 : fL (clR SrB A (cp (pk ks 7) X (D - 1)) (VF (D - 2)) fe l (aI SrB 93 (A 93) (D - 1))) 156 (A 9) = lN fe := by unfold clR; simp only [fI_s, fI_sn, fL_s, fL_sn, aI_w, aI_wn, aL_w, aL_wn, fI_sL, fI_wI, fI_wL, fL_sI, fL_wI, fL_wL, aI_sI, aI_sL, aI_wL, aL_sI, aL_sL, aL_wI, fR_sI, fR_sL, fR_wI, fR_wL, aN_sI, aN_sL, aN_wI, aN_wL, ne_eq, Nat.reduceEqDiff, not_false_eq_true]
          generalize clR SrB A (cp (pk ks 7) X (D - 1)) (VF (D - 2)) fe l (aI SrB 93 (A 93) (D - 1)) = RC at rq kc f188 f102 f155 f156
          have rn : RpN SC RC R0 A B n sy E V M := rq.2.2.2.eq EqE.rf EqM.rf ⟨⟨by simp only [fI_s, fI_sn, fL_s, fL_sn, aI_w, aI_wn, aL_w, aL_wn, fI_sL, fI_wI, fI_wL, fL_sI, fL_wI, fL_wL, aI_sI, aI_sL, aI_wL, aL_sI, aL_sL, aL_wI, fR_sI, fR_sL, fR_wI, fR_wL, aN_sI, aN_sL, aN_wI, aN_wL, ne_eq, Nat.reduceEqDiff, not_false_eq_true], by simp only [fI_s, fI_sn, fL_s, fL_sn, aI_w, aI_wn, aL_w, aL_wn, fI_sL, fI_wI, fI_wL, fL_sI, fL_wI, fL_wL, aI_sI, aI_sL, aI_wL, aL_sI, aL_sL, aL_wI, fR_sI, fR_sL, fR_wI, fR_wL, aN_sI, aN_sL, aN_wI, aN_wL, ne_eq, Nat.reduceEqDiff, not_false_eq_true], by simp only [fI_s, fI_sn, fL_s, fL_sn, aI_w, aI_wn, aL_w, aL_wn, fI_sL, fI_wI, fI_wL, fL_sI, fL_wI, fL_wL, aI_sI, aI_sL, aI_wL, aL_sI, aL_sL, aL_wI, fR_sI, fR_sL, fR_wI, fR_wL, aN_sI, aN_sL, aN_wI, aN_wL, ne_eq, Nat.reduceEqDiff, not_false_eq_true]⟩, fun r _ _ => ⟨by simp only [fI_s, fI_sn, fL_s, fL_sn, aI_w, aI_wn, aL_w, aL_wn, fI_sL, fI_wI, fI_wL, fL_sI, fL_wI, fL_wL, aI_sI, aI_sL, aI_wL, aL_sI, aL_sL, aL_wI, fR_sI, fR_sL, fR_wI, fR_wL, aN_sI, aN_sL, aN_wI, aN_wL, ne_eq, Nat.reduceEqDiff, not_false_eq_true], by simp only [fI_s, fI_sn, fL_s, fL_sn, aI_w, aI_wn, aL_w, aL_wn, fI_sL, fI_wI, fI_wL, fL_sI, fL_wI, fL_wL, aI_sI, aI_sL, aI_wL, aL_sI, aL_sL, aL_wI, fR_sI, fR_sL, fR_wI, fR_wL, aN_sI, aN_sL, aN_wI, aN_wL, ne_eq, Nat.reduceEqDiff, not_false_eq_true]⟩⟩
          have bad : ∀ e Sr1, RBad R0 Sr1 A e → (∀ Sr2, RBad R0 Sr2 A e → Q2 Sr2) → K Sr1 := fun e Sr1 rb hb => hK _ (fun S4 h4 => hb _ (by
            subst h4
            exact ⟨rb.1.sI rfl, by simp only [fI_s, fI_sn, fL_s, fL_sn, aI_w, aI_wn, aL_w, aL_wn, fI_sL, fI_wI, fI_wL, fL_sI, fL_wI, fL_wL, aI_sI, aI_sL, aI_wL, aL_sI, aL_sL, aL_wI, fR_sI, fR_sL, fR_wI, fR_wL, aN_sI, aN_sL, aN_wI, aN_wL, ne_eq, Nat.reduceEqDiff, not_false_eq_true]; exact rb.2.1, by simp only [fI_s, fI_sn, fL_s, fL_sn, aI_w, aI_wn, aL_w, aL_wn, fI_sL, fI_wI, fI_wL, fL_sI, fL_wI, fL_wL, aI_sI, aI_sL, aI_wL, aL_sI, aL_sL, aL_wI, fR_sI, fR_sL, fR_wI, fR_wL, aN_sI, aN_sL, aN_wI, aN_wL, ne_eq, Nat.reduceEqDiff, not_false_eq_true]; exact rb.2.2⟩))
          rw [lN_sub h2, show (1 : Int64) = lN 1 from rfl]
          refine r_evt2 (c := 0) (cs := fun _ => 0) (w := 0) (v := VF (D - 2)) (t := fe) (up := le - fe) (dn := 1) hr.1 d10 hv2 kc f102 f155 f156 (by omega) rn gx (hpl' R0 pc T wr sy g ow hr) Pch0 (Or.inl rfl) (fun k hk => by omega) (by omega) (by omega) (by omega) (fun z tp z2 Sr1 rb => bad _ _ rb (b6 z tp z2)) (fun _ z => absurd ⟨hu1, by rw [hu2]; omega⟩ z) (fun z _ _ z5 Sr1 rb => bad _ _ rb (b5 z (by rw [hu2] at z5; exact z5))) (fun z _ _ z3 z4 Sr1 ar => hK _ (fun S4 h4 => ?_))
          subst h4
          rw [hu2] at ar z4
          rw [(ar.1.2.1 188 rfl).1, f188, nI_pr (by omega)]
          exact b1 z z3 z4 _ _ rq (AddR.up ar)
        refine s_keepTie cc.2.1 d10 d27 hv2 hn (fun hL => ?_) (fun hL tp tp1 tp2 => ?_)
        · rw [if_neg (by decide)]
          refine s_append (V := V) (E := E) (v := VF (D - 2)) (tm := fe) d2 dhE.2.2.1 hv2 dhE.2.2.2.2 dhE.1 dhE.2.1 d27 d5.2.2.2.1.1 (by omega) (by omega) (fun E3 tm3 S3 ac kw3 => ?_) (fun n5 => ?_)
          · rw [if_neg (by decide)]
            have hld : (if aI SC 38 (A 38) (VF (D - 2)) = -1 then (0 : Int32) else 1) = 0 ∨ (if aI SC 38 (A 38) (VF (D - 2)) = -1 then (0 : Int32) else 1) = 1 := by split; exact Or.inl rfl; exact Or.inr rfl
            have ac0 := ac pl
            rw [← e2] at ac0 hld
            refine hP S3 _ _ _ _ (cc.add ac0 (kw3 S0 d1) E3 (by omega) tm3 Pch0 hld (Or.inl rfl) (fun z => absurd z (by decide)) (by omega) hn) ?_
            intro R0 pc T wr sy g ow hr Sr rp Q2 hQ2
            refine evt R0 pc T wr sy g ow hr Sr rp Q2 (fun z => absurd hL z) (fun _ z => absurd ⟨E3, tm3⟩ z) (fun _ _ _ Sr1 Sr2 rq ar => hQ2 _ ?_)
            rw [← e2] at ar
            exact RPf.add cc rq ac0 ar Pch0 E3 (Or.inl rfl) (by omega)
          · rw [if_pos rfl]
            refine hF _ (5, pl) (CBad.mk (kdm (by decide) (by decide)) d1 d2 d4) ?_
            intro R0 pc T wr sy g ow hr Sr rp Q2 hQ2
            exact evt R0 pc T wr sy g ow hr Sr rp Q2 (fun z => absurd hL z) (fun _ _ Sr1 rb => hQ2 _ rb) (fun _ z1 z2 => absurd ⟨z1, z2⟩ n5)
        · rw [if_pos rfl]
          refine hF _ (6, tp) (CBad.mk (kdm (by decide) (by decide)) d1 d2 d4) ?_
          intro R0 pc T wr sy g ow hr Sr rp Q2 hQ2
          refine evt R0 pc T wr sy g ow hr Sr rp Q2 (fun _ tp' q Sr1 rb => hQ2 Sr1 ⟨rb.1, rb.2.1, ?_⟩) (fun z => absurd z hL) (fun z => absurd z hL)
          rw [rb.2.2]; exact q.symm.trans tp2
  unfold wp_X3_end
  rw [c1]
  refine ⟨_, a2.1, s_kindOf hpg (by omega) pl2 pl1 ?_⟩
  intro K _
  rw [hB, if_neg (by decide), if_neg (by decide), if_neg (by decide), if_neg (by decide), if_neg (by decide), if_pos rfl]
  unfold wp_X3_nextVoice
  intro K47 hK47
  rcases g5 with ⟨ef, g13, g16, gv⟩ | ⟨ef, fe, le0, l, w1, w2, w3, w4, w5, w6, w7, w8, q, w9, w10⟩
  · rw [if_pos g13]
    rintro _ rfl _ rfl _ rfl
    apply hK47
    rintro _ rfl
    refine cls _ t t ln lp ⟨(((Keep.rf.sL rfl).sL rfl).sI rfl).sL rfl, fun a ha j => ?_, ?_, ?_, ?_, ?_⟩ ((((a1.sL wk).sL wk).sI wk).sL wk) hTt (Nat.le_refl _) s28b s29b s29c s30b (fun z => absurd ef z) (fun _ => ⟨rfl, rfl, rfl, rfl⟩) (fun z => absurd ef z)
    · exact ⟨by simp only [fI_sL, fI_sI, ha, and_false, if_false], by simp only [fL_sL, fL_sI, ha, and_false, if_false]⟩
    · simp only [fI_s, fI_sn, fL_s, fL_sn, aI_w, aI_wn, aL_w, aL_wn, fI_sL, fI_wI, fI_wL, fL_sI, fL_wI, fL_wL, aI_sI, aI_sL, aI_wL, aL_sI, aL_sL, aL_wI, fR_sI, fR_sL, fR_wI, fR_wL, aN_sI, aN_sL, aN_wI, aN_wL, ne_eq, Nat.reduceEqDiff, not_false_eq_true]; exact s28
    · simp only [fI_s, fI_sn, fL_s, fL_sn, aI_w, aI_wn, aL_w, aL_wn, fI_sL, fI_wI, fI_wL, fL_sI, fL_wI, fL_wL, aI_sI, aI_sL, aI_wL, aL_sI, aL_sL, aL_wI, fR_sI, fR_sL, fR_wI, fR_wL, aN_sI, aN_sL, aN_wI, aN_wL, ne_eq, Nat.reduceEqDiff, not_false_eq_true]; rw [s28, g16, if_neg (fun z => by rw [lN_ltq (by omega) (by omega)] at z; omega)]
    · simp only [fI_s, fI_sn, fL_s, fL_sn, aI_w, aI_wn, aL_w, aL_wn, fI_sL, fI_wI, fI_wL, fL_sI, fL_wI, fL_wL, aI_sI, aI_sL, aI_wL, aL_sI, aL_sL, aL_wI, fR_sI, fR_sL, fR_wI, fR_wL, aN_sI, aN_sL, aN_wI, aN_wL, ne_eq, Nat.reduceEqDiff, not_false_eq_true]; exact s29
    · simp only [fI_s, fI_sn, fL_s, fL_sn, aI_w, aI_wn, aL_w, aL_wn, fI_sL, fI_wI, fI_wL, fL_sI, fL_wI, fL_wL, aI_sI, aI_sL, aI_wL, aL_sI, aL_sL, aL_wI, fR_sI, fR_sL, fR_wI, fR_wL, aN_sI, aN_sL, aN_wI, aN_wL, ne_eq, Nat.reduceEqDiff, not_false_eq_true]; exact s30
  · rw [if_neg (by rw [w4]; exact lN_nm (by omega))]
    refine s_endVoice a2 a10 s27 hv hn (fun z => ?_) (fun tp t1 t2 => ?_)
    · rw [if_neg (by decide)]
      apply hK47
      rintro _ rfl
      refine cls _ fe (if t ≤ le0 then le0 else t) l q ⟨Keep.rf.sL rfl, fun a ha j => ?_, ?_, ?_, ?_, ?_⟩ (a1.sL wk) w1 (by split <;> omega) (by split <;> omega) w6 w7 w10 (fun _ => z) (fun z => absurd z ef) (fun _ => ⟨le0, w4, w5, rfl, w3, w8, w9⟩)
      · exact ⟨rfl, by simp only [fL_sL, ha, and_false, if_false]⟩
      · simp only [fI_s, fI_sn, fL_s, fL_sn, aI_w, aI_wn, aL_w, aL_wn, fI_sL, fI_wI, fI_wL, fL_sI, fL_wI, fL_wL, aI_sI, aI_sL, aI_wL, aL_sI, aL_sL, aL_wI, fR_sI, fR_sL, fR_wI, fR_wL, aN_sI, aN_sL, aN_wI, aN_wL, ne_eq, Nat.reduceEqDiff, not_false_eq_true]; exact w4
      · simp only [fI_s, fI_sn, fL_s, fL_sn, aI_w, aI_wn, aL_w, aL_wn, fI_sL, fI_wI, fI_wL, fL_sI, fL_wI, fL_wL, aI_sI, aI_sL, aI_wL, aL_sI, aL_sL, aL_wI, fR_sI, fR_sL, fR_wI, fR_wL, aN_sI, aN_sL, aN_wI, aN_wL, ne_eq, Nat.reduceEqDiff, not_false_eq_true]; rw [s28, w5]
        by_cases y : t ≤ le0
        · rw [if_pos y]
          by_cases y2 : t < le0
          · rw [if_pos ((lN_ltq (by omega) (by omega)).mpr y2)]
          · rw [if_neg (fun z => y2 ((lN_ltq (by omega) (by omega)).mp z)), show t = le0 by omega]
        · rw [if_neg y, if_neg (fun z => by rw [lN_ltq (by omega) (by omega)] at z; omega)]
      · simp only [fI_s, fI_sn, fL_s, fL_sn, aI_w, aI_wn, aL_w, aL_wn, fI_sL, fI_wI, fI_wL, fL_sI, fL_wI, fL_wL, aI_sI, aI_sL, aI_wL, aL_sI, aL_sL, aL_wI, fR_sI, fR_sL, fR_wI, fR_wL, aN_sI, aN_sL, aN_wI, aN_wL, ne_eq, Nat.reduceEqDiff, not_false_eq_true]; exact w8
      · simp only [fI_s, fI_sn, fL_s, fL_sn, aI_w, aI_wn, aL_w, aL_wn, fI_sL, fI_wI, fI_wL, fL_sI, fL_wI, fL_wL, aI_sI, aI_sL, aI_wL, aL_sI, aL_sL, aL_wI, fR_sI, fR_sL, fR_wI, fR_wL, aN_sI, aN_sL, aN_wI, aN_wL, ne_eq, Nat.reduceEqDiff, not_false_eq_true]; exact w9
    · rw [if_pos rfl]
      refine hF _ (6, tp) (CBad.mk (kdm (by decide) (by decide)) a1 a2 a4) ?_
      intro R0 pc T wr sy g ow hr Sr rp Q2 hQ2
      have tne : aI S 38 (A 38) (VF (D - 1)) ≠ -1 := by rw [t2]; exact nI_ne_neg (by omega)
      refine ref fe (if t ≤ le0 then le0 else t) l q (fun z => absurd z ef) (fun _ => ⟨le0, w4, w5, rfl, w3, w8, w9⟩) R0 pc T wr sy g ow hr Sr rp Q2 (fun _ tp' q1 _ Sr1 rb => hQ2 _ ⟨rb.1, rb.2.1, ?_⟩) (fun z => absurd (z ef) tne) (fun z => absurd (z ef) tne) (fun z => absurd (z ef) tne) (by omega) (by split <;> omega)
      rw [rb.2.2]; exact q1.symm.trans t2
end
