/-! Performing: an event of the reference; ties of the class. -/
section
variable {S S1 S2 S0 Sr Sr1 Sr2 R0 : PS} {A : Nat → Nat} {B : Nat → Int32} {n N nd pc : Nat}
variable {D m E V M sy x v tm k pl c e i : Nat} {cs : Nat → Nat} {w : Int64} {td ld : Int32}
/-- the event e has the pitches at hand -/
def Lk (Sr : PS) (A : Nat → Nat) (e c : Nat) : Prop := aI Sr 66 (A 66) e = nI c ∧ 0 < c ∧ ∀ k, k < c → aI Sr 72 (A 72) (6 * e + k) = aI Sr 83 (A 83) k ∧ aI Sr 73 (A 73) (6 * e + k) = aI Sr 84 (A 84) k ∧ aI Sr 74 (A 74) (6 * e + k) = aI Sr 85 (A 85) k
theorem six (e k : Nat) : (6 : Int32) * nI e + nI k = nI (6 * e + k) := by
  rw [show (6 : Int32) = nI 6 from rfl, show nI 6 * nI e = nI (6 * e) from (Int32.ofNat_mul 6 e).symm, nI_add]
theorem r_isLike {Q : Int32 → PS → Prop} (h : LayM Sr A) (he : e < 300) (hc : c ≤ 6) (hev : ∃ c', c' ≤ 6 ∧ aI Sr 66 (A 66) e = nI c') (h1 : Lk Sr A e c → Q 1 Sr) (h0 : ¬ Lk Sr A e c → Q 0 Sr) : wp_X12_isLike (A 9) (nI e) (nI c) Sr Q := by
  unfold wp_X12_isLike
  refine ⟨_, h.f136, by rw [h.n66]; exact vp_in_nI he (by omega), ?_⟩
  intro K hK
  rw [nI_clamp (by omega)]
  have no : ¬ Lk Sr A e c → K 0 Sr := by
    intro hn
    apply hK
    intro P hP
    apply hP
    have z : nz (0 : Int32) := by unfold nz; decide
    by_cases q : nI c ≤ 0
    · rw [if_pos q]; exact ⟨z, h0 hn⟩
    · rw [if_neg q, if_pos rfl]; exact ⟨z, h0 hn⟩
  by_cases e66 : aI Sr 66 (A 66) e = nI c
  · rw [if_pos e66]
    by_cases c0 : c = 0
    · rw [if_pos (by rw [c0]; decide)]
      exact no (fun l => by have := l.2.1; omega)
    · rw [if_neg (nI_nle (by omega) (by omega))]
      apply hK
      intro P hP
      have z0 : nz (0 : Int32) := by unfold nz; decide
      have z1 : nz (1 : Int32) := by unfold nz; decide
      have bad : ∀ i, ¬ Lk Sr A e c → P 0 (nI i) Sr := by
        intro i hn
        apply hP
        by_cases q : nI c ≤ nI i
        · rw [if_pos q]; exact ⟨z0, h0 hn⟩
        · rw [if_neg q, if_pos rfl]; exact ⟨z0, h0 hn⟩
      have key : ∀ f i, f + i = c → (∀ k, k < i → aI Sr 72 (A 72) (6 * e + k) = aI Sr 83 (A 83) k ∧ aI Sr 73 (A 73) (6 * e + k) = aI Sr 84 (A 84) k ∧ aI Sr 74 (A 74) (6 * e + k) = aI Sr 85 (A 85) k) → P 1 (nI i) Sr := by
        intro f
        induction f with
        | zero =>
          intro i i1 i2
          apply hP
          rw [if_pos (by rw [show i = c by omega]; exact nI_le (Nat.le_refl _) (by omega))]
          exact ⟨z1, h1 ⟨e66, by omega, fun k hk => i2 k (by omega)⟩⟩
        | succ f ih =>
          intro i i1 i2
          apply hP
          rw [if_neg (nI_ge (by omega) (by omega)), if_neg (by decide)]
          rw [six]
          have ci : (nI i).toNatClampNeg = i := nI_clamp (by omega)
          have c6 : (nI (6 * e + i)).toNatClampNeg = 6 * e + i := nI_clamp (by omega)
          refine ⟨_, h.f142, by rw [h.n72]; exact vp_in_nI (by omega) (by omega), _, h.f170, by rw [h.n83]; exact vp_in_nI (by omega) (by omega), ?_⟩
          intro K2 hK2
          rw [ci, c6]
          by_cases q1 : aI Sr 72 (A 72) (6 * e + i) = aI Sr 83 (A 83) i
          · rw [if_pos q1]
            refine ⟨_, h.f143, by rw [h.n73]; exact vp_in_nI (by omega) (by omega), _, h.f171, by rw [h.n84]; exact vp_in_nI (by omega) (by omega), ?_⟩
            by_cases q2 : aI Sr 73 (A 73) (6 * e + i) = aI Sr 84 (A 84) i
            · rw [if_pos q2]
              refine ⟨_, h.f144, by rw [h.n74]; exact vp_in_nI (by omega) (by omega), _, h.f172, by rw [h.n85]; exact vp_in_nI (by omega) (by omega), ?_⟩
              by_cases q3 : aI Sr 74 (A 74) (6 * e + i) = aI Sr 85 (A 85) i
              · rw [if_pos q3]
                apply hK2
                rintro _ rfl
                rw [nI_1]
                refine ih (i + 1) (by omega) (fun k hk => ?_)
                by_cases z : k = i
                · rw [z]; exact ⟨q1, q2, q3⟩
                · exact i2 k (by omega)
              · rw [if_neg q3]
                apply hK2
                rintro _ rfl
                rw [nI_1]
                exact bad _ (fun l => q3 (l.2.2 i (by omega)).2.2)
            · rw [if_neg q2]
              apply hK2
              rintro _ rfl
              rw [nI_1]
              exact bad _ (fun l => q2 (l.2.2 i (by omega)).2.1)
          · rw [if_neg q1]
            apply hK2
            rintro _ rfl
            rw [nI_1]
            exact bad _ (fun l => q1 (l.2.2 i (by omega)).1)
      exact key c 0 (by omega) (fun k hk => by omega)
  · rw [if_neg e66]
    exact no (fun l => e66 l.1)
/-- what an event of the reference comes to -/
theorem r_event {Q : PS → Prop} {up dn : Int64} {tk : Nat} (h : LayM Sr A) (hi : i < 3100) (hp : aI Sr 43 (A 43) i = nI pl) (hf : fI Sr 102 (A 9) = 0) (hv : fI Sr 155 (A 9) = nI v) (hv12 : v < 12) (hE : fI Sr 146 (A 9) = nI E) (hE3 : E ≤ 300) (ht : fL Sr 156 (A 9) = lN tm) (hc : c ≤ 6) (htd : td = 0 ∨ td = 1)
    (hcs : ∀ k, k < c → aI Sr 83 (A 83) k = nI (cs k / 5 % 7) ∧ aI Sr 84 (A 84) k = iJ ((cs k : Int) % 5 - 2) ∧ aI Sr 85 (A 85) k = nI (cs k / 35)) (hdn : ¬ dn = 0)
    (L : Prop) (hpe : (aI Sr 77 (A 77) v = -1 ∧ L) ∨ ∃ e, e < E ∧ aI Sr 77 (A 77) v = nI e ∧ (∃ c', c' ≤ 6 ∧ aI Sr 66 (A 66) e = nI c') ∧ (L ↔ Lk Sr A e c)) (hb6 : ¬ L → ∀ e, e < E → aI Sr 77 (A 77) v = nI e → ∃ q, aI Sr 71 (A 71) e = nI q ∧ Q (sI (sI Sr 102 (A 9) 6) 103 (A 9) (nI q)))
    (hb2 : L → ¬ (up - up / dn * dn = 0 ∧ up / dn ≤ 3870720000) → Q (sI (sI Sr 102 (A 9) 2) 103 (A 9) (nI pl)))
    (hb5 : L → up - up / dn * dn = 0 → up / dn ≤ 3870720000 → ¬ (E < 300 ∧ lN tm + up / dn ≤ 3870720000) → Q (sI (sI Sr 102 (A 9) 5) 103 (A 9) (nI pl)))
    (hQ : L → up - up / dn * dn = 0 → up / dn ≤ 3870720000 → up / dn = lN tk → E < 300 → lN tm + up / dn ≤ 3870720000 → ∀ Sr1, AddR Sr Sr1 A E v tm tk c cs (if aI Sr 77 (A 77) v = -1 then 0 else 1) td pl → Q Sr1) (htk : up - up / dn * dn = 0 → up / dn ≤ 3870720000 → up / dn = lN tk) : wp_X12_event (A 9) (nI i) (nI c) up dn td Sr Q := by
  have cv : (nI v).toNatClampNeg = v := nI_clamp (by omega)
  have ci : (nI i).toNatClampNeg = i := nI_clamp (by omega)
  have cE : (nI E).toNatClampNeg = E := nI_clamp (by omega)
  unfold wp_X12_event
  rw [hv]
  refine ⟨_, h.f148, by rw [h.n77]; exact vp_in_nI hv12 (by omega), ?_⟩
  rintro _ rfl
  rw [cv]
  intro K47 hK47
  have nle : ∀ k : Nat, 1 ≤ k → k ≤ 8 → ¬ (nI k ≤ 0) := fun k a b => nI_nle (by omega) (by omega)
  -- once a fault is told, nothing is added
  have out : ∀ (S3 : PS) (k : Nat), 1 ≤ k → k ≤ 8 → fI S3 102 (A 9) = nI k → Q S3 → K47 S3 := by
    intro S3 k k1 k2 h3 q3
    apply hK47
    intro K85 hK85
    rw [if_neg (by rw [h3]; exact nI_ne0 (by omega) (by omega))]
    apply hK85
    intro K129 hK129
    rw [if_neg (by rw [h3]; exact nI_ne0 (by omega) (by omega))]
    apply hK129
    rw [if_neg (by rw [h3]; exact nle k k1 k2)]
    exact q3
  have go : L → K47 Sr := by
    intro hL
    apply hK47
    intro K85 hK85
    rw [if_pos hf]
    refine ⟨hdn, ?_⟩
    intro K74 hK74
    have two : ¬ (up - up / dn * dn = 0 ∧ up / dn ≤ 3870720000) → K74 Sr := by
      intro hn
      apply hK74
      refine ⟨_, h.f106, by rw [h.n43]; exact vp_in_nI hi (by omega), ?_⟩
      rw [ci, hp]
      unfold wp_X12_bad
      rw [if_pos hf]
      rintro _ rfl _ rfl
      have e2 : fI (sI (sI Sr 102 (A 9) 2) 103 (A 9) (nI pl)) 102 (A 9) = nI 2 := by simp only [fI_s, fI_sn, fL_s, fL_sn, aI_w, aI_wn, aL_w, aL_wn, fI_sL, fI_wI, fI_wL, fL_sI, fL_wI, fL_wL, aI_sI, aI_sL, aI_wL, aL_sI, aL_sL, aL_wI, fR_sI, fR_sL, fR_wI, fR_wL, aN_sI, aN_sL, aN_wI, aN_wL, ne_eq, Nat.reduceEqDiff, not_false_eq_true]; rfl
      apply hK85
      intro K129 hK129
      rw [if_neg (by rw [e2]; decide)]
      apply hK129
      rw [if_neg (by rw [e2]; decide)]
      exact hb2 hL hn
    by_cases q1 : up - up / dn * dn = 0
    · rw [if_pos q1]
      refine ⟨hdn, ?_⟩
      by_cases q2 : up / dn ≤ 3870720000
      · rw [if_pos q2]
        apply hK85
        intro K129 hK129
        rw [if_pos hf]
        intro K118 hK118
        have five : ¬ (E < 300 ∧ lN tm + up / dn ≤ 3870720000) → K118 Sr := by
          intro hn
          apply hK118
          refine ⟨_, h.f106, by rw [h.n43]; exact vp_in_nI hi (by omega), ?_⟩
          rw [ci, hp]
          unfold wp_X12_bad
          rw [if_pos hf]
          rintro _ rfl _ rfl
          have e2 : fI (sI (sI Sr 102 (A 9) 5) 103 (A 9) (nI pl)) 102 (A 9) = nI 5 := by simp only [fI_s, fI_sn, fL_s, fL_sn, aI_w, aI_wn, aL_w, aL_wn, fI_sL, fI_wI, fI_wL, fL_sI, fL_wI, fL_wL, aI_sI, aI_sL, aI_wL, aL_sI, aL_sL, aL_wI, fR_sI, fR_sL, fR_wI, fR_wL, aN_sI, aN_sL, aN_wI, aN_wL, ne_eq, Nat.reduceEqDiff, not_false_eq_true]; rfl
          apply hK129
          rw [if_neg (by rw [e2]; decide)]
          exact hb5 hL q1 q2 hn
        rw [hE, show (300 : Int32) = nI 300 from rfl]
        by_cases q3 : E = 300
        · rw [if_pos (by rw [q3])]
          exact five (fun z => by omega)
        · rw [if_neg (fun z => q3 ((nI_eq (by omega) (by omega)).mp z))]
          refine ⟨hdn, ?_⟩
          rw [ht]
          by_cases q4 : lN tm + up / dn ≤ 3870720000
          · rw [if_pos q4]
            have ek := htk q1 q2
            have cA := q1
            have cB := q2
            have cC := q4
            apply hK129
            rw [if_pos (by rw [hf]; decide)]
            rw [hE]
            rintro _ rfl _ rfl
            rw [nI_1]
            have vE : ∀ {r : Nat}, r = 300 → vp_in (nI E) r := fun h => by rw [h]; exact vp_in_nI (by omega) (by omega)
            refine ⟨_, h.f135, vE h.n65, ?_⟩
            rintro _ rfl
            refine ⟨_, h.f136, vE h.n66, ?_⟩
            rintro _ rfl
            refine ⟨_, h.f137, vE h.n67, ?_⟩
            rintro _ rfl
            refine ⟨_, h.f138, ?_⟩
            intro K198 hK198
            rw [cE]
            simp only [fI_s, fI_sn, fL_s, fL_sn, aI_w, aI_wn, aL_w, aL_wn, fI_sL, fI_wI, fI_wL, fL_sI, fL_wI, fL_wL, aI_sI, aI_sL, aI_wL, aL_sI, aL_sL, aL_wI, fR_sI, fR_sL, fR_wI, fR_wL, aN_sI, aN_sL, aN_wI, aN_wL, ne_eq, Nat.reduceEqDiff, not_false_eq_true]
            rw [hv]
            have ntd : vp_nar .boolean td = td := by rcases htd with z | z <;> rw [z]; exact nar0; exact nar1
            rw [ntd]
            generalize hS5 : wI (wI (wI (sI Sr 146 (A 9) (nI (E + 1))) 65 (A 65) E (nI v)) 66 (A 66) E (nI c)) 67 (A 67) E td = S5
            have st5 : St S5 = St Sr := by rw [← hS5]; rfl
            have fin : ∀ ld : Int32, ld = (if aI Sr 77 (A 77) v = -1 then 0 else 1) → K198 (A 68) (nI E) ld S5 := by
              intro ld hld
              have h5 := h.st st5
              have nld : vp_nar .boolean ld = ld := by rw [hld]; split; exact nar0; exact nar1
              apply hK198
              refine ⟨vE h5.n68, ?_⟩
              rintro _ rfl
              refine ⟨_, h5.f139, vE h5.n69, ?_⟩
              rintro _ rfl
              refine ⟨_, h5.f140, hdn, vE h5.n70, ?_⟩
              rintro _ rfl
              refine ⟨_, h5.f141, _, h5.f106, by simp only [fI_s, fI_sn, fL_s, fL_sn, aI_w, aI_wn, aL_w, aL_wn, fI_sL, fI_wI, fI_wL, fL_sI, fL_wI, fL_wL, aI_sI, aI_sL, aI_wL, aL_sI, aL_sL, aL_wI, fR_sI, fR_sL, fR_wI, fR_wL, aN_sI, aN_sL, aN_wI, aN_wL, ne_eq, Nat.reduceEqDiff, not_false_eq_true]; rw [h5.n43]; exact vp_in_nI hi (by omega), vE h5.n71, ?_⟩
              rintro _ rfl
              rw [cE, nld, ek]
              simp only [fI_s, fI_sn, fL_s, fL_sn, aI_w, aI_wn, aL_w, aL_wn, fI_sL, fI_wI, fI_wL, fL_sI, fL_wI, fL_wL, aI_sI, aI_sL, aI_wL, aL_sI, aL_sL, aL_wI, fR_sI, fR_sL, fR_wI, fR_wL, aN_sI, aN_sL, aN_wI, aN_wL, ne_eq, Nat.reduceEqDiff, not_false_eq_true]
              have e156 : fL S5 156 (A 9) = lN tm := by rw [← hS5]; exact ht
              have e43 : aI S5 43 (A 43) (nI i).toNatClampNeg = nI pl := by rw [ci, ← hS5]; simp only [fI_s, fI_sn, fL_s, fL_sn, aI_w, aI_wn, aL_w, aL_wn, fI_sL, fI_wI, fI_wL, fL_sI, fL_wI, fL_wL, aI_sI, aI_sL, aI_wL, aL_sI, aL_sL, aL_wI, fR_sI, fR_sL, fR_wI, fR_wL, aN_sI, aN_sL, aN_wI, aN_wL, ne_eq, Nat.reduceEqDiff, not_false_eq_true]; exact hp
              first | rw [e156, e43] | (rw [e156]; rw [ci] at e43; rw [e43])
              generalize hS6 : wI (wL (wL (wI S5 68 (A 68) E ld) 69 (A 69) E (lN tm)) 70 (A 70) E (lN tk)) 71 (A 71) E (nI pl) = S6
              have st6 : St S6 = St Sr := by rw [← hS6]; exact st5
              have cI : ∀ j, j ≠ 146 → fI S6 j = fI Sr j := fun j hj => by rw [← hS6, ← hS5]; simp only [fI_s, fI_sn, fL_s, fL_sn, aI_w, aI_wn, aL_w, aL_wn, fI_sL, fI_wI, fI_wL, fL_sI, fL_wI, fL_wL, aI_sI, aI_sL, aI_wL, aL_sI, aL_sL, aL_wI, fR_sI, fR_sL, fR_wI, fR_wL, aN_sI, aN_sL, aN_wI, aN_wL, ne_eq, Nat.reduceEqDiff, not_false_eq_true]; rw [fI_sn _ _ _ _ _ hj]
              have cL : ∀ j, fL S6 j = fL Sr j := fun j => by rw [← hS6, ← hS5]; rfl
              intro P hP
              have key : ∀ f q S7, f + q = c → St S7 = St Sr → fI S7 = fI S6 → fL S7 = fL S6 → (∀ r, r < 72 ∨ 74 < r → aI S7 r = aI S6 r) → aL S7 = aL S6 → (∀ r z, 72 ≤ r → r ≤ 74 → z < 6 * E → aI S7 r (A r) z = aI S6 r (A r) z) → (∀ k, k < q → aI S7 72 (A 72) (6 * E + k) = nI (cs k / 5 % 7) ∧ aI S7 73 (A 73) (6 * E + k) = iJ ((cs k : Int) % 5 - 2) ∧ aI S7 74 (A 74) (6 * E + k) = nI (cs k / 35)) → P (nI q) S7 := by
                intro f
                induction f with
                | zero =>
                  intro q S7 i1 s7 e1 e2 e3 e4 e5 e6
                  have qc : q = c := by omega
                  subst qc
                  apply hP
                  rw [if_pos (nI_le (Nat.le_refl _) (by omega))]
                  intro P2 hP2
                  have key2 : ∀ f q2 S8, f + q2 = 3 → St S8 = St Sr → fI S8 = fI S6 → fL S8 = fL S6 → (∀ r, r ≠ 75 → aI S8 r = aI S7 r) → aL S8 = aL S6 → (∀ z, z < 3 * E → aI S8 75 (A 75) z = aI S6 75 (A 75) z) → (∀ j, j < q2 → aI S8 75 (A 75) (3 * E + j) = -1) → P2 (nI q2) S8 := by
                    intro f
                    induction f with
                    | zero =>
                      intro q2 S8 j1 s8 g1 g2 g3 g4 g5 g6
                      have q3 : q2 = 3 := by omega
                      subst q3
                      have h8 := h.st s8
                      apply hP2
                      rw [if_pos (by decide)]
                      refine ⟨_, h8.f148, ?_⟩
                      intro K356 hK356
                      have e155 : fI S8 155 (A 9) = nI v := by rw [g1, cI 155 (by decide)]; exact hv
                      rw [e155]
                      have fin2 : ∀ pe : Int32, pe = (if td = 0 then -1 else nI E) → K356 (A 77) (nI v) pe S8 := by
                        intro pe hpe
                        apply hK356
                        refine ⟨by rw [h8.n77]; exact vp_in_nI hv12 (by omega), ?_⟩
                        rintro _ rfl
                        refine ⟨hdn, ?_⟩
                        rintro _ rfl
                        simp only [fI_s, fI_sn, fL_s, fL_sn, aI_w, aI_wn, aL_w, aL_wn, fI_sL, fI_wI, fI_wL, fL_sI, fL_wI, fL_wL, aI_sI, aI_sL, aI_wL, aL_sI, aL_sL, aL_wI, fR_sI, fR_sL, fR_wI, fR_wL, aN_sI, aN_sL, aN_wI, aN_wL, ne_eq, Nat.reduceEqDiff, not_false_eq_true]
                        rw [cv, g2, cL, ht, lN_add]
                        refine hQ hL cA cB ek (by omega) cC _ ?_
                        have a8 : ∀ r, r ≠ 72 → r ≠ 73 → r ≠ 74 → r ≠ 75 → aI S8 r = aI S6 r := fun r z1 z2 z3 z4 => by rw [g3 r z4, e3 r (by omega)]
                        refine ⟨⟨s8, fun j hj => ⟨?_, ?_⟩, fun r hr => ⟨?_, ?_⟩⟩, ?_, ?_, ?_, ?_, ?_, ?_, ?_, ?_, fun r z r1 r2 r3 => ?_, ⟨?_, fun k hk => ?_⟩, fun z hz => ?_, fun j hj => ?_, ?_, ?_, ?_⟩
                        · simp only [fI_s, fI_sn, fL_s, fL_sn, aI_w, aI_wn, aL_w, aL_wn, fI_sL, fI_wI, fI_wL, fL_sI, fL_wI, fL_wL, aI_sI, aI_sL, aI_wL, aL_sI, aL_sL, aL_wI, fR_sI, fR_sL, fR_wI, fR_wL, aN_sI, aN_sL, aN_wI, aN_wL, ne_eq, Nat.reduceEqDiff, not_false_eq_true]; rw [g1, cI j (by unfold jEr at hj; simp only [decide_eq_false_iff_not] at hj; omega)]
                        · rw [fL_sn _ _ _ _ _ (by unfold jEr at hj; simp only [decide_eq_false_iff_not] at hj; omega), fL_wI, g2, cL]
                        · have : r ≠ 65 ∧ r ≠ 66 ∧ r ≠ 67 ∧ r ≠ 68 ∧ r ≠ 71 ∧ r ≠ 72 ∧ r ≠ 73 ∧ r ≠ 74 ∧ r ≠ 75 ∧ r ≠ 77 := by unfold rEr at hr; simp only [decide_eq_false_iff_not] at hr; omega
                          obtain ⟨y1, y2, y3, y4, y5, y6, y7, y8, y9, y10⟩ := this
                          rw [aI_sL, aI_wn _ _ _ _ _ _ y10, a8 r y6 y7 y8 y9, ← hS6, aI_wn _ _ _ _ _ _ y5, aI_wL, aI_wL, aI_wn _ _ _ _ _ _ y4, ← hS5, aI_wn _ _ _ _ _ _ y3, aI_wn _ _ _ _ _ _ y2, aI_wn _ _ _ _ _ _ y1]; rfl
                        · have : r ≠ 69 ∧ r ≠ 70 := by unfold rEr at hr; simp only [decide_eq_false_iff_not] at hr; omega
                          rw [aL_sL, aL_wI, g4, ← hS6, aL_wI, aL_wn _ _ _ _ _ _ this.2, aL_wn _ _ _ _ _ _ this.1, ← hS5]; rfl
                        · simp only [fI_s, fI_sn, fL_s, fL_sn, aI_w, aI_wn, aL_w, aL_wn, fI_sL, fI_wI, fI_wL, fL_sI, fL_wI, fL_wL, aI_sI, aI_sL, aI_wL, aL_sI, aL_sL, aL_wI, fR_sI, fR_sL, fR_wI, fR_wL, aN_sI, aN_sL, aN_wI, aN_wL, ne_eq, Nat.reduceEqDiff, not_false_eq_true]; rw [g1, ← hS6, ← hS5]; simp only [fI_s, fI_sn, fL_s, fL_sn, aI_w, aI_wn, aL_w, aL_wn, fI_sL, fI_wI, fI_wL, fL_sI, fL_wI, fL_wL, aI_sI, aI_sL, aI_wL, aL_sI, aL_sL, aL_wI, fR_sI, fR_sL, fR_wI, fR_wL, aN_sI, aN_sL, aN_wI, aN_wL, ne_eq, Nat.reduceEqDiff, not_false_eq_true]
                        · simp only [fI_s, fI_sn, fL_s, fL_sn, aI_w, aI_wn, aL_w, aL_wn, fI_sL, fI_wI, fI_wL, fL_sI, fL_wI, fL_wL, aI_sI, aI_sL, aI_wL, aL_sI, aL_sL, aL_wI, fR_sI, fR_sL, fR_wI, fR_wL, aN_sI, aN_sL, aN_wI, aN_wL, ne_eq, Nat.reduceEqDiff, not_false_eq_true]; rw [a8 65 (by decide) (by decide) (by decide) (by decide), ← hS6, ← hS5]; simp only [fI_s, fI_sn, fL_s, fL_sn, aI_w, aI_wn, aL_w, aL_wn, fI_sL, fI_wI, fI_wL, fL_sI, fL_wI, fL_wL, aI_sI, aI_sL, aI_wL, aL_sI, aL_sL, aL_wI, fR_sI, fR_sL, fR_wI, fR_wL, aN_sI, aN_sL, aN_wI, aN_wL, ne_eq, Nat.reduceEqDiff, not_false_eq_true]
                        · simp only [fI_s, fI_sn, fL_s, fL_sn, aI_w, aI_wn, aL_w, aL_wn, fI_sL, fI_wI, fI_wL, fL_sI, fL_wI, fL_wL, aI_sI, aI_sL, aI_wL, aL_sI, aL_sL, aL_wI, fR_sI, fR_sL, fR_wI, fR_wL, aN_sI, aN_sL, aN_wI, aN_wL, ne_eq, Nat.reduceEqDiff, not_false_eq_true]; rw [a8 66 (by decide) (by decide) (by decide) (by decide), ← hS6, ← hS5]; simp only [fI_s, fI_sn, fL_s, fL_sn, aI_w, aI_wn, aL_w, aL_wn, fI_sL, fI_wI, fI_wL, fL_sI, fL_wI, fL_wL, aI_sI, aI_sL, aI_wL, aL_sI, aL_sL, aL_wI, fR_sI, fR_sL, fR_wI, fR_wL, aN_sI, aN_sL, aN_wI, aN_wL, ne_eq, Nat.reduceEqDiff, not_false_eq_true]
                        · simp only [fI_s, fI_sn, fL_s, fL_sn, aI_w, aI_wn, aL_w, aL_wn, fI_sL, fI_wI, fI_wL, fL_sI, fL_wI, fL_wL, aI_sI, aI_sL, aI_wL, aL_sI, aL_sL, aL_wI, fR_sI, fR_sL, fR_wI, fR_wL, aN_sI, aN_sL, aN_wI, aN_wL, ne_eq, Nat.reduceEqDiff, not_false_eq_true]; rw [a8 67 (by decide) (by decide) (by decide) (by decide), ← hS6, ← hS5]; simp only [fI_s, fI_sn, fL_s, fL_sn, aI_w, aI_wn, aL_w, aL_wn, fI_sL, fI_wI, fI_wL, fL_sI, fL_wI, fL_wL, aI_sI, aI_sL, aI_wL, aL_sI, aL_sL, aL_wI, fR_sI, fR_sL, fR_wI, fR_wL, aN_sI, aN_sL, aN_wI, aN_wL, ne_eq, Nat.reduceEqDiff, not_false_eq_true]
                        · simp only [fI_s, fI_sn, fL_s, fL_sn, aI_w, aI_wn, aL_w, aL_wn, fI_sL, fI_wI, fI_wL, fL_sI, fL_wI, fL_wL, aI_sI, aI_sL, aI_wL, aL_sI, aL_sL, aL_wI, fR_sI, fR_sL, fR_wI, fR_wL, aN_sI, aN_sL, aN_wI, aN_wL, ne_eq, Nat.reduceEqDiff, not_false_eq_true]; rw [a8 68 (by decide) (by decide) (by decide) (by decide), ← hS6, ← hS5, ← hld]; simp only [fI_s, fI_sn, fL_s, fL_sn, aI_w, aI_wn, aL_w, aL_wn, fI_sL, fI_wI, fI_wL, fL_sI, fL_wI, fL_wL, aI_sI, aI_sL, aI_wL, aL_sI, aL_sL, aL_wI, fR_sI, fR_sL, fR_wI, fR_wL, aN_sI, aN_sL, aN_wI, aN_wL, ne_eq, Nat.reduceEqDiff, not_false_eq_true]
                        · simp only [fI_s, fI_sn, fL_s, fL_sn, aI_w, aI_wn, aL_w, aL_wn, fI_sL, fI_wI, fI_wL, fL_sI, fL_wI, fL_wL, aI_sI, aI_sL, aI_wL, aL_sI, aL_sL, aL_wI, fR_sI, fR_sL, fR_wI, fR_wL, aN_sI, aN_sL, aN_wI, aN_wL, ne_eq, Nat.reduceEqDiff, not_false_eq_true]; rw [g4, ← hS6, ← hS5]; simp only [fI_s, fI_sn, fL_s, fL_sn, aI_w, aI_wn, aL_w, aL_wn, fI_sL, fI_wI, fI_wL, fL_sI, fL_wI, fL_wL, aI_sI, aI_sL, aI_wL, aL_sI, aL_sL, aL_wI, fR_sI, fR_sL, fR_wI, fR_wL, aN_sI, aN_sL, aN_wI, aN_wL, ne_eq, Nat.reduceEqDiff, not_false_eq_true]
                        · simp only [fI_s, fI_sn, fL_s, fL_sn, aI_w, aI_wn, aL_w, aL_wn, fI_sL, fI_wI, fI_wL, fL_sI, fL_wI, fL_wL, aI_sI, aI_sL, aI_wL, aL_sI, aL_sL, aL_wI, fR_sI, fR_sL, fR_wI, fR_wL, aN_sI, aN_sL, aN_wI, aN_wL, ne_eq, Nat.reduceEqDiff, not_false_eq_true]; rw [g4, ← hS6, ← hS5]; simp only [fI_s, fI_sn, fL_s, fL_sn, aI_w, aI_wn, aL_w, aL_wn, fI_sL, fI_wI, fI_wL, fL_sI, fL_wI, fL_wL, aI_sI, aI_sL, aI_wL, aL_sI, aL_sL, aL_wI, fR_sI, fR_sL, fR_wI, fR_wL, aN_sI, aN_sL, aN_wI, aN_wL, ne_eq, Nat.reduceEqDiff, not_false_eq_true]
                        · simp only [fI_s, fI_sn, fL_s, fL_sn, aI_w, aI_wn, aL_w, aL_wn, fI_sL, fI_wI, fI_wL, fL_sI, fL_wI, fL_wL, aI_sI, aI_sL, aI_wL, aL_sI, aL_sL, aL_wI, fR_sI, fR_sL, fR_wI, fR_wL, aN_sI, aN_sL, aN_wI, aN_wL, ne_eq, Nat.reduceEqDiff, not_false_eq_true]; rw [a8 71 (by decide) (by decide) (by decide) (by decide), ← hS6, ← hS5]; simp only [fI_s, fI_sn, fL_s, fL_sn, aI_w, aI_wn, aL_w, aL_wn, fI_sL, fI_wI, fI_wL, fL_sI, fL_wI, fL_wL, aI_sI, aI_sL, aI_wL, aL_sI, aL_sL, aL_wI, fR_sI, fR_sL, fR_wI, fR_wL, aN_sI, aN_sL, aN_wI, aN_wL, ne_eq, Nat.reduceEqDiff, not_false_eq_true]
                        · have : r ≠ 65 ∧ r ≠ 66 ∧ r ≠ 67 ∧ r ≠ 68 ∧ r ≠ 71 ∧ r ≠ 75 ∧ r ≠ 77 := by omega
                          obtain ⟨y1, y2, y3, y4, y5, y9, y10⟩ := this
                          rw [aI_sL, aI_wn _ _ _ _ _ _ y10, g3 r y9, e5 r z r1 r2 r3, ← hS6, aI_wn _ _ _ _ _ _ y5, aI_wL, aI_wL, aI_wn _ _ _ _ _ _ y4, ← hS5, aI_wn _ _ _ _ _ _ y3, aI_wn _ _ _ _ _ _ y2, aI_wn _ _ _ _ _ _ y1]; rfl
                        · simp only [fI_s, fI_sn, fL_s, fL_sn, aI_w, aI_wn, aL_w, aL_wn, fI_sL, fI_wI, fI_wL, fL_sI, fL_wI, fL_wL, aI_sI, aI_sL, aI_wL, aL_sI, aL_sL, aL_wI, fR_sI, fR_sL, fR_wI, fR_wL, aN_sI, aN_sL, aN_wI, aN_wL, ne_eq, Nat.reduceEqDiff, not_false_eq_true]; rw [a8 66 (by decide) (by decide) (by decide) (by decide), ← hS6, ← hS5]; simp only [fI_s, fI_sn, fL_s, fL_sn, aI_w, aI_wn, aL_w, aL_wn, fI_sL, fI_wI, fI_wL, fL_sI, fL_wI, fL_wL, aI_sI, aI_sL, aI_wL, aL_sI, aL_sL, aL_wI, fR_sI, fR_sL, fR_wI, fR_wL, aN_sI, aN_sL, aN_wI, aN_wL, ne_eq, Nat.reduceEqDiff, not_false_eq_true]; rw [uq_at]
                        · simp only [fI_s, fI_sn, fL_s, fL_sn, aI_w, aI_wn, aL_w, aL_wn, fI_sL, fI_wI, fI_wL, fL_sI, fL_wI, fL_wL, aI_sI, aI_sL, aI_wL, aL_sI, aL_sL, aL_wI, fR_sI, fR_sL, fR_wI, fR_wL, aN_sI, aN_sL, aN_wI, aN_wL, ne_eq, Nat.reduceEqDiff, not_false_eq_true]; rw [g3 72 (by decide), g3 73 (by decide), g3 74 (by decide)]; exact e6 k hk
                        · simp only [fI_s, fI_sn, fL_s, fL_sn, aI_w, aI_wn, aL_w, aL_wn, fI_sL, fI_wI, fI_wL, fL_sI, fL_wI, fL_wL, aI_sI, aI_sL, aI_wL, aL_sI, aL_sL, aL_wI, fR_sI, fR_sL, fR_wI, fR_wL, aN_sI, aN_sL, aN_wI, aN_wL, ne_eq, Nat.reduceEqDiff, not_false_eq_true]; rw [g5 z hz, ← hS6, ← hS5]; simp only [fI_s, fI_sn, fL_s, fL_sn, aI_w, aI_wn, aL_w, aL_wn, fI_sL, fI_wI, fI_wL, fL_sI, fL_wI, fL_wL, aI_sI, aI_sL, aI_wL, aL_sI, aL_sL, aL_wI, fR_sI, fR_sL, fR_wI, fR_wL, aN_sI, aN_sL, aN_wI, aN_wL, ne_eq, Nat.reduceEqDiff, not_false_eq_true]
                        · simp only [fI_s, fI_sn, fL_s, fL_sn, aI_w, aI_wn, aL_w, aL_wn, fI_sL, fI_wI, fI_wL, fL_sI, fL_wI, fL_wL, aI_sI, aI_sL, aI_wL, aL_sI, aL_sL, aL_wI, fR_sI, fR_sL, fR_wI, fR_wL, aN_sI, aN_sL, aN_wI, aN_wL, ne_eq, Nat.reduceEqDiff, not_false_eq_true]; exact g6 j hj
                        · simp only [fI_s, fI_sn, fL_s, fL_sn, aI_w, aI_wn, aL_w, aL_wn, fI_sL, fI_wI, fI_wL, fL_sI, fL_wI, fL_wL, aI_sI, aI_sL, aI_wL, aL_sI, aL_sL, aL_wI, fR_sI, fR_sL, fR_wI, fR_wL, aN_sI, aN_sL, aN_wI, aN_wL, ne_eq, Nat.reduceEqDiff, not_false_eq_true]; rw [g4, ← hS6, ← hS5]; simp only [fI_s, fI_sn, fL_s, fL_sn, aI_w, aI_wn, aL_w, aL_wn, fI_sL, fI_wI, fI_wL, fL_sI, fL_wI, fL_wL, aI_sI, aI_sL, aI_wL, aL_sI, aL_sL, aL_wI, fR_sI, fR_sL, fR_wI, fR_wL, aN_sI, aN_sL, aN_wI, aN_wL, ne_eq, Nat.reduceEqDiff, not_false_eq_true]
                        · simp only [fI_s, fI_sn, fL_s, fL_sn, aI_w, aI_wn, aL_w, aL_wn, fI_sL, fI_wI, fI_wL, fL_sI, fL_wI, fL_wL, aI_sI, aI_sL, aI_wL, aL_sI, aL_sL, aL_wI, fR_sI, fR_sL, fR_wI, fR_wL, aN_sI, aN_sL, aN_wI, aN_wL, ne_eq, Nat.reduceEqDiff, not_false_eq_true]; rw [a8 77 (by decide) (by decide) (by decide) (by decide), ← hS6, ← hS5, hpe]; simp only [fI_s, fI_sn, fL_s, fL_sn, aI_w, aI_wn, aL_w, aL_wn, fI_sL, fI_wI, fI_wL, fL_sI, fL_wI, fL_wL, aI_sI, aI_sL, aI_wL, aL_sI, aL_sL, aL_wI, fR_sI, fR_sL, fR_wI, fR_wL, aN_sI, aN_sL, aN_wI, aN_wL, ne_eq, Nat.reduceEqDiff, not_false_eq_true]
                        · simp only [fI_s, fI_sn, fL_s, fL_sn, aI_w, aI_wn, aL_w, aL_wn, fI_sL, fI_wI, fI_wL, fL_sI, fL_wI, fL_wL, aI_sI, aI_sL, aI_wL, aL_sI, aL_sL, aL_wI, fR_sI, fR_sL, fR_wI, fR_wL, aN_sI, aN_sL, aN_wI, aN_wL, ne_eq, Nat.reduceEqDiff, not_false_eq_true]
                      rcases htd with z | z
                      · rw [if_pos z]; exact fin2 (-1) (by rw [if_pos z])
                      · rw [if_neg (by rw [z]; decide)]; exact fin2 (nI E) (by rw [if_neg (by rw [z]; decide)])
                    | succ f ih2 =>
                      intro q2 S8 j1 s8 g1 g2 g3 g4 g5 g6
                      have h8 := h.st s8
                      apply hP2
                      rw [show (3 : Int32) = nI 3 from rfl, if_neg (nI_ge (by omega) (by omega))]
                      have e3E : nI 3 * nI E + nI q2 = nI (3 * E + q2) := by
                        rw [show nI 3 * nI E = nI (3 * E) from (Int32.ofNat_mul 3 E).symm, nI_add]
                      rw [e3E]
                      refine ⟨_, h8.f145, by rw [h8.n75]; exact vp_in_nI (by omega) (by omega), ?_⟩
                      rintro _ rfl _ rfl
                      rw [nI_clamp (by omega), nI_1]
                      refine ih2 (q2 + 1) _ (by omega) s8 g1 g2 (fun r hr => by rw [aI_wn _ _ _ _ _ _ hr]; exact g3 r hr) g4 (fun z hz => ?_) (fun j hj => ?_)
                      · simp only [fI_s, fI_sn, fL_s, fL_sn, aI_w, aI_wn, aL_w, aL_wn, fI_sL, fI_wI, fI_wL, fL_sI, fL_wI, fL_wL, aI_sI, aI_sL, aI_wL, aL_sI, aL_sL, aL_wI, fR_sI, fR_sL, fR_wI, fR_wL, aN_sI, aN_sL, aN_wI, aN_wL, ne_eq, Nat.reduceEqDiff, not_false_eq_true]; rw [uq_ne (by omega)]; exact g5 z hz
                      · simp only [fI_s, fI_sn, fL_s, fL_sn, aI_w, aI_wn, aL_w, aL_wn, fI_sL, fI_wI, fI_wL, fL_sI, fL_wI, fL_wL, aI_sI, aI_sL, aI_wL, aL_sI, aL_sL, aL_wI, fR_sI, fR_sL, fR_wI, fR_wL, aN_sI, aN_sL, aN_wI, aN_wL, ne_eq, Nat.reduceEqDiff, not_false_eq_true]
                        by_cases z : j = q2
                        · rw [z, uq_at]
                        · rw [uq_ne (by omega)]; exact g6 j (by omega)
                  exact key2 3 0 S7 rfl s7 e1 e2 (fun _ _ => rfl) e4 (fun z _ => by rw [e3 75 (by omega)]) (fun j hj => by omega)
                | succ f ih =>
                  intro q S7 i1 s7 e1 e2 e3 e4 e5 e6
                  have h7 := h.st s7
                  apply hP
                  rw [if_neg (nI_ge (by omega) (by omega)), six]
                  have c6 : (nI (6 * E + q)).toNatClampNeg = 6 * E + q := nI_clamp (by omega)
                  have cq : (nI q).toNatClampNeg = q := nI_clamp (by omega)
                  have a83 : ∀ r, r = 83 ∨ r = 84 ∨ r = 85 → aI S7 r = aI Sr r := fun r hr => by
                    rw [e3 r (by omega), ← hS6, aI_wn _ _ _ _ _ _ (by omega), aI_wL, aI_wL, aI_wn _ _ _ _ _ _ (by omega), ← hS5, aI_wn _ _ _ _ _ _ (by omega), aI_wn _ _ _ _ _ _ (by omega), aI_wn _ _ _ _ _ _ (by omega)]; rfl
                  refine ⟨_, h7.f142, _, h7.f170, by rw [h7.n83]; exact vp_in_nI (by omega) (by omega), by rw [h7.n72]; exact vp_in_nI (by omega) (by omega), ?_⟩
                  rintro _ rfl
                  refine ⟨_, h7.f143, _, h7.f171, by simp only [fI_s, fI_sn, fL_s, fL_sn, aI_w, aI_wn, aL_w, aL_wn, fI_sL, fI_wI, fI_wL, fL_sI, fL_wI, fL_wL, aI_sI, aI_sL, aI_wL, aL_sI, aL_sL, aL_wI, fR_sI, fR_sL, fR_wI, fR_wL, aN_sI, aN_sL, aN_wI, aN_wL, ne_eq, Nat.reduceEqDiff, not_false_eq_true]; rw [h7.n84]; exact vp_in_nI (by omega) (by omega), by simp only [fI_s, fI_sn, fL_s, fL_sn, aI_w, aI_wn, aL_w, aL_wn, fI_sL, fI_wI, fI_wL, fL_sI, fL_wI, fL_wL, aI_sI, aI_sL, aI_wL, aL_sI, aL_sL, aL_wI, fR_sI, fR_sL, fR_wI, fR_wL, aN_sI, aN_sL, aN_wI, aN_wL, ne_eq, Nat.reduceEqDiff, not_false_eq_true]; rw [h7.n73]; exact vp_in_nI (by omega) (by omega), ?_⟩
                  rintro _ rfl
                  refine ⟨_, h7.f144, _, h7.f172, by simp only [fI_s, fI_sn, fL_s, fL_sn, aI_w, aI_wn, aL_w, aL_wn, fI_sL, fI_wI, fI_wL, fL_sI, fL_wI, fL_wL, aI_sI, aI_sL, aI_wL, aL_sI, aL_sL, aL_wI, fR_sI, fR_sL, fR_wI, fR_wL, aN_sI, aN_sL, aN_wI, aN_wL, ne_eq, Nat.reduceEqDiff, not_false_eq_true]; rw [h7.n85]; exact vp_in_nI (by omega) (by omega), by simp only [fI_s, fI_sn, fL_s, fL_sn, aI_w, aI_wn, aL_w, aL_wn, fI_sL, fI_wI, fI_wL, fL_sI, fL_wI, fL_wL, aI_sI, aI_sL, aI_wL, aL_sI, aL_sL, aL_wI, fR_sI, fR_sL, fR_wI, fR_wL, aN_sI, aN_sL, aN_wI, aN_wL, ne_eq, Nat.reduceEqDiff, not_false_eq_true]; rw [h7.n74]; exact vp_in_nI (by omega) (by omega), ?_⟩
                  rintro _ rfl _ rfl
                  simp only [fI_s, fI_sn, fL_s, fL_sn, aI_w, aI_wn, aL_w, aL_wn, fI_sL, fI_wI, fI_wL, fL_sI, fL_wI, fL_wL, aI_sI, aI_sL, aI_wL, aL_sI, aL_sL, aL_wI, fR_sI, fR_sL, fR_wI, fR_wL, aN_sI, aN_sL, aN_wI, aN_wL, ne_eq, Nat.reduceEqDiff, not_false_eq_true]
                  rw [c6, cq, nI_1, a83 83 (by omega), a83 84 (by omega), a83 85 (by omega), (hcs q (by omega)).1, (hcs q (by omega)).2.1, (hcs q (by omega)).2.2]
                  refine ih (q + 1) _ (by omega) s7 e1 e2 (fun r hr => ?_) e4 (fun r z r1 r2 r3 => ?_) (fun k hk => ?_)
                  · rw [aI_wn _ _ _ _ _ _ (by omega), aI_wn _ _ _ _ _ _ (by omega), aI_wn _ _ _ _ _ _ (by omega)]; exact e3 r hr
                  · have hne : z ≠ 6 * E + q := by omega
                    simp only [aI_wI, hne, and_false, if_false]; exact e5 r z r1 r2 r3
                  · simp only [fI_s, fI_sn, fL_s, fL_sn, aI_w, aI_wn, aL_w, aL_wn, fI_sL, fI_wI, fI_wL, fL_sI, fL_wI, fL_wL, aI_sI, aI_sL, aI_wL, aL_sI, aL_sL, aL_wI, fR_sI, fR_sL, fR_wI, fR_wL, aN_sI, aN_sL, aN_wI, aN_wL, ne_eq, Nat.reduceEqDiff, not_false_eq_true]
                    by_cases z : k = q
                    · rw [z, uq_at, uq_at, uq_at]; exact ⟨rfl, rfl, rfl⟩
                    · rw [uq_ne (by omega), uq_ne (by omega), uq_ne (by omega)]; exact e6 k (by omega)
              exact key c 0 S6 (by omega) st6 rfl rfl (fun _ _ => rfl) rfl (fun _ _ _ _ _ => rfl) (fun k hk => by omega)
            by_cases z : aI Sr 77 (A 77) v = -1
            · rw [if_pos z]; exact fin 0 (by rw [if_pos z])
            · rw [if_neg z]; exact fin 1 (by rw [if_neg z])
          · rw [if_neg q4]
            exact five (fun z => q4 z.2)
      · rw [if_neg q2]
        exact two (fun z => q2 z.2)
    · rw [if_neg q1]
      exact two (fun z => q1 z.1)
  rw [if_pos hf]
  rcases hpe with ⟨p1, p2⟩ | ⟨e, p1, p2, p3, p4⟩
  · rw [if_pos p1]; exact go p2
  · rw [p2, if_neg (nI_ne_neg (by omega))]
    refine r_isLike h (by omega) hc p3 (fun l => ?_) (fun l => ?_)
    · rw [if_neg (by decide)]; exact go (p4.mpr l)
    · rw [if_pos rfl]
      obtain ⟨q, q2, q3⟩ := hb6 (fun z => l (p4.mp z)) e p1 p2
      refine ⟨_, h.f141, by rw [h.n71]; exact vp_in_nI (by omega) (by omega), ?_⟩
      rw [nI_clamp (by omega), q2]
      unfold wp_X12_bad
      rw [if_pos hf]
      rintro _ rfl _ rfl
      exact out _ 6 (by omega) (by omega) (by simp only [fI_s, fI_sn, fL_s, fL_sn, aI_w, aI_wn, aL_w, aL_wn, fI_sL, fI_wI, fI_wL, fL_sI, fL_wI, fL_wL, aI_sI, aI_sL, aI_wL, aL_sI, aL_sL, aL_wI, fR_sI, fR_sL, fR_wI, fR_wL, aN_sI, aN_sL, aN_wI, aN_wL, ne_eq, Nat.reduceEqDiff, not_false_eq_true]; rfl) q3
end
