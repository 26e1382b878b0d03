/-! The law. -/
section
variable {L i : Nat}
theorem x_in {j : Nat} (hL : L ≤ 2048) (h : 4 * i + 4 ≤ L) (hj : j < 4) : vp_in (nI (4 * i) + nI j) L := by rw [nI_add]; exact vp_in_nI (by omega) (by omega)
/-- between two calls, with room for the calls to come -/
def Gl (q1 q5 q9 rem : Nat) (k : Nat × Nat) (S : PS) : Prop := ∃ A T c, Inv S A T c ∧ (A 8 = q1 ∧ A 9 = q5 ∧ A 119 = q9) ∧ c ≤ 7 ∧ 203 * rem + (7 - c) ≤ k.1 ∧ 3027 * rem + (smv 7 - smv c) ≤ k.2
set_option maxRecDepth 100000 in
set_option maxHeartbeats 8000000 in
theorem law_pure (L : Nat) (xi : Nat → Int32) (hL : L ≤ 2048) : wp_L_law L xi (601024, 7293034) P00 := by
  unfold wp_L_law
  refine ⟨⟨by decide, by decide⟩, ?_⟩
  intro q1 hq1 S2 h2
  refine ⟨⟨by decide, by decide⟩, ?_⟩
  refine i_X11 (by rw [h2]; exact Rf.mkO) (by rw [h2]; exact nO_z hq1) (fun S3 k3 cl3 => ?_)
  refine ⟨⟨by decide, by decide⟩, ?_⟩
  intro q5 hq5 S6 h6
  refine ⟨⟨by decide, by decide⟩, ?_⟩
  refine i_X12 (by rw [h6]; exact Rf.mkO) (by rw [h6]; exact nO_z hq5) (fun S7 k7 rf7 => ?_)
  refine ⟨⟨by decide, by decide⟩, ?_⟩
  intro q9 hq9 S10 h10
  have al1 : Al S3 S6 := by rw [h6]; exact Al.of (W := fun _ => False) (Kws.rf.mkO hq5) (fun _ _ h => h)
  have al2 : Al S3 S7 := ⟨al1.1.tr k7.1, fun b hb => (al1.2 b hb).tr (k7.2 b (al1.1 b hb).1 (fun e => hq5 (by rw [← e]; exact hb)))⟩
  have al3 : Al S7 S10 := by rw [h10]; exact Al.of (W := fun _ => False) (Kws.rf.mkA hq9) (fun _ _ h => h)
  have g0 := inv0 (o := q9) (cl3.al (al2.tr al3)) (rf7.al al3) (by rw [h10]; exact Rf.mkA) (by rw [h10, aN_nA, if_pos rfl])
  clear al1 al2 al3 h10 h6 h2 rf7 cl3 k7 k3
  intro P hP
  have key : ∀ rem i k S, 4 * (i + rem) ≤ L → L < 4 * (i + rem) + 4 → Gl q1 q5 q9 rem k S → P (nI (4 * i)) k S := by
    intro rem
    induction rem with
    | zero =>
      intro i k S l1 l2 _
      apply hP
      have c : (Int32.ofNat L) - 4 < nI (4 * i) := by
        show nI L - 4 < nI (4 * i)
        rw [iJ_n, iJ_n, show (4 : Int32) = iJ 4 from rfl, iJ_sub, iJ_lt (by omega) (by omega) (by omega) (by omega)]
        omega
      rw [if_pos c]
      trivial
    | succ rem ih =>
      intro i k S l1 l2 gl
      obtain ⟨A, T, c, iv, ⟨e8, e9, e119⟩, c7, b1, b2⟩ := gl
      apply hP
      have cn : ¬ (Int32.ofNat L) - 4 < nI (4 * i) := by
        show ¬ nI L - 4 < nI (4 * i)
        rw [iJ_n, iJ_n, show (4 : Int32) = iJ 4 from rfl, iJ_sub, iJ_lt (by omega) (by omega) (by omega) (by omega)]
        omega
      rw [if_neg cn]
      have h4 : 4 * i + 4 ≤ L := by omega
      have v0 : vp_in (nI (4 * i)) L := vp_in_nI (by omega) (by omega)
      have v1 : vp_in (nI (4 * i) + 1) L := x_in (j := 1) hL h4 (by omega)
      have v2 : vp_in (nI (4 * i) + 2) L := x_in (j := 2) hL h4 (by omega)
      have v3 : vp_in (nI (4 * i) + 3) L := x_in (j := 3) hL h4 (by omega)
      refine ⟨v0, ?_⟩
      intro K hK
      have nx : ∀ k' S', Gl q1 q5 q9 rem k' S' → K k' S' := by
        intro k' S' g'
        apply hK
        rintro _ rfl
        have e : nI (4 * i) + 4 = nI (4 * (i + 1)) := by rw [show (4 : Int32) = nI 4 from rfl, nI_add]; rfl
        rw [e]
        exact ih (i + 1) k' S' (by omega) (by omega) g'
      clear hK hP ih
      have mo := smv_mono c7
      by_cases z0 : (xi (nI (4 * i)).toNatClampNeg) &&& 15 = 0
      · rw [if_pos z0]
        refine ⟨v1, v2, v3, ⟨by omega, by omega⟩, ?_⟩
        rw [← e8, ← e9, ← e119]
        exact a_feed (K := fun S' => K (k.1 - 1, k.2 - 6) S') (V1 := fun X => vp_in (nI (4 * i) + 1) L ∧ vp_in (nI (4 * i) + 2) L ∧ vp_in (nI (4 * i) + 3) L ∧ X) iv (fun X hX => ⟨v1, v2, v3, hX⟩) (fun S1 iv1 => nx _ S1 ⟨A, T, c, iv1, ⟨e8, e9, e119⟩, c7, by show _ ≤ k.1 - 1; omega, by show _ ≤ k.2 - 6; omega⟩)
      rw [if_neg z0]
      by_cases z1 : (xi (nI (4 * i)).toNatClampNeg) &&& 15 = 1
      · rw [if_pos z1]
        refine ⟨(201, 3015), ⟨by show 201 ≤ k.1; omega, by show 3015 ≤ k.2; omega⟩, ?_⟩
        rw [← e8, ← e9]
        exact a_read (K := fun S' => K (k.1 - 201, k.2 - 3015) S') iv (fun S1 A' T' iv1 x8 x9 x119 => nx _ S1 ⟨A', T', c, iv1, ⟨x8.trans e8, x9.trans e9, x119.trans e119⟩, c7, by show _ ≤ k.1 - 201; omega, by show _ ≤ k.2 - 3015; omega⟩)
      rw [if_neg z1]
      by_cases z2 : (xi (nI (4 * i)).toNatClampNeg) &&& 15 = 2
      · rw [if_pos z2]
        rw [← e8, ← e9]
        exact a_fault (K := fun S' => K k S') iv (fun S1 iv1 => nx _ S1 ⟨A, T, c, iv1, ⟨e8, e9, e119⟩, c7, by omega, by omega⟩)
      rw [if_neg z2]
      by_cases z3 : (xi (nI (4 * i)).toNatClampNeg) &&& 15 = 3
      · rw [if_pos z3]
        refine ⟨v1, ⟨by omega, by omega⟩, ?_⟩
        rw [← e8, ← e9, ← e119]
        exact a_count (K := fun S' => K (k.1 - 1, k.2 - 6) S') (V1 := fun X => vp_in (nI (4 * i) + 1) L ∧ X) iv (fun X hX => ⟨v1, hX⟩) (fun S1 iv1 => nx _ S1 ⟨A, T, c, iv1, ⟨e8, e9, e119⟩, c7, by show _ ≤ k.1 - 1; omega, by show _ ≤ k.2 - 6; omega⟩)
      rw [if_neg z3]
      by_cases z4 : (xi (nI (4 * i)).toNatClampNeg) &&& 15 = 4
      · rw [if_pos z4]
        refine ⟨v1, v2, ⟨by omega, by omega⟩, ?_⟩
        rw [← e8, ← e9, ← e119]
        exact a_event (K := fun S' => K (k.1 - 2, k.2 - 12) S') (V1 := fun X => vp_in (nI (4 * i) + 1) L ∧ vp_in (nI (4 * i) + 2) L ∧ X) iv (fun X hX => ⟨v1, v2, hX⟩) (fun S1 iv1 => nx _ S1 ⟨A, T, c, iv1, ⟨e8, e9, e119⟩, c7, by show _ ≤ k.1 - 2; omega, by show _ ≤ k.2 - 12; omega⟩)
      rw [if_neg z4]
      by_cases z5 : (xi (nI (4 * i)).toNatClampNeg) &&& 15 = 5
      · rw [if_pos z5]
        refine ⟨v1, v2, v3, ⟨by omega, by omega⟩, ?_⟩
        rw [← e8, ← e9, ← e119]
        exact a_pitch (K := fun S' => K (k.1 - 2, k.2 - 12) S') (V1 := fun X => vp_in (nI (4 * i) + 1) L ∧ vp_in (nI (4 * i) + 2) L ∧ vp_in (nI (4 * i) + 3) L ∧ X) iv (fun X hX => ⟨v1, v2, v3, hX⟩) (fun S1 iv1 => nx _ S1 ⟨A, T, c, iv1, ⟨e8, e9, e119⟩, c7, by show _ ≤ k.1 - 2; omega, by show _ ≤ k.2 - 12; omega⟩)
      rw [if_neg z5]
      by_cases z6 : (xi (nI (4 * i)).toNatClampNeg) &&& 15 = 6
      · rw [if_pos z6]
        refine ⟨v1, v2, v3, ⟨by omega, by omega⟩, ?_⟩
        rw [← e8, ← e9, ← e119]
        exact a_word (K := fun S' => K (k.1 - 2, k.2 - 12) S') (V1 := fun X => vp_in (nI (4 * i) + 1) L ∧ vp_in (nI (4 * i) + 2) L ∧ vp_in (nI (4 * i) + 3) L ∧ X) iv (fun X hX => ⟨v1, v2, v3, hX⟩) (fun S1 iv1 => nx _ S1 ⟨A, T, c, iv1, ⟨e8, e9, e119⟩, c7, by show _ ≤ k.1 - 2; omega, by show _ ≤ k.2 - 12; omega⟩)
      rw [if_neg z6]
      by_cases z7 : (xi (nI (4 * i)).toNatClampNeg) &&& 15 = 7
      · rw [if_pos z7]
        refine ⟨v1, ⟨by omega, by omega⟩, ?_⟩
        rw [← e8, ← e9, ← e119]
        exact a_walk (K := fun S' => K (k.1 - 1, k.2 - 6) S') (V1 := fun X => vp_in (nI (4 * i) + 1) L ∧ X) iv (fun X hX => ⟨v1, hX⟩) (fun S1 iv1 => nx _ S1 ⟨A, T, c, iv1, ⟨e8, e9, e119⟩, c7, by show _ ≤ k.1 - 1; omega, by show _ ≤ k.2 - 6; omega⟩)
      rw [if_neg z7]
      by_cases z8 : (xi (nI (4 * i)).toNatClampNeg) &&& 15 = 8
      · rw [if_pos z8]
        refine ⟨v1, v2, ⟨by omega, by omega⟩, ?_⟩
        rw [← e8, ← e9, ← e119]
        exact a_bar (K := fun S' => K (k.1 - 1, k.2 - 6) S') (V1 := fun X => vp_in (nI (4 * i) + 1) L ∧ vp_in (nI (4 * i) + 2) L ∧ X) iv (fun X hX => ⟨v1, v2, hX⟩) (fun S1 iv1 => nx _ S1 ⟨A, T, c, iv1, ⟨e8, e9, e119⟩, c7, by show _ ≤ k.1 - 1; omega, by show _ ≤ k.2 - 6; omega⟩)
      rw [if_neg z8]
      by_cases z9 : (xi (nI (4 * i)).toNatClampNeg) &&& 15 = 9
      · rw [if_pos z9]
        refine ⟨v1, v2, v3, ⟨by omega, by omega⟩, ?_⟩
        rw [← e8, ← e9, ← e119]
        exact a_at (K := fun S' => K (k.1 - 1, k.2 - 6) S') (V1 := fun X => vp_in (nI (4 * i) + 1) L ∧ vp_in (nI (4 * i) + 2) L ∧ vp_in (nI (4 * i) + 3) L ∧ X) iv (fun X hX => ⟨v1, v2, v3, hX⟩) (fun S1 iv1 => nx _ S1 ⟨A, T, c, iv1, ⟨e8, e9, e119⟩, c7, by show _ ≤ k.1 - 1; omega, by show _ ≤ k.2 - 6; omega⟩)
      rw [if_neg z9]
      by_cases z10 : (xi (nI (4 * i)).toNatClampNeg) &&& 15 = 10
      · rw [if_pos z10]
        obtain ⟨c', ⟨cc, cc7⟩, hw⟩ := a_write iv
        have mo1 := smv_mono cc
        have mo2 := smv_mono cc7
        refine ⟨dif c c', ⟨by show c' - c ≤ k.1; omega, by show smv c' - smv c ≤ k.2; omega⟩, ?_⟩
        rw [← e8, ← e9]
        exact hw (fun S' => K (k.1 - (c' - c), k.2 - (smv c' - smv c)) S') (fun S1 iv1 => nx _ S1 ⟨A, T, c', iv1, ⟨e8, e9, e119⟩, cc7, by show _ ≤ k.1 - (c' - c); omega, by show _ ≤ k.2 - (smv c' - smv c); omega⟩)
      rw [if_neg z10]
      by_cases z11 : (xi (nI (4 * i)).toNatClampNeg) &&& 15 = 11
      · rw [if_pos z11]
        refine ⟨v1, ?_⟩
        rw [← e8, ← e9]
        exact a_printed (K := fun S' => K k S') (V1 := fun X => vp_in (nI (4 * i) + 1) L ∧ X) iv (fun X hX => ⟨v1, hX⟩) (fun S1 iv1 => nx _ S1 ⟨A, T, c, iv1, ⟨e8, e9, e119⟩, c7, by omega, by omega⟩)
      rw [if_neg z11]
      exact nx _ S ⟨A, T, c, iv, ⟨e8, e9, e119⟩, c7, by omega, by omega⟩
  obtain ⟨A, T, iv, e8, e9, e119⟩ := g0
  have s7 : smv 7 = 102976 := rfl
  have s0 : smv 0 = 0 := rfl
  have r1 : 203 * (L / 4) + (7 - 0) ≤ 600887 := by omega
  have r2 : 3027 * (L / 4) + (smv 7 - smv 0) ≤ 7172038 := by rw [s7, s0]; omega
  exact key (L / 4) 0 _ S10 (by omega) (by omega) ⟨A, T, 0, iv, ⟨e8, e9, e119⟩, by omega, r1, r2⟩
end
