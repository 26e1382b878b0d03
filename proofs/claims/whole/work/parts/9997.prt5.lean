/-! The reference writes verses, voices, the whole. -/
def lz (m : Nat) : Int32 := if m = 0 then -1 else nI (m - 1)
section
variable {S S0 S1 : PS} {A : Nat → Nat} {l l0 lv : List Int32} {x f : Int32} {u j : Nat}
variable {E V M nd st t n : Nat} {vo ti le pc : Nat → Nat} {cs : Nat → Nat → Nat} {td co : Nat → Bool} {wp wz : Nat → Nat → Nat} {vb mt mu md : Nat → Nat} {od w : Nat → Int32}
theorem isE_len {a : List Int32} : a.isEmpty = true ↔ a.length = 0 := by cases a <;> simp
theorem bI_ne {a b : List Int32} (h : (a.length = 0 ↔ b.length = 0)) : bI (!a.isEmpty) = bI (!b.isEmpty) := by
  cases a with
  | nil => cases b with
    | nil => rfl
    | cons _ _ => exact absurd (h.mp rfl) (by rw [List.length_cons]; omega)
  | cons _ _ => cases b with
    | nil => exact absurd (h.mpr rfl) (by rw [List.length_cons]; omega)
    | cons _ _ => rfl
theorem bI_one {a : List Int32} (h : a.length ≠ 0) : bI (!a.isEmpty) = 1 := by
  cases a with
  | nil => exact absurd rfl h
  | cons _ _ => rfl
set_option maxHeartbeats 4000000 in
theorem r_putVerse {Q : PS → Prop} (hr0 : Drf S0 A E V M nd st t n vo ti le pc cs td co wp wz vb mt mu md od w) (hd : Dok E V M nd st t n vo ti le pc cs td co wp wz vb mt mu md od w) (hu : u < V) (hj : j < 3) (rp : Rp S0 S A (bI (!(vVr E V vo le pc cs td co wp wz vb w u j).isEmpty)) (l0 ++ vVr E V vo le pc cs td co wp wz vb w u j)) (hL : (l0 ++ vVr E V vo le pc cs td co wp wz vb w u (j + 1)).length ≤ 40000) (hQ : ∀ S1, Rp S0 S1 A (bI (!(vVr E V vo le pc cs td co wp wz vb w u (j + 1)).isEmpty)) (l0 ++ vVr E V vo le pc cs td co wp wz vb w u (j + 1)) → Q S1) : wp_X12_putVerse (A 9) (nI u) (nI (j + 1)) S Q := by
  have lm := hr0.1
  have hE := hd.1
  have hD : ∀ {S2 f2 l2}, Rp S0 S2 A f2 l2 → Drf S2 A E V M nd st t n vo ti le pc cs td co wp wz vb mt mu md od w := fun p => p.drf hr0
  have d0 := hD rp
  have vi : ∀ {r i : Nat}, r = 300 → i < E → vp_in (nI i) r := fun h hi => by rw [h]; exact vp_in_nI (by omega) (by omega)
  have vw : ∀ {r i : Nat}, r = 900 → i < E → vp_in (nI (3 * i + j)) r := fun h hi => by rw [h]; exact vp_in_nI (by omega) (by omega)
  have t3 : ∀ i, ((3 : Int32) * nI i) + nI (j + 1) - 1 = nI (3 * i + j) := fun i => by rw [three' i (j + 1) (by omega), show j + 1 - 1 = j by omega]
  unfold wp_X12_putVerse
  intro P hP
  have key : ∀ g i, i + g = E → P (lz (lsu vo wz u j i)) (nI i) S := by
    intro g
    induction g with
    | zero =>
      intro i hi
      have ei : i = E := by omega
      subst ei
      apply hP
      rw [d0.2.1.1, if_pos (nI_le (by omega) (by omega))]
      have ll := lsu_le (vo := vo) (wz := wz) (u := u) (j := j) i
      by_cases z : lsu vo wz u j i = 0
      · rw [if_pos (by unfold lz; rw [if_pos z])]
        have ev : vVr i V vo le pc cs td co wp wz vb w u (j + 1) = vVr i V vo le pc cs td co wp wz vb w u j := by rw [vVr, if_pos z]
        rw [ev] at hQ
        exact hQ S rp
      · have ev : vVr i V vo le pc cs td co wp wz vb w u (j + 1) = vVr i V vo le pc cs td co wp wz vb w u j ++ gpL (vVr i V vo le pc cs td co wp wz vb w u j) ++ vsL vo pc co wp wz w u j (lsu vo wz u j i) := by rw [vVr, if_neg z]
        obtain ⟨m, hm⟩ : ∃ m, lsu vo wz u j i = m + 1 := ⟨lsu vo wz u j i - 1, by omega⟩
        rw [hm] at ev ll
        have elz : lz (lsu vo wz u j i) = nI m := by unfold lz; rw [if_neg z, hm]; rfl
        rw [elz, if_neg (nI_ne_neg (by omega))]
        have ef : bI (!(vVr i V vo le pc cs td co wp wz vb w u (j + 1)).isEmpty) = 1 := bI_one (by rw [ev]; unfold vsL; simp only [List.length_append, List.length_cons]; omega)
        rw [ef] at hQ
        generalize hb : vVr i V vo le pc cs td co wp wz vb w u j = lb at *
        have eA : l0 ++ vVr i V vo le pc cs td co wp wz vb w u (j + 1) = l0 ++ lb ++ gpL lb ++ [87] ++ [32] ++ [nI (48 + (j + 1))] ++ [32] ++ [34] ++ wdL vo pc co wp wz w u j (m + 1) ++ [34] := by rw [ev]; unfold vsL; simp only [List.append_assoc, List.cons_append, List.nil_append]
        rw [eA] at hL hQ
        have hL' : l0.length + lb.length + (gpL lb).length + 5 + (wdL vo pc co wp wz w u j (m + 1)).length + 1 ≤ 40000 := by simp only [List.length_append, List.length_cons, List.length_nil] at hL; omega
        clear hL
        refine r_apart lm rp (by simp only [List.length_append, List.length_cons, List.length_nil]; omega) (fun S1 rp1 => ?_)
        refine r_put lm rp1 (by simp only [List.length_append, List.length_cons, List.length_nil]; omega) (fun S2 rp2 => ?_)
        refine r_put lm rp2 (by simp only [List.length_append, List.length_cons, List.length_nil]; omega) (fun S3 rp3 => ?_)
        rw [show (48 : Int32) = nI 48 from rfl, nI_add]
        refine r_put lm rp3 (by simp only [List.length_append, List.length_cons, List.length_nil]; omega) (fun S4 rp4 => ?_)
        refine r_put lm rp4 (by simp only [List.length_append, List.length_cons, List.length_nil]; omega) (fun S5 rp5 => ?_)
        refine r_put lm rp5 (by simp only [List.length_append, List.length_cons, List.length_nil]; omega) (fun S6 rp6 => ?_)
        have e5 : (l0 ++ lb ++ gpL lb ++ [87] ++ [32] ++ [nI (48 + (j + 1))] ++ [32] ++ [34]).length = l0.length + lb.length + (gpL lb).length + 5 := by simp only [List.length_append, List.length_cons, List.length_nil]
        generalize l0 ++ lb ++ gpL lb ++ [87] ++ [32] ++ [nI (48 + (j + 1))] ++ [32] ++ [34] = l5 at *
        clear rp1 rp2 rp3 rp4 rp5
        intro P2 hP2
        have wm : ∀ q, q ≤ m + 1 → (wdL vo pc co wp wz w u j q).length ≤ (wdL vo pc co wp wz w u j (m + 1)).length := fun q hq => mono_len (f := wdL vo pc co wp wz w u j) wdL_mono hq
        have key2 : ∀ g q S7, q + g = m + 1 → Rp S0 S7 A 1 (l5 ++ wdL vo pc co wp wz w u j q) → P2 (bI (!(wdL vo pc co wp wz w u j q).isEmpty)) (nI q) S7 := by
          intro g
          induction g with
          | zero =>
            intro q S7 hq rp7
            apply hP2
            rw [if_pos (nI_lt (by omega) (by omega))]
            rw [show q = m + 1 by omega] at rp7
            exact r_put lm rp7 (by simp only [List.length_append, List.length_cons, List.length_nil]; omega) (fun S8 rp8 => hQ S8 rp8)
          | succ g ih =>
            intro q S7 hq rp7
            have d7 := hD rp7
            have dq := d7.2.2.1 q (by omega)
            have vq := (hd.2.1 q (by omega)).1.1
            have p6 := (hd.2.1 q (by omega)).2.1.1
            obtain ⟨⟨b1, b2⟩, b3, _⟩ := (hd.2.1 q (by omega)).2.2.2 j hj
            have cq : (nI q).toNatClampNeg = q := nI_clamp (by omega)
            have c3 : (nI (3 * q + j)).toNatClampNeg = 3 * q + j := nI_clamp (by omega)
            have wq := wm (q + 1) (by omega)
            apply hP2
            rw [if_neg (nI_nlt (by omega) (by omega))]
            refine ⟨_, d7.1.f190, vi d7.1.n102 (by omega), ?_⟩
            intro K hK
            have no : ¬ (vo q = u ∧ 0 < pc q ∧ co q = false) → K (bI (!(wdL vo pc co wp wz w u j q).isEmpty)) S7 := by
              intro z
              apply hK
              rintro _ rfl
              rw [nI_1]
              have ew : wdL vo pc co wp wz w u j (q + 1) = wdL vo pc co wp wz w u j q := by rw [wdL, if_neg z]
              rw [← ew]
              exact ih (q + 1) S7 (by omega) (by rw [ew]; exact rp7)
            rw [cq, dq.1.1]
            by_cases z1 : vo q = u
            · rw [if_pos (by rw [z1])]
              refine ⟨_, d7.1.f191, vi d7.1.n103 (by omega), ?_⟩
              rw [dq.1.2.1]
              by_cases z2 : 0 < pc q
              · rw [if_neg (nI_nle z2 (by omega))]
                refine ⟨_, d7.1.f193, vi d7.1.n105 (by omega), ?_⟩
                rw [dq.1.2.2.2.1]
                by_cases z3 : co q = false
                · rw [if_pos (by rw [bI_z]; exact z3)]
                  have ew : wdL vo pc co wp wz w u j (q + 1) = wdL vo pc co wp wz w u j q ++ gpL (wdL vo pc co wp wz w u j q) ++ syL w wp wz q j := by rw [wdL, if_pos ⟨z1, z2, z3⟩]
                  have es := syL_len hd (e := q) (by omega) hj
                  have lw : (wdL vo pc co wp wz w u j (q + 1)).length = (wdL vo pc co wp wz w u j q).length + (gpL (wdL vo pc co wp wz w u j q)).length + (syL w wp wz q j).length := by rw [ew, List.length_append, List.length_append]
                  intro K2 hK2
                  have last : ∀ S9, Rp S0 S9 A 1 (l5 ++ wdL vo pc co wp wz w u j (q + 1)) → K 1 S9 := by
                    intro S9 rp9
                    apply hK
                    rintro _ rfl
                    rw [nI_1]
                    have := ih (q + 1) S9 (by omega) rp9
                    rw [bI_one (by omega)] at this
                    exact this
                  have fin : ∀ S8, Rp S0 S8 A 1 (l5 ++ wdL vo pc co wp wz w u j q ++ gpL (wdL vo pc co wp wz w u j q)) → K2 S8 := by
                    intro S8 rp8
                    apply hK2
                    rintro _ rfl
                    rw [t3]
                    generalize hl6 : l5 ++ wdL vo pc co wp wz w u j q ++ gpL (wdL vo pc co wp wz w u j q) = l6 at *
                    have e6 : l6.length = l5.length + (wdL vo pc co wp wz w u j q).length + (gpL (wdL vo pc co wp wz w u j q)).length := by rw [← hl6, List.length_append, List.length_append]
                    have e7 : l5 ++ wdL vo pc co wp wz w u j (q + 1) = l6 ++ syL w wp wz q j := by rw [ew, ← hl6]; simp only [List.append_assoc]
                    rw [e7] at last
                    intro P3 hP3
                    have key3 : ∀ g i S9, i + g = wz q j → Rp S0 S9 A 1 (l6 ++ sbL w (wp q j) i) → P3 (nI i) S9 := by
                      intro g
                      induction g with
                      | zero =>
                        intro i S9 hi rp9
                        have d9 := hD rp9
                        have dw := (d9.2.2.1 q (by omega)).2.2 j hj
                        apply hP3
                        refine ⟨_, d9.1.f200, vw d9.1.n112 (by omega), ?_⟩
                        rw [c3, dw.2, if_pos (nI_le (by omega) (by omega))]
                        refine ⟨_, d9.1.f200, vw d9.1.n112 (by omega), ?_⟩
                        rw [dw.2]
                        unfold syL at last es lw
                        by_cases z4 : wz q j = 0
                        · rw [if_pos (by rw [z4]; rfl)]
                          rw [if_pos z4] at last lw
                          have ei : i = 0 := by omega
                          subst ei
                          rw [sbL, List.append_nil] at rp9
                          exact r_put lm rp9 (by rw [List.length_append]; omega) (fun S10 rp10 => last S10 rp10)
                        · rw [if_neg (nI_ne0 (by omega) (by omega))]
                          rw [if_neg z4] at last
                          rw [show i = wz q j by omega] at rp9
                          exact last S9 rp9
                      | succ g ih3 =>
                        intro i S9 hi rp9
                        have d9 := hD rp9
                        have dw := (d9.2.2.1 q (by omega)).2.2 j hj
                        apply hP3
                        refine ⟨_, d9.1.f200, vw d9.1.n112 (by omega), ?_⟩
                        rw [c3, dw.2, if_neg (nI_ge (by omega) (by omega))]
                        refine ⟨_, d9.1.f189, _, d9.1.f199, vw d9.1.n111 (by omega), ?_⟩
                        rw [dw.1 (by omega), nI_add]
                        refine ⟨by rw [d9.1.n101]; exact vp_in_nI (by omega) (by omega), ?_⟩
                        rw [nI_clamp (by omega), d9.2.2.2.2.2.2 _ (by omega)]
                        have es2 : (syL w wp wz q j).length = wz q j := by unfold syL; rw [if_neg (by omega), sbL_len]
                        refine r_put lm rp9 (by rw [List.length_append, List.length_append, sbL_len]; show _ + 1 ≤ _; omega) (fun S10 rp10 => ?_)
                        rintro _ rfl
                        rw [nI_1]
                        rw [List.append_assoc] at rp10
                        exact ih3 (i + 1) S10 (by omega) rp10
                    exact key3 (wz q j) 0 S8 (by omega) (by rw [sbL, List.append_nil]; exact rp8)
                  by_cases z5 : (wdL vo pc co wp wz w u j q).length = 0
                  · have eg : gpL (wdL vo pc co wp wz w u j q) = [] := if_pos z5
                    rw [eg, List.append_nil] at fin
                    rw [if_pos (by rw [bI_z, isE_len.mpr z5]; rfl)]
                    exact fin S7 rp7
                  · have eg : gpL (wdL vo pc co wp wz w u j q) = [32] := if_neg z5
                    rw [if_neg (by rw [bI_one z5]; decide)]
                    refine r_put lm rp7 (by rw [eg, List.length_cons, List.length_nil] at lw; simp only [List.length_append, List.length_cons, List.length_nil]; omega) (fun S8 rp8 => fin S8 ?_)
                    rw [eg]; exact rp8
                · rw [if_neg (by rw [bI_z]; exact z3)]; exact no (fun y => z3 y.2.2)
              · rw [if_pos (by rw [show pc q = 0 by omega]; decide)]; exact no (fun y => z2 y.2.1)
            · rw [if_neg (by rw [nI_eq (by omega) (by omega)]; exact z1)]; exact no (fun y => z1 y.1)
        exact key2 (m + 1) 0 S6 (by omega) (by rw [wdL, List.append_nil]; exact rp6)
    | succ g ih =>
      intro i hi
      have vq := (hd.2.1 i (by omega)).1.1
      have wb := ((hd.2.1 i (by omega)).2.2.2 j hj).1.1
      have dq := d0.2.2.1 i (by omega)
      apply hP
      rw [d0.2.1.1, if_neg (nI_ge (by omega) (by omega))]
      refine ⟨_, d0.1.f190, vi d0.1.n102 (by omega), ?_⟩
      intro K hK
      have nx := ih (i + 1) (by omega)
      rw [lsu] at nx
      rw [nI_clamp (by omega), dq.1.1]
      by_cases z1 : vo i = u
      · rw [if_pos (by rw [z1]), t3]
        refine ⟨_, d0.1.f200, vw d0.1.n112 (by omega), ?_⟩
        rw [nI_clamp (by omega), (dq.2.2 j hj).2]
        by_cases z2 : 0 < wz i j
        · rw [if_pos ⟨z1, z2⟩] at nx
          rw [if_neg (nI_nle z2 (by omega))]
          apply hK
          rintro _ rfl
          rw [nI_1]
          exact nx
        · rw [if_neg (fun y => z2 y.2)] at nx
          rw [if_pos (by rw [show wz i j = 0 by omega]; decide)]
          apply hK
          rintro _ rfl
          rw [nI_1]
          exact nx
      · rw [if_neg (fun y => z1 y.1)] at nx
        rw [if_neg (by rw [nI_eq (by omega) (by omega)]; exact z1)]
        apply hK
        rintro _ rfl
        rw [nI_1]
        exact nx
  exact key E 0 (by omega)
set_option maxHeartbeats 4000000 in
theorem r_putVoice {Q : PS → Prop} (hr0 : Drf S0 A E V M nd st t n vo ti le pc cs td co wp wz vb mt mu md od w) (hd : Dok E V M nd st t n vo ti le pc cs td co wp wz vb mt mu md od w) (hu : u < V) (rp : Rp S0 S A f l) (hL : (l ++ vVr E V vo le pc cs td co wp wz vb w u 3).length ≤ 40000) (hQ : ∀ S1 f1, Rp S0 S1 A f1 (l ++ vVr E V vo le pc cs td co wp wz vb w u 3) → Q S1) : wp_X12_putVoice (A 9) (nI u) S Q := by
  have lm := hr0.1
  have hE := hd.1
  have hvb := hd.2.2.1 u hu
  have hD : ∀ {S2 f2 l2}, Rp S0 S2 A f2 l2 → Drf S2 A E V M nd st t n vo ti le pc cs td co wp wz vb mt mu md od w := fun p => p.drf hr0
  have mV : ∀ i, i ≤ 3 → (vVr E V vo le pc cs td co wp wz vb w u i).length ≤ (vVr E V vo le pc cs td co wp wz vb w u 3).length := fun i hi => mono_len (f := vVr E V vo le pc cs td co wp wz vb w u) vVr_mono hi
  have mE : ∀ i, i ≤ E → (vEv vo le pc cs td vb u i).length ≤ (vVr E V vo le pc cs td co wp wz vb w u 3).length := fun i hi => Nat.le_trans (mono_len (f := vEv vo le pc cs td vb u) vEv_mono hi) (mV 0 (by omega))
  have m0 : (vbL (vb u)).length ≤ (vVr E V vo le pc cs td co wp wz vb w u 3).length := mE 0 (by omega)
  rw [List.length_append] at hL
  have cu : (nI u).toNatClampNeg = u := nI_clamp (by omega)
  unfold wp_X12_putVoice
  rintro _ rfl
  have rp1 : Rp S0 (sI S 214 (A 9) 0) A 0 l := by
    obtain ⟨k, h1, h2, h3⟩ := rp
    exact ⟨k.sI rfl, by rw [fI_sn _ _ _ _ _ (by decide)]; exact h1, h2, fI_s _ _ _ _⟩
  generalize sI S 214 (A 9) 0 = S1 at *
  have d1 := hD rp1
  have v12 : ∀ {r : Nat}, r = 12 → vp_in (nI u) r := fun h => by rw [h]; exact vp_in_nI (by omega) (by omega)
  refine ⟨_, d1.1.f202, v12 d1.1.n114, ?_⟩
  intro K hK
  have rest : ∀ S2, Rp S0 S2 A (bI (!(vbL (vb u)).isEmpty)) (l ++ vbL (vb u)) → K S2 := by
    intro S2 rp2
    apply hK
    intro P hP
    have key : ∀ i q S3, q + i = E → Rp S0 S3 A (bI (!(vEv vo le pc cs td vb u q).isEmpty)) (l ++ vEv vo le pc cs td vb u q) → P (nI q) S3 := by
      intro i
      induction i with
      | zero =>
        intro q S3 hq rp3
        have d3 := hD rp3
        apply hP
        rw [d3.2.1.1, if_pos (nI_le (by omega) (by omega))]
        rw [show q = E by omega] at rp3
        intro R hR
        have key2 : ∀ i j S4, j + i = 3 → Rp S0 S4 A (bI (!(vVr E V vo le pc cs td co wp wz vb w u j).isEmpty)) (l ++ vVr E V vo le pc cs td co wp wz vb w u j) → R (nI (j + 1)) S4 := by
          intro i
          induction i with
          | zero =>
            intro j S4 hj rp4
            apply hR
            rw [show (4 : Int32) = nI 4 from rfl, if_pos (nI_le (by omega) (by omega))]
            rw [show j = 3 by omega] at rp4
            exact hQ S4 _ rp4
          | succ i ih2 =>
            intro j S4 hj rp4
            have mj := mV (j + 1) (by omega)
            apply hR
            rw [show (4 : Int32) = nI 4 from rfl, if_neg (nI_ge (by omega) (by omega))]
            refine r_putVerse hr0 hd hu (by omega) rp4 (by rw [List.length_append]; omega) (fun S5 rp5 => ?_)
            rintro _ rfl
            rw [nI_1]
            exact ih2 (j + 1) S5 (by omega) rp5
        exact key2 3 0 S3 (by omega) rp3
      | succ i ih =>
        intro q S3 hq rp3
        have d3 := hD rp3
        have lv := mE (q + 1) (by omega)
        have vq := (hd.2.1 q (by omega)).1.1
        apply hP
        rw [d3.2.1.1, if_neg (nI_ge (by omega) (by omega))]
        refine ⟨_, d3.1.f190, by rw [d3.1.n102]; exact vp_in_nI (by omega) (by omega), ?_⟩
        intro K2 hK2
        rw [nI_clamp (by omega), (d3.2.2.1 q (by omega)).1.1]
        by_cases z : vo q = u
        · rw [if_pos (by rw [z])]
          have ev : vEv vo le pc cs td vb u (q + 1) = vEv vo le pc cs td vb u q ++ gpL (vEv vo le pc cs td vb u q) ++ evL le pc cs td q := by rw [vEv, if_pos z]
          have ea : l ++ vEv vo le pc cs td vb u q ++ gpL (vEv vo le pc cs td vb u q) ++ evL le pc cs td q = l ++ vEv vo le pc cs td vb u (q + 1) := by rw [ev]; simp only [List.append_assoc]
          have ne : (vEv vo le pc cs td vb u (q + 1)).length ≠ 0 := by rw [ev]; unfold evL; simp only [List.length_append, List.length_cons]; omega
          refine r_putEvent hr0 hd (by omega) rp3 (by rw [ea, List.length_append]; omega) (fun S5 rp5 => ?_)
          apply hK2
          rintro _ rfl
          rw [nI_1]
          rw [ea] at rp5
          exact ih (q + 1) S5 (by omega) (by rw [bI_one ne]; exact rp5)
        · rw [if_neg (by rw [nI_eq (by omega) (by omega)]; exact z)]
          apply hK2
          rintro _ rfl
          rw [nI_1]
          have ev : vEv vo le pc cs td vb u (q + 1) = vEv vo le pc cs td vb u q := by rw [vEv, if_neg z]
          exact ih (q + 1) S3 (by omega) (by rw [ev]; exact rp3)
    exact key E 0 S2 (by omega) rp2
  rw [cu, d1.2.2.2.1 u hu]
  unfold vbL at rest m0
  by_cases z : vb u = 0
  · rw [if_pos z, List.append_nil] at rest
    rw [z, if_pos (by decide)]
    exact rest S1 rp1
  · rw [if_neg z] at rest m0
    rw [show (0 : Int64) = lN 0 from rfl, if_neg (fun y => by rw [lN_leq (by omega) (by omega)] at y; omega)]
    have e4 : (114 :: 58 :: numL (vb u)).length = (numL (vb u)).length + 2 := rfl
    have eg : gpL ([] : List Int32) = [] := rfl
    refine r_apart (l0 := l) (lv := []) lm (by rw [List.append_nil]; exact rp1) (by rw [eg]; simp only [List.append_nil]; omega) (fun S2 rp2 => ?_)
    rw [eg] at rp2
    simp only [List.append_nil] at rp2
    refine r_put lm rp2 (by rw [List.length_append]; show _ + 1 ≤ _; omega) (fun S3 rp3 => ?_)
    refine r_put lm rp3 (by rw [List.length_append, List.length_append]; show _ + 1 + 1 ≤ _; omega) (fun S4 rp4 => ?_)
    have d4 := hD rp4
    refine ⟨_, d4.1.f202, v12 d4.1.n114, ?_⟩
    rw [d4.2.2.2.1 u hu]
    have e1 : l ++ [114] ++ [58] ++ numL (vb u) = l ++ 114 :: 58 :: numL (vb u) := by simp only [List.append_assoc, List.cons_append, List.nil_append]
    refine r_putNum lm rp4 (by omega) (by rw [e1, List.length_append]; omega) (fun S5 rp5 => ?_)
    rw [e1] at rp5
    exact rest S5 rp5
set_option maxHeartbeats 4000000 in
theorem r_write {Q : Int32 → PS → Prop} (hr : Drf S A E V M nd st t n vo ti le pc cs td co wp wz vb mt mu md od w) (hd : Dok E V M nd st t n vo ti le pc cs td co wp wz vb mt mu md od w) (hQ : ∀ S1 f1, Rp (sI S 96 (A 9) 0) S1 A f1 (alL E V vo le pc cs td co wp wz vb w) → Q (nI (alL E V vo le pc cs td co wp wz vb w).length) S1) : wp_X12_write (A 9) S Q := by
  have hL := alL_len hd
  have hE := hd.1
  unfold wp_X12_write
  rintro _ rfl
  rintro _ rfl
  have hr0 := hr.s96 (v := 0)
  generalize sI S 96 (A 9) 0 = S0 at *
  have lm := hr0.1
  have hD : ∀ {S2 f2 l2}, Rp S0 S2 A f2 l2 → Drf S2 A E V M nd st t n vo ti le pc cs td co wp wz vb mt mu md od w := fun p => p.drf hr0
  have rp : Rp S0 (sI S0 213 (A 9) 0) A (fI S0 214 (A 9)) [] := ⟨Keep.rf.sI rfl, fI_s _ _ _ _, fun i hi => absurd hi (Nat.not_lt_zero _), by rw [fI_sn _ _ _ _ _ (by decide)]⟩
  generalize sI S0 213 (A 9) 0 = S1 at *
  have mT : ∀ i, i ≤ V → (toL E V vo le pc cs td co wp wz vb w i).length ≤ (toL E V vo le pc cs td co wp wz vb w V).length := fun i hi => mono_len (f := toL E V vo le pc cs td co wp wz vb w) toL_mono hi
  have eA : (alL E V vo le pc cs td co wp wz vb w).length = (toL E V vo le pc cs td co wp wz vb w V).length + (if 1 < V then 2 else 0) := by unfold alL; rw [List.length_append]; split <;> rfl
  have sq : ∀ i, (toL E V vo le pc cs td co wp wz vb w (i + 1)).length = (toL E V vo le pc cs td co wp wz vb w i).length + (spL V i).length + (vVr E V vo le pc cs td co wp wz vb w i 3).length := fun i => by rw [toL]; simp only [List.length_append]; omega
  intro P hP
  have key : ∀ i u S2 f2, u + i = V → Rp S0 S2 A f2 (toL E V vo le pc cs td co wp wz vb w u) → P (nI u) S2 := by
    intro i
    induction i with
    | zero =>
      intro u S2 f2 hu rp2
      have eu : u = V := by omega
      subst eu
      have d2 := hD rp2
      apply hP
      rw [d2.2.1.2.1, if_pos (nI_le (by omega) (by omega))]
      intro K hK
      have ans : ∀ S3 f3, Rp S0 S3 A f3 (alL E u vo le pc cs td co wp wz vb w) → K S3 := by
        intro S3 f3 rp3
        apply hK
        rw [rp3.2.1]
        exact hQ S3 f3 rp3
      rw [show (1 : Int32) = nI 1 from rfl]
      by_cases z : 1 < u
      · rw [if_neg (nI_ge z (by omega))]
        rw [if_pos z] at eA
        have ea : toL E u vo le pc cs td co wp wz vb w u ++ [32] ++ [93] = alL E u vo le pc cs td co wp wz vb w := by unfold alL; rw [if_pos z, List.append_assoc]; rfl
        refine r_put lm rp2 (by rw [List.length_append]; show _ + 1 ≤ _; omega) (fun S3 rp3 => r_put lm rp3 (by rw [ea]; exact hL) (fun S4 rp4 => ?_))
        rw [ea] at rp4
        exact ans S4 _ rp4
      · rw [if_pos (nI_le (by omega) (by omega))]
        unfold alL at ans
        rw [if_neg z, List.append_nil] at ans
        exact ans S2 f2 rp2
    | succ i ih =>
      intro u S2 f2 hu rp2
      have d2 := hD rp2
      have mu1 := mT (u + 1) (by omega)
      have su := sq u
      apply hP
      rw [d2.2.1.2.1, if_neg (nI_ge (by omega) (by omega))]
      intro K hK
      have voi : ∀ S3 f3 l3, Rp S0 S3 A f3 l3 → l3 ++ vVr E V vo le pc cs td co wp wz vb w u 3 = toL E V vo le pc cs td co wp wz vb w (u + 1) → K S3 := by
        intro S3 f3 l3 rp3 e3
        apply hK
        refine r_putVoice hr0 hd (by omega) rp3 (by rw [e3]; omega) (fun S4 f4 rp4 => ?_)
        rintro _ rfl
        rw [nI_1]
        rw [e3] at rp4
        exact ih (u + 1) S4 f4 (by omega) rp4
      rw [show (1 : Int32) = nI 1 from rfl]
      by_cases z : 1 < V
      · rw [if_neg (nI_ge z (by omega))]
        intro K2 hK2
        by_cases z0 : u = 0
        · subst z0
          have es : spL V 0 = [91, 32] := by unfold spL; rw [if_pos rfl, if_pos z]
          have es2 : (spL V 0).length = 2 := by rw [es]; rfl
          rw [if_pos (by decide)]
          apply hK2
          refine r_put lm rp2 (by rw [List.length_append]; show _ + 1 ≤ _; omega) (fun S3 rp3 => ?_)
          intro K3 hK3
          rw [if_pos (by decide)]
          apply hK3
          refine r_put lm rp3 (by rw [List.length_append, List.length_append]; show _ + 1 + 1 ≤ _; omega) (fun S4 rp4 => ?_)
          exact voi S4 f2 _ rp4 (by show _ = toL E V vo le pc cs td co wp wz vb w 0 ++ (spL V 0 ++ vVr E V vo le pc cs td co wp wz vb w 0 3); rw [es]; simp only [List.append_assoc, List.cons_append, List.nil_append])
        · have es : spL V u = [32, 47, 32] := if_neg z0
          have es2 : (spL V u).length = 3 := by rw [es]; rfl
          rw [if_neg (nI_ne0 (by omega) (by omega))]
          apply hK2
          refine r_put lm rp2 (by rw [List.length_append]; show _ + 1 ≤ _; omega) (fun S3 rp3 => ?_)
          intro K3 hK3
          rw [if_neg (nI_nle (by omega) (by omega))]
          refine r_put lm rp3 (by rw [List.length_append, List.length_append]; show _ + 1 + 1 ≤ _; omega) (fun S4 rp4 => ?_)
          apply hK3
          refine r_put lm rp4 (by rw [List.length_append, List.length_append, List.length_append]; show _ + 1 + 1 + 1 ≤ _; omega) (fun S5 rp5 => ?_)
          exact voi S5 f2 _ rp5 (by rw [toL, es]; simp only [List.append_assoc, List.cons_append, List.nil_append])
      · rw [if_pos (nI_le (by omega) (by omega))]
        have eu : u = 0 := by omega
        subst eu
        have es : spL V 0 = [] := by unfold spL; rw [if_pos rfl, if_neg z]
        exact voi S2 f2 _ rp2 (by show _ = toL E V vo le pc cs td co wp wz vb w 0 ++ (spL V 0 ++ vVr E V vo le pc cs td co wp wz vb w 0 3); rw [es, List.nil_append])
  exact key V 0 S1 _ (by omega) rp
end
