/-! The reference tells: meters, voices, text. -/
def TLS (a : Nat) (S12 : PS) (Q : PS → Prop) : Prop :=
  (∀ S13, S13 = sI S12 206 a (fI S12 146 a) → (∀ S14, S14 = sI S13 207 a (fI S13 149 a) → (∀ S15, S15 = sI S14 208 a (fI S14 125 a) → (∀ S16, S16 = sI S15 209 a (fI S15 154 a) → (∀ S17, S17 = sI S16 210 a (fI S16 153 a) → (∀ S18, S18 = sL S17 211 a (fL S17 156 a) → RKL a S18 Q))))))
def MTL (a : Nat) (S9 : PS) (Q : PS → Prop) : Prop :=
  (∀ P314_10 : Int32 → PS → Prop, (∀ (x1_11 : Int32) (S12 : PS),
 (if fI S12 153 a ≤ x1_11 then
 TLS a S12 Q
 else
 (∃ b46, fR S12 203 a = some b46 ∧ (∃ b47, fR S12 150 a = some b47 ∧ (vp_in x1_11 (aN S12 b47) ∧ (vp_in x1_11 (aN S12 b46) ∧ ∀ S48, S48 = wL S12 115 b46 (x1_11).toNatClampNeg (aL S12 78 b47 (x1_11).toNatClampNeg) → (∃ b49, fR S48 204 a = some b49 ∧ (∃ b50, fR S48 151 a = some b50 ∧ (vp_in x1_11 (aN S48 b50) ∧ (vp_in x1_11 (aN S48 b49) ∧ ∀ S51, S51 = wI S48 116 b49 (x1_11).toNatClampNeg (aI S48 79 b50 (x1_11).toNatClampNeg) → (∃ b52, fR S51 205 a = some b52 ∧ (∃ b53, fR S51 152 a = some b53 ∧ (vp_in x1_11 (aN S51 b53) ∧ (vp_in x1_11 (aN S51 b52) ∧ ∀ S54, S54 = wI S51 117 b52 (x1_11).toNatClampNeg (aI S51 80 b53 (x1_11).toNatClampNeg) → (∀ v55, v55 = x1_11 + 1 → P314_10 v55 S54))))))))))))))
 → P314_10 x1_11 S12) → P314_10 0 S9)
def VOL (a : Nat) (S6 : PS) (Q : PS → Prop) : Prop :=
  (∀ P286_7 : Int32 → PS → Prop, (∀ (x1_8 : Int32) (S9 : PS),
 (if fI S9 149 a ≤ x1_8 then
 MTL a S9 Q
 else
 (∃ b56, fR S9 202 a = some b56 ∧ (∃ b57, fR S9 147 a = some b57 ∧ (vp_in x1_8 (aN S9 b57) ∧ (vp_in x1_8 (aN S9 b56) ∧ ∀ S58, S58 = wL S9 114 b56 (x1_8).toNatClampNeg (aL S9 76 b57 (x1_8).toNatClampNeg) → (∀ v59, v59 = x1_8 + 1 → P286_7 v59 S58))))))
 → P286_7 x1_8 S9) → P286_7 0 S6)
def WOL (a : Nat) (x1_5 : Int32) (P30_4 : Int32 → PS → Prop) (v83 : Int32) (S81 : PS) : Prop :=
  (∀ P176_84 : Int32 → PS → Prop, (∀ (x2_85 : Int32) (S86 : PS),
 (if ((3 : Int32) * x1_5) + 3 ≤ x2_85 then
 (∀ v87, v87 = x1_5 + 1 → P30_4 v87 S86)
 else
 (∃ b88, fR S86 145 a = some b88 ∧ (vp_in x2_85 (aN S86 b88) ∧ (∀ v89, v89 = aI S86 75 b88 (x2_85).toNatClampNeg → (∀ K228_92 : Int32 → PS → Prop, (∀ (t90 : Int32) (S91 : PS),
 (∃ b93, fR S91 199 a = some b93 ∧ (∀ K250_98 : Nat → Int32 → Int32 → PS → Prop, (∀ (t94 : Nat) (t95 : Int32) (t96 : Int32) (S97 : PS),
 (vp_in t95 (aN S97 t94) ∧ ∀ S99, S99 = wI S97 111 t94 (t95).toNatClampNeg t96 → (∃ b100, fR S99 200 a = some b100 ∧ (∀ K271_105 : Nat → Int32 → Int32 → PS → Prop, (∀ (t101 : Nat) (t102 : Int32) (t103 : Int32) (S104 : PS),
 (vp_in t102 (aN S104 t101) ∧ ∀ S106, S106 = wI S104 112 t101 (t102).toNatClampNeg t103 → (∀ v107, v107 = x2_85 + 1 → P176_84 v107 S106))
 → K271_105 t101 t102 t103 S104) →
 (if t90 = 0 then
 K271_105 b100 x2_85 0 S99
 else
 (∃ b108, fR S99 119 a = some b108 ∧ (vp_in v89 (aN S99 b108) ∧ K271_105 b100 x2_85 (aI S99 54 b108 (v89).toNatClampNeg) S99))))))
 → K250_98 t94 t95 t96 S97) →
 (if t90 = 0 then
 K250_98 b93 x2_85 0 S91
 else
 (∃ b109, fR S91 118 a = some b109 ∧ (vp_in v89 (aN S91 b109) ∧ K250_98 b93 x2_85 (aI S91 53 b109 (v89).toNatClampNeg) S91)))))
 → K228_92 t90 S91) →
 (if v89 = (-1) then
 K228_92 0 S86
 else
 (∃ b110, fR S86 119 a = some b110 ∧ (vp_in v89 (aN S86 b110) ∧ (if aI S86 54 b110 (v89).toNatClampNeg = 1 then
 (∃ b111, fR S86 99 a = some b111 ∧ (∃ b112, fR S86 118 a = some b112 ∧ (vp_in v89 (aN S86 b112) ∧ (vp_in (aI S86 53 b112 (v89).toNatClampNeg) (aN S86 b111) ∧ (if aI S86 41 b111 (aI S86 53 b112 (v89).toNatClampNeg).toNatClampNeg = 95 then
 K228_92 0 S86
 else
 K228_92 1 S86)))))
 else
 K228_92 1 S86)))))))))
 → P176_84 x2_85 S86) → P176_84 v83 S81)
def PTL (a : Nat) (x1_5 : Int32) (P30_4 : Int32 → PS → Prop) (v78 : Int32) (S77 : PS) : Prop :=
  (∀ P115_79 : Int32 → PS → Prop, (∀ (x2_80 : Int32) (S81 : PS),
 (∃ b82, fR S81 136 a = some b82 ∧ (vp_in x1_5 (aN S81 b82) ∧ (if ((6 : Int32) * x1_5) + (aI S81 66 b82 (x1_5).toNatClampNeg) ≤ x2_80 then
 (∀ v83, v83 = (3 : Int32) * x1_5 → WOL a x1_5 P30_4 v83 S81)
 else
 (∃ b113, fR S81 196 a = some b113 ∧ (∃ b114, fR S81 142 a = some b114 ∧ (vp_in x2_80 (aN S81 b114) ∧ (vp_in x2_80 (aN S81 b113) ∧ ∀ S115, S115 = wI S81 108 b113 (x2_80).toNatClampNeg (aI S81 72 b114 (x2_80).toNatClampNeg) → (∃ b116, fR S115 197 a = some b116 ∧ (∃ b117, fR S115 143 a = some b117 ∧ (vp_in x2_80 (aN S115 b117) ∧ (vp_in x2_80 (aN S115 b116) ∧ ∀ S118, S118 = wI S115 109 b116 (x2_80).toNatClampNeg (aI S115 73 b117 (x2_80).toNatClampNeg) → (∃ b119, fR S118 198 a = some b119 ∧ (∃ b120, fR S118 144 a = some b120 ∧ (vp_in x2_80 (aN S118 b120) ∧ (vp_in x2_80 (aN S118 b119) ∧ ∀ S121, S121 = wI S118 110 b119 (x2_80).toNatClampNeg (aI S118 74 b120 (x2_80).toNatClampNeg) → (∀ v122, v122 = x2_80 + 1 → P115_79 v122 S121))))))))))))))))
 → P115_79 x2_80 S81) → P115_79 v78 S77)
def EVL (a : Nat) (S3 : PS) (Q : PS → Prop) : Prop :=
  (∀ P30_4 : Int32 → PS → Prop, (∀ (x1_5 : Int32) (S6 : PS),
 (if fI S6 146 a ≤ x1_5 then
 VOL a S6 Q
 else
 (∃ b60, fR S6 190 a = some b60 ∧ (∃ b61, fR S6 135 a = some b61 ∧ (vp_in x1_5 (aN S6 b61) ∧ (vp_in x1_5 (aN S6 b60) ∧ ∀ S62, S62 = wI S6 102 b60 (x1_5).toNatClampNeg (aI S6 65 b61 (x1_5).toNatClampNeg) → (∃ b63, fR S62 191 a = some b63 ∧ (∃ b64, fR S62 136 a = some b64 ∧ (vp_in x1_5 (aN S62 b64) ∧ (vp_in x1_5 (aN S62 b63) ∧ ∀ S65, S65 = wI S62 103 b63 (x1_5).toNatClampNeg (aI S62 66 b64 (x1_5).toNatClampNeg) → (∃ b66, fR S65 192 a = some b66 ∧ (∃ b67, fR S65 137 a = some b67 ∧ (vp_in x1_5 (aN S65 b67) ∧ (vp_in x1_5 (aN S65 b66) ∧ ∀ S68, S68 = wI S65 104 b66 (x1_5).toNatClampNeg (vp_nar .boolean (aI S65 67 b67 (x1_5).toNatClampNeg)) → (∃ b69, fR S68 193 a = some b69 ∧ (∃ b70, fR S68 138 a = some b70 ∧ (vp_in x1_5 (aN S68 b70) ∧ (vp_in x1_5 (aN S68 b69) ∧ ∀ S71, S71 = wI S68 105 b69 (x1_5).toNatClampNeg (vp_nar .boolean (aI S68 68 b70 (x1_5).toNatClampNeg)) → (∃ b72, fR S71 194 a = some b72 ∧ (∃ b73, fR S71 139 a = some b73 ∧ (vp_in x1_5 (aN S71 b73) ∧ (vp_in x1_5 (aN S71 b72) ∧ ∀ S74, S74 = wL S71 106 b72 (x1_5).toNatClampNeg (aL S71 69 b73 (x1_5).toNatClampNeg) → (∃ b75, fR S74 195 a = some b75 ∧ (∃ b76, fR S74 140 a = some b76 ∧ (vp_in x1_5 (aN S74 b76) ∧ (vp_in x1_5 (aN S74 b75) ∧ ∀ S77, S77 = wL S74 107 b75 (x1_5).toNatClampNeg (aL S74 70 b76 (x1_5).toNatClampNeg) → (∀ v78, v78 = (6 : Int32) * x1_5 → PTL a x1_5 P30_4 v78 S77))))))))))))))))))))))))))
 → P30_4 x1_5 S6) → P30_4 0 S3)
section
variable {S S1 Sr : PS} {A : Nat → Nat} {E M V n i : Nat}
def rMe (r : Nat) : Bool := decide (115 ≤ r ∧ r ≤ 117)
def r114 (r : Nat) : Bool := decide (r = 114)
def r101 (r : Nat) : Bool := decide (r = 101)
theorem r_met {Q : PS → Prop} (lm : LayM S A) (h : fI S 153 (A 9) = nI M) (hM : M ≤ 40) (hQ : ∀ S1, Keep (fun _ => false) rMe S S1 → (∀ k, k < M → aL S1 115 (A 115) k = aL S 78 (A 78) k ∧ aI S1 116 (A 116) k = aI S 79 (A 79) k ∧ aI S1 117 (A 117) k = aI S 80 (A 80) k) → TLS (A 9) S1 Q) : MTL (A 9) S Q := by
  unfold MTL
  intro P hP
  have key : ∀ m i S1, i + m = M → Keep (fun _ => false) rMe S S1 → (∀ k, k < i → aL S1 115 (A 115) k = aL S 78 (A 78) k ∧ aI S1 116 (A 116) k = aI S 79 (A 79) k ∧ aI S1 117 (A 117) k = aI S 80 (A 80) k) → P (nI i) S1 := by
    intro m
    induction m with
    | zero =>
      intro i S1 hi k1 ho
      apply hP
      rw [(k1.2.1 153 rfl).1, h, if_pos ((nI_le_iff (by omega) (by omega)).mpr (by omega))]
      have e : i = M := by omega
      rw [e] at ho
      exact hQ S1 k1 ho
    | succ m ih =>
      intro i S1 hi k1 ho
      have l1 := lm.st k1.1
      apply hP
      rw [(k1.2.1 153 rfl).1, h, if_neg (by rw [nI_le_iff (by omega) (by omega)]; omega)]
      have vi : ∀ {r : Nat}, r = 40 → vp_in (nI i) r := fun h => by rw [h]; exact vp_in_nI (by omega) (by omega)
      refine ⟨_, l1.f203, _, l1.f150, vi l1.n78, vi l1.n115, ?_⟩
      rintro _ rfl
      refine ⟨_, l1.f204, _, l1.f151, vi l1.n79, vi l1.n116, ?_⟩
      rintro _ rfl
      refine ⟨_, l1.f205, _, l1.f152, vi l1.n80, vi l1.n117, ?_⟩
      rintro _ rfl _ rfl
      simp only [fI_s, fI_sn, fL_s, fL_sn, aI_w, aI_wn, aL_w, aL_wn, fI_sL, fI_wI, fI_wL, fL_sI, fL_wI, fL_wL, aI_sI, aI_sL, aI_wL, aL_sI, aL_sL, aL_wI, fR_sI, fR_sL, fR_wI, fR_wL, aN_sI, aN_sL, aN_wI, aN_wL, ne_eq, Nat.reduceEqDiff, not_false_eq_true]
      rw [nI_1, nI_clamp (by omega), (k1.2.2 78 rfl).2, (k1.2.2 79 rfl).1, (k1.2.2 80 rfl).1]
      refine ih (i + 1) _ (by omega) (((k1.wL rfl).wI rfl).wI rfl) (fun k hk => ?_)
      simp only [fI_s, fI_sn, fL_s, fL_sn, aI_w, aI_wn, aL_w, aL_wn, fI_sL, fI_wI, fI_wL, fL_sI, fL_wI, fL_wL, aI_sI, aI_sL, aI_wL, aL_sI, aL_sL, aL_wI, fR_sI, fR_sL, fR_wI, fR_wL, aN_sI, aN_sL, aN_wI, aN_wL, ne_eq, Nat.reduceEqDiff, not_false_eq_true]
      by_cases z : k = i
      · rw [z, uq_at, uq_at, uq_at]; exact ⟨rfl, rfl, rfl⟩
      · rw [uq_ne z, uq_ne z, uq_ne z]; exact ho k (by omega)
  exact key M 0 S (by omega) Keep.rf (fun k hk => by omega)
theorem r_voi {Q : PS → Prop} (lm : LayM S A) (h : fI S 149 (A 9) = nI V) (hV : V ≤ 12) (hQ : ∀ S1, Keep (fun _ => false) r114 S S1 → (∀ k, k < V → aL S1 114 (A 114) k = aL S 76 (A 76) k) → MTL (A 9) S1 Q) : VOL (A 9) S Q := by
  unfold VOL
  intro P hP
  have key : ∀ m i S1, i + m = V → Keep (fun _ => false) r114 S S1 → (∀ k, k < i → aL S1 114 (A 114) k = aL S 76 (A 76) k) → P (nI i) S1 := by
    intro m
    induction m with
    | zero =>
      intro i S1 hi k1 ho
      apply hP
      rw [(k1.2.1 149 rfl).1, h, if_pos ((nI_le_iff (by omega) (by omega)).mpr (by omega))]
      have e : i = V := by omega
      rw [e] at ho
      exact hQ S1 k1 ho
    | succ m ih =>
      intro i S1 hi k1 ho
      have l1 := lm.st k1.1
      apply hP
      rw [(k1.2.1 149 rfl).1, h, if_neg (by rw [nI_le_iff (by omega) (by omega)]; omega)]
      have vi : ∀ {r : Nat}, r = 12 → vp_in (nI i) r := fun h => by rw [h]; exact vp_in_nI (by omega) (by omega)
      refine ⟨_, l1.f202, _, l1.f147, vi l1.n76, vi l1.n114, ?_⟩
      rintro _ rfl _ rfl
      rw [nI_1, nI_clamp (by omega), (k1.2.2 76 rfl).2]
      refine ih (i + 1) _ (by omega) (k1.wL rfl) (fun k hk => ?_)
      simp only [fI_s, fI_sn, fL_s, fL_sn, aI_w, aI_wn, aL_w, aL_wn, fI_sL, fI_wI, fI_wL, fL_sI, fL_wI, fL_wL, aI_sI, aI_sL, aI_wL, aL_sI, aL_sL, aL_wI, fR_sI, fR_sL, fR_wI, fR_wL, aN_sI, aN_sL, aN_wI, aN_wL, ne_eq, Nat.reduceEqDiff, not_false_eq_true]
      by_cases z : k = i
      · rw [z, uq_at]
      · rw [uq_ne z]; exact ho k (by omega)
  exact key V 0 S (by omega) Keep.rf (fun k hk => by omega)
theorem r_txt {Q : PS → Prop} (lm : LayM S A) (h : fI S 100 (A 9) = nI n) (hn : n ≤ 1500) (hQ : ∀ S1, Keep (fun _ => false) r101 S S1 → (∀ k, k < n → aI S1 101 (A 101) k = vp_nar .byte (aI S 41 (A 41) k)) → EVL (A 9) S1 Q) : wp_X12_tell (A 9) S Q := by
  unfold wp_X12_tell
  intro P hP
  have key : ∀ m i S1, i + m = n → Keep (fun _ => false) r101 S S1 → (∀ k, k < i → aI S1 101 (A 101) k = vp_nar .byte (aI S 41 (A 41) k)) → P (nI i) S1 := by
    intro m
    induction m with
    | zero =>
      intro i S1 hi k1 ho
      apply hP
      rw [(k1.2.1 100 rfl).1, h, if_pos ((nI_le_iff (by omega) (by omega)).mpr (by omega))]
      have e : i = n := by omega
      rw [e] at ho
      exact hQ S1 k1 ho
    | succ m ih =>
      intro i S1 hi k1 ho
      have l1 := lm.st k1.1
      apply hP
      rw [(k1.2.1 100 rfl).1, h, if_neg (by rw [nI_le_iff (by omega) (by omega)]; omega)]
      have vi : ∀ {r : Nat}, r = 1500 → vp_in (nI i) r := fun h => by rw [h]; exact vp_in_nI (by omega) (by omega)
      refine ⟨_, l1.f189, _, l1.f99, vi l1.n41, vi l1.n101, ?_⟩
      rintro _ rfl _ rfl
      rw [nI_1, nI_clamp (by omega), (k1.2.2 41 rfl).1]
      refine ih (i + 1) _ (by omega) (k1.wI rfl) (fun k hk => ?_)
      simp only [fI_s, fI_sn, fL_s, fL_sn, aI_w, aI_wn, aL_w, aL_wn, fI_sL, fI_wI, fI_wL, fL_sI, fL_wI, fL_wL, aI_sI, aI_sL, aI_wL, aL_sI, aL_sL, aL_wI, fR_sI, fR_sL, fR_wI, fR_wL, aN_sI, aN_sL, aN_wI, aN_wL, ne_eq, Nat.reduceEqDiff, not_false_eq_true]
      by_cases z : k = i
      · rw [z, uq_at]
      · rw [uq_ne z]; exact ho k (by omega)
  exact key n 0 S (by omega) Keep.rf (fun k hk => by omega)
end
