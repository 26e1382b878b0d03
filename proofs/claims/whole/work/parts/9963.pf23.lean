/-! Performing: words. -/
def WB (a : Nat) (p1 : Int32) (Q : PS → Prop) (P : Int32 → PS → Prop) (x2_4 : Int32) (S5 : PS) : Prop :=
  (∃ b6, fR S5 108 a = some b6 ∧ (vp_in p1 (aN S5 b6) ∧ (∃ b7, fR S5 111 a = some b7 ∧ (vp_in p1 (aN S5 b7) ∧ (if ((aI S5 45 b6 (p1).toNatClampNeg).toInt64) + (aL S5 48 b7 (p1).toNatClampNeg) ≤ x2_4.toInt64 then
 Q S5
 else
 (if fI S5 102 a = 0 then
 (∀ P36_8 : Int32 → PS → Prop, (∀ (x3_9 : Int32) (S10 : PS),
 (∀ K102_12 : PS → Prop, (∀ (S11 : PS),
 (∀ K143_14 : PS → Prop, (∀ (S13 : PS),
 (∀ v15, v15 = x2_4 + 1 → P v15 S13)
 → K143_14 S13) →
 (if x3_9 = fI S11 146 a then
 (∃ b19, fR S11 118 a = some b19 ∧ (vp_in x2_4 (aN S11 b19) ∧ wp_X12_bad a 8 (aI S11 53 b19 (x2_4).toNatClampNeg) S11 (fun (S20 : PS) => 
 K143_14 S20)))
 else
 (∃ b16, fR S11 145 a = some b16 ∧ (∃ b17, fR S11 107 a = some b17 ∧ (vp_in p1 (aN S11 b17) ∧ (vp_in ((((3 : Int32) * x3_9) + (aI S11 44 b17 (p1).toNatClampNeg)) - 1) (aN S11 b16) ∧ ∀ S18, S18 = wI S11 75 b16 ((((3 : Int32) * x3_9) + (aI S11 44 b17 (p1).toNatClampNeg)) - 1).toNatClampNeg x2_4 → K143_14 S18))))))
 → K102_12 S11) →
 (if fI S10 146 a ≤ x3_9 then
 K102_12 S10
 else
 (∃ b21, fR S10 135 a = some b21 ∧ (vp_in x3_9 (aN S10 b21) ∧ (∀ K96_23 : PS → Prop, (∀ (S22 : PS),
 (∀ v24, v24 = x3_9 + 1 → P36_8 v24 S22)
 → K96_23 S22) →
 (if aI S10 65 b21 (x3_9).toNatClampNeg = fI S10 155 a then
 (∃ b25, fR S10 136 a = some b25 ∧ (vp_in x3_9 (aN S10 b25) ∧ (if aI S10 66 b25 (x3_9).toNatClampNeg = 0 then
 K96_23 S10
 else
 (∃ b26, fR S10 138 a = some b26 ∧ (vp_in x3_9 (aN S10 b26) ∧ (if aI S10 68 b26 (x3_9).toNatClampNeg = 0 then
 (∃ b27, fR S10 145 a = some b27 ∧ (∃ b28, fR S10 107 a = some b28 ∧ (vp_in p1 (aN S10 b28) ∧ (vp_in ((((3 : Int32) * x3_9) + (aI S10 44 b28 (p1).toNatClampNeg)) - 1) (aN S10 b27) ∧ (if aI S10 75 b27 ((((3 : Int32) * x3_9) + (aI S10 44 b28 (p1).toNatClampNeg)) - 1).toNatClampNeg = (-1) then
 K102_12 S10
 else
 K96_23 S10)))))
 else
 K96_23 S10))))))
 else
 K96_23 S10))))))
 → P36_8 x3_9 S10) → P36_8 0 S5)
 else
 Q S5))))))

section
variable {S S1 S2 S0 Sr Sr1 Sr2 R0 : PS} {A : Nat → Nat} {B : Nat → Int32} {n N nd pc : Nat} {bh par ks lv g ow : Nat → Nat}
variable {D m st E V M t ln sy x v j e : Nat} {lp : Int} {X Y C H F VF TB : Nat → Nat} {kk : Nat × Nat} {p : Int32}
def ClW (A : Nat → Nat) (i : Nat) (Q : PS → Prop) (P : Int32 → PS → Prop) : Prop := ∀ z S, WB (A 9) (nI i) Q P z S → P z S
/-- the event e may have the syllable -/
def Fit (S : PS) (A : Nat → Nat) (v j e : Nat) : Prop := aI S 28 (A 28) e = nI v ∧ aL S 31 (A 31) e ≠ 0 ∧ aI S 33 (A 33) e = 0 ∧ aI S 34 (A 34) (3 * e + j) = -1
theorem sco_n {y : Nat × Nat} (h : Wdy B n y) (hn : n ≤ 1500) : sco B y = nI (y.1 * 16 + (if y.2 = 1 ∧ B y.1 = 95 then 0 else y.2)) := by
  unfold sco
  obtain ⟨h1, h2, h3, _⟩ := h
  have : ∀ d : Nat, d < 16 → (nI y.1 <<< (4 &&& 31 : Int32)) ||| nI d = nI (y.1 * 16 + d) := by
    intro d hd
    apply Int32.toBitVec_inj.mp
    show (BitVec.ofNat 32 y.1 <<< 4 ||| BitVec.ofNat 32 d) = BitVec.ofNat 32 (y.1 * 16 + d)
    apply BitVec.eq_of_toNat_eq
    rw [BitVec.toNat_or, BitVec.toNat_shiftLeft, BitVec.toNat_ofNat, BitVec.toNat_ofNat, BitVec.toNat_ofNat, Nat.mod_eq_of_lt (a := y.1) (by omega), Nat.mod_eq_of_lt (a := d) (by omega), Nat.mod_eq_of_lt (a := y.1 * 16 + d) (by omega)]
    rw [Nat.shiftLeft_eq, Nat.mod_eq_of_lt (by omega), ← Nat.shiftLeft_eq, ← Nat.shiftLeft_add_eq_or_of_lt (by omega), Nat.shiftLeft_eq]
  split
  · exact this 0 (by omega)
  · exact this y.2 (by omega)
theorem sco_ne {y : Nat × Nat} (h : Wdy B n y) (hn : n ≤ 1500) : sco B y ≠ -1 := by
  rw [sco_n h hn]
  obtain ⟨h1, h2, h3, _⟩ := h
  refine nI_ne_neg ?_
  split <;> omega
theorem sh4 {a : Nat} (h : a < 2 ^ 31) : nI a >>> (4 &&& 31 : Int32) = nI (a / 16) := by
  apply Int32.toInt_inj.mp
  rw [nI_toInt (by omega)]
  show ((nI a).toBitVec.sshiftRight 4).toInt = _
  rw [BitVec.toInt_sshiftRight]
  have : (nI a).toBitVec.toInt = (a : Int) := nI_toInt h
  rw [this, Int.shiftRight_eq_div_pow]
  omega
theorem sco_pl {y : Nat × Nat} (h : Wdy B n y) (hn : n ≤ 1500) : sco B y >>> (4 &&& 31 : Int32) = nI y.1 := by
  rw [sco_n h hn]
  obtain ⟨h1, h2, h3, _⟩ := h
  rw [sh4 (by split <;> omega)]
  congr 1
  split <;> omega
theorem three (e v : Nat) (hv : 1 ≤ v) : (nI e * 3) + nI v - 1 = nI (3 * e + (v - 1)) := by
  obtain ⟨k, rfl⟩ : ∃ k, v = k + 1 := ⟨v - 1, by omega⟩
  rw [slt]; rfl
theorem three' (e v : Nat) (hv : 1 ≤ v) : ((3 : Int32) * nI e) + nI v - 1 = nI (3 * e + (v - 1)) := by
  obtain ⟨k, rfl⟩ : ∃ k, v = k + 1 := ⟨v - 1, by omega⟩
  rw [Int32.mul_comm, slt]; rfl
theorem s_maySing {Q : Int32 → PS → Prop} (hl : LayS S A) (h70 : fI S 70 (A 7) = nI E) (hE : E ≤ 300) (he : e < E) (h1 : aI S 28 (A 28) e = nI v → aL S 31 (A 31) e ≠ 0 → aI S 33 (A 33) e = 0 → Q 1 S) (h0 : ¬ (aI S 28 (A 28) e = nI v ∧ aL S 31 (A 31) e ≠ 0 ∧ aI S 33 (A 33) e = 0) → Q 0 S) : wp_X8_maySing (A 7) (nI e) (nI v) S Q := by
  have ce : (nI e).toNatClampNeg = e := nI_clamp (by omega)
  unfold wp_X8_maySing
  refine s_eholds h70 he hE ?_
  rw [if_neg (by decide)]
  refine ⟨_, hl.f71, by rw [hl.n28]; exact vp_in_nI (by omega) (by omega), ?_⟩
  rw [ce]
  by_cases c1 : aI S 28 (A 28) e = nI v
  · rw [if_pos c1]
    refine ⟨_, hl.f74, by rw [hl.n31]; exact vp_in_nI (by omega) (by omega), ?_⟩
    by_cases c2 : aL S 31 (A 31) e = 0
    · rw [if_pos c2]; exact h0 (fun z => z.2.1 c2)
    · rw [if_neg c2]
      refine ⟨_, hl.f76, by rw [hl.n33]; exact vp_in_nI (by omega) (by omega), ?_⟩
      by_cases c3 : aI S 33 (A 33) e = 0
      · rw [if_pos c3]; exact h1 c1 c2 c3
      · rw [if_neg c3]; exact h0 (fun z => c3 z.2.2)
  · rw [if_neg c1]; exact h0 (fun z => c1 z.1)
theorem s_sylOf {Q : Int32 → PS → Prop} (hl : LayS S A) (h70 : fI S 70 (A 7) = nI E) (hE : E ≤ 300) (he : e < E) (hv1 : 1 ≤ v) (hv3 : v ≤ 3) (hQ : Q (aI S 34 (A 34) (3 * e + (v - 1))) S) : wp_X8_syllableOf (A 7) (nI e) (nI v) S Q := by
  unfold wp_X8_syllableOf
  refine s_eholds h70 he hE ?_
  intro K hK
  rw [if_neg (by decide), show (1 : Int32) = nI 1 from rfl, if_neg (nI_nlt hv1 (by omega)), show (3 : Int32) = nI 3 from rfl, if_neg (nI_nlt hv3 (by omega))]
  apply hK
  rw [if_neg (by decide)]
  refine ⟨_, hl.f77, ?_⟩
  unfold wp_X8_slot
  rw [three e v hv1]
  refine ⟨by rw [hl.n34]; exact vp_in_nI (by omega) (by omega), ?_⟩
  rw [nI_clamp (by omega)]; exact hQ
theorem s_addSyl {Q : Int32 → PS → Prop} {u : Nat} (hl : LayS S A) (h70 : fI S 70 (A 7) = nI E) (hE : E ≤ 300) (hv1 : 1 ≤ v) (hv3 : v ≤ 3)
    (h1 : ∀ e, e < E → Fit S A u (v - 1) e → (∀ e', e' < e → ¬ Fit S A u (v - 1) e') → Q 1 (wI S 34 (A 34) (3 * e + (v - 1)) p)) (h0 : (∀ e, e < E → ¬ Fit S A u (v - 1) e) → Q 0 S) : wp_X8_addSyllable (A 7) (nI u) (nI v) p S Q := by
  unfold wp_X8_addSyllable
  rw [if_neg (show ¬ nI v < (1 : Int32) from (nI_nlt hv1 (by omega) : ¬ nI v < nI 1)), if_pos (show nI v ≤ (3 : Int32) from (nI_le hv3 (by omega) : nI v ≤ nI 3))]
  intro P hP
  have key : ∀ f i, f + i = E → (∀ e', e' < i → ¬ Fit S A u (v - 1) e') → P (nI i) S := by
    intro f
    induction f with
    | zero =>
      intro i i1 i2
      apply hP
      rw [h70, if_pos (nI_le (by omega) (by omega))]
      exact h0 (fun e he => i2 e (by omega))
    | succ f ih =>
      intro i i1 i2
      apply hP
      rw [h70, if_neg (nI_ge (by omega) (by omega))]
      have nxt : ¬ Fit S A u (v - 1) i → ∀ K : PS → Prop, (∀ S6, (∀ v8, v8 = nI i + 1 → P v8 S6) → K S6) → K S := by
        intro hn K hK
        apply hK
        rintro _ rfl
        rw [nI_1]
        refine ih (i + 1) (by omega) (fun e' he' => ?_)
        by_cases z : e' = i
        · rw [z]; exact hn
        · exact i2 e' (by omega)
      refine s_maySing hl h70 hE (by omega) (fun y1 y2 y3 => ?_) (fun y => ?_)
      · intro K hK
        rw [if_neg (by decide)]
        refine s_sylOf hl h70 hE (by omega) hv1 hv3 ?_
        by_cases z : aI S 34 (A 34) (3 * i + (v - 1)) = -1
        · rw [if_pos z]
          refine ⟨_, hl.f77, ?_⟩
          unfold wp_X8_slot
          rw [three i v hv1]
          refine ⟨by rw [hl.n34]; exact vp_in_nI (by omega) (by omega), ?_⟩
          rintro _ rfl
          rw [nI_clamp (by omega)]
          exact h1 i (by omega) ⟨y1, y2, y3, z⟩ i2
        · rw [if_neg z]
          exact nxt (fun q => z q.2.2.2) K hK
      · intro K hK
        rw [if_pos rfl]
        exact nxt (fun q => y ⟨q.1, q.2.1, q.2.2.1⟩) K hK
  exact key E 0 (by omega) (fun e' he' => by omega)
/-- a syllable more -/
theorem PfE.wd {y : Nat × Nat} (h : PfE S A B n D E V VF) (hj : j < 3) (he : e < E) (hf : Fit S A v j e) (hy : Wdy B n y) : PfE (wI S 34 (A 34) (3 * e + j) (sco B y)) A B n D E V VF := by
  obtain ⟨h1, h2, h3⟩ := h
  refine ⟨by simp only [fI_s, fI_sn, fL_s, fL_sn, aI_w, aI_wn, aL_w, aL_wn, fI_sL, fI_wI, fI_wL, fL_sI, fL_wI, fL_wL, aI_sI, aI_sL, aI_wL, aL_sI, aL_sL, aL_wI, fR_sI, fR_sL, fR_wI, fR_wL, aN_sI, aN_sL, aN_wI, aN_wL, ne_eq, Nat.reduceEqDiff, not_false_eq_true]; exact h1, fun i hi => ?_, fun u hu => ?_⟩
  · have := h2 i hi
    unfold EvC at this ⊢
    simp only [fI_s, fI_sn, fL_s, fL_sn, aI_w, aI_wn, aL_w, aL_wn, fI_sL, fI_wI, fI_wL, fL_sI, fL_wI, fL_wL, aI_sI, aI_sL, aI_wL, aL_sI, aL_sL, aL_wI, fR_sI, fR_sL, fR_wI, fR_wL, aN_sI, aN_sL, aN_wI, aN_wL, ne_eq, Nat.reduceEqDiff, not_false_eq_true]
    obtain ⟨b1, b2, b3, b4, b5, b6, b7⟩ := this
    refine ⟨b1, b2, b3, b4, b5, fun k hk => ?_, b7⟩
    by_cases z : 3 * i + k = 3 * e + j
    · have e1 : i = e := by omega
      subst e1
      rw [z, uq_at]
      exact Or.inr ⟨⟨y, hy, rfl⟩, hf.2.1, hf.2.2.1⟩
    · rw [uq_ne z]; exact b6 k hk
  · have := h3 u hu
    unfold VoC at this ⊢
    simp only [fI_s, fI_sn, fL_s, fL_sn, aI_w, aI_wn, aL_w, aL_wn, fI_sL, fI_wI, fI_wL, fL_sI, fL_wI, fL_wL, aI_sI, aI_sL, aI_wL, aL_sI, aL_sL, aL_wI, fR_sI, fR_sL, fR_wI, fR_wL, aN_sI, aN_sL, aN_wI, aN_wL, ne_eq, Nat.reduceEqDiff, not_false_eq_true]; exact this
theorem CPf.wd {y : Nat × Nat} (h : CPf S S0 A B n N nd bh par ks lv D m st E V M t ln lp X Y C H F VF TB) (hj : j < 3) (he : e < E) (hf : Fit S A v j e) (hy : Wdy B n y) : CPf (wI S 34 (A 34) (3 * e + j) (sco B y)) S0 A B n N nd bh par ks lv D m st E V M t ln lp X Y C H F VF TB := by
  obtain ⟨a1, a2, ⟨a3, a4⟩, a5, a6, a7, a8, a9, a10⟩ := h
  exact ⟨a1.wI (PW.at rfl), a2.st rfl, ⟨a3, a4.st rfl⟩, a5, a6, a7, a8, a9.eq ⟨rfl, fun r r1 r2 => ⟨by rw [aI_wn _ _ _ _ _ _ (by omega)], rfl⟩⟩, a10.wd hj he hf hy⟩
theorem RPf.wd {y : Nat × Nat} {s : Nat} (rp : RPf S Sr S0 R0 A B n sy N bh ks g ow D E V M X Y C H F) (hj : j < 3) (he : e < E) (hE : E ≤ 300) (hw : WdR R0 A B n sy (sco B y) (nI s)) : RPf (wI S 34 (A 34) (3 * e + j) (sco B y)) (wI Sr 75 (A 75) (3 * e + j) (nI s)) S0 R0 A B n sy N bh ks g ow D E V M X Y C H F := by
  obtain ⟨b1, b2, b3, c1, c2, c3, c4⟩ := rp
  refine ⟨b1.wI rfl, b2, fun k hk => ?_, c1, fun i hi => ?_, fun u hu => ?_, fun k hk => ?_⟩
  · have := b3 k hk
    unfold RpF RpV at this ⊢
    simp only [fI_s, fI_sn, fL_s, fL_sn, aI_w, aI_wn, aL_w, aL_wn, fI_sL, fI_wI, fI_wL, fL_sI, fL_wI, fL_wL, aI_sI, aI_sL, aI_wL, aL_sI, aL_sL, aL_wI, fR_sI, fR_sL, fR_wI, fR_wL, aN_sI, aN_sL, aN_wI, aN_wL, ne_eq, Nat.reduceEqDiff, not_false_eq_true]; exact this
  · have := c2 i hi
    unfold RpE PcR at this ⊢
    simp only [fI_s, fI_sn, fL_s, fL_sn, aI_w, aI_wn, aL_w, aL_wn, fI_sL, fI_wI, fI_wL, fL_sI, fL_wI, fL_wL, aI_sI, aI_sL, aI_wL, aL_sI, aL_sL, aL_wI, fR_sI, fR_sL, fR_wI, fR_wL, aN_sI, aN_sL, aN_wI, aN_wL, ne_eq, Nat.reduceEqDiff, not_false_eq_true]
    obtain ⟨d1, d2, d3, d4, d5, d6, d7⟩ := this
    refine ⟨d1, d2, d3, d4, d5, d6, fun k hk => ?_⟩
    by_cases z : 3 * i + k = 3 * e + j
    · rw [z, uq_at, uq_at]; exact hw
    · rw [uq_ne z, uq_ne z]; exact d7 k hk
  · have := c3 u hu
    unfold RpO at this ⊢
    simp only [fI_s, fI_sn, fL_s, fL_sn, aI_w, aI_wn, aL_w, aL_wn, fI_sL, fI_wI, fI_wL, fL_sI, fL_wI, fL_wL, aI_sI, aI_sL, aI_wL, aL_sI, aL_sL, aL_wI, fR_sI, fR_sL, fR_wI, fR_wL, aN_sI, aN_sL, aN_wI, aN_wL, ne_eq, Nat.reduceEqDiff, not_false_eq_true]; exact this
  · have := c4 k hk
    unfold RpM at this ⊢
    simp only [fI_s, fI_sn, fL_s, fL_sn, aI_w, aI_wn, aL_w, aL_wn, fI_sL, fI_wI, fI_wL, fL_sI, fL_wI, fL_wL, aI_sI, aI_sL, aI_wL, aL_sI, aL_sL, aL_wI, fR_sI, fR_sL, fR_wI, fR_wL, aN_sI, aN_sL, aN_wI, aN_wL, ne_eq, Nat.reduceEqDiff, not_false_eq_true]; exact this
/-- the reference's turn with a syllable -/
theorem r_wturn {Q : PS → Prop} {P : Int32 → PS → Prop} {i w c k vs pl : Nat} (lm : LayM Sr A) (hi : i < 3100) (h45 : aI Sr 45 (A 45) i = nI w) (h48 : aL Sr 48 (A 48) i = lN c) (h44 : aI Sr 44 (A 44) i = nI vs) (v1 : 1 ≤ vs) (v3 : vs ≤ 3) (hk : k < c) (hwc : w + c ≤ 1500) (h102 : fI Sr 102 (A 9) = 0) (h155 : fI Sr 155 (A 9) = nI v) (h146 : fI Sr 146 (A 9) = nI E) (hE : E ≤ 300) (hpl : aI Sr 53 (A 53) (w + k) = nI pl) (cl : ClW A i Q P)
    (hfit : ∀ e, e < E → (Fit S A v (vs - 1) e ↔ aI Sr 65 (A 65) e = nI v ∧ aI Sr 66 (A 66) e ≠ 0 ∧ aI Sr 68 (A 68) e = 0 ∧ aI Sr 75 (A 75) (3 * e + (vs - 1)) = -1))
    (h1 : ∀ e, e < E → Fit S A v (vs - 1) e → (∀ e', e' < e → ¬ Fit S A v (vs - 1) e') → P (nI (w + (k + 1))) (wI Sr 75 (A 75) (3 * e + (vs - 1)) (nI (w + k)))) (h0 : (∀ e, e < E → ¬ Fit S A v (vs - 1) e) → P (nI (w + (k + 1))) (sI (sI Sr 102 (A 9) 8) 103 (A 9) (nI pl))) : P (nI (w + k)) Sr := by
  have ci : (nI i).toNatClampNeg = i := nI_clamp (by omega)
  have vi : ∀ {r : Nat}, r = 3100 → vp_in (nI i) r := fun h => by rw [h]; exact vp_in_nI hi (by omega)
  apply cl
  unfold WB
  refine ⟨_, lm.f108, vi lm.n45, _, lm.f111, vi lm.n48, ?_⟩
  rw [ci, h45, h48, to64 (rfl : nI w = nI w) (by omega), to64 (rfl : nI (w + k) = nI (w + k)) (by omega), lN_add, if_neg (fun z => by rw [lN_leq (by omega) (by omega)] at z; omega), if_pos h102]
  intro P2 hP2
  have e1 : nI (w + k) + 1 = nI (w + (k + 1)) := nI_1 (w + k)
  -- behind the scan
  have fin : ∀ q, q ≤ E → (q < E → Fit S A v (vs - 1) q) → (∀ e', e' < q → ¬ Fit S A v (vs - 1) e') → ∀ K : PS → Prop, (∀ (S11 : PS), (∀ K143_14 : PS → Prop, (∀ (S13 : PS), (∀ v15, v15 = nI (w + k) + 1 → P v15 S13) → K143_14 S13) → (if nI q = fI S11 146 (A 9) then (∃ b19, fR S11 118 (A 9) = some b19 ∧ (vp_in (nI (w + k)) (aN S11 b19) ∧ wp_X12_bad (A 9) 8 (aI S11 53 b19 (nI (w + k)).toNatClampNeg) S11 (fun (S20 : PS) => K143_14 S20))) else (∃ b16, fR S11 145 (A 9) = some b16 ∧ (∃ b17, fR S11 107 (A 9) = some b17 ∧ (vp_in (nI i) (aN S11 b17) ∧ (vp_in ((((3 : Int32) * nI q) + (aI S11 44 b17 (nI i).toNatClampNeg)) - 1) (aN S11 b16) ∧ ∀ S18, S18 = wI S11 75 b16 ((((3 : Int32) * nI q) + (aI S11 44 b17 (nI i).toNatClampNeg)) - 1).toNatClampNeg (nI (w + k)) → K143_14 S18)))))) → K S11) → K Sr := by
    intro q hq hfq hn K hK
    apply hK
    intro K3 hK3
    rw [h146]
    by_cases z : q = E
    · rw [if_pos (by rw [z])]
      refine ⟨_, lm.f118, by rw [lm.n53]; exact vp_in_nI (by omega) (by omega), ?_⟩
      rw [nI_clamp (by omega), hpl]
      unfold wp_X12_bad
      rw [if_pos h102]
      rintro _ rfl _ rfl
      apply hK3
      rintro _ rfl
      rw [e1]
      exact h0 (fun e he => hn e (by omega))
    · rw [if_neg (fun y => z ((nI_eq (by omega) (by omega)).mp y))]
      refine ⟨_, lm.f145, _, lm.f107, vi lm.n44, ?_⟩
      rw [ci, h44, three' q vs v1]
      refine ⟨by rw [lm.n75]; exact vp_in_nI (by omega) (by omega), ?_⟩
      rintro _ rfl
      rw [nI_clamp (by omega)]
      apply hK3
      rintro _ rfl
      rw [e1]
      exact h1 q (by omega) (hfq (by omega)) hn
  have key : ∀ f q, f + q = E → (∀ e', e' < q → ¬ Fit S A v (vs - 1) e') → P2 (nI q) Sr := by
    intro f
    induction f with
    | zero =>
      intro q q1 q2
      apply hP2
      intro K hK
      rw [h146, if_pos (nI_le (by omega) (by omega))]
      exact fin q (by omega) (fun z => by omega) q2 K (by first | exact hK | (simp only [ci]; exact hK) | (intro S11 hh; refine hK S11 ?_; first | exact hh | (simp only [ci] at hh ⊢; exact hh)))
    | succ f ih =>
      intro q q1 q2
      have cq : (nI q).toNatClampNeg = q := nI_clamp (by omega)
      apply hP2
      intro K hK
      rw [h146, if_neg (nI_ge (by omega) (by omega))]
      refine ⟨_, lm.f135, by rw [lm.n65]; exact vp_in_nI (by omega) (by omega), ?_⟩
      intro K2 hK2
      have fq := hfit q (by omega)
      have nxt : ¬ Fit S A v (vs - 1) q → K2 Sr := by
        intro hn
        apply hK2
        rintro _ rfl
        rw [nI_1]
        refine ih (q + 1) (by omega) (fun e' he' => ?_)
        by_cases z : e' = q
        · rw [z]; exact hn
        · exact q2 e' (by omega)
      rw [cq, h155]
      by_cases c1 : aI Sr 65 (A 65) q = nI v
      · rw [if_pos c1]
        refine ⟨_, lm.f136, by rw [lm.n66]; exact vp_in_nI (by omega) (by omega), ?_⟩
        by_cases c2 : aI Sr 66 (A 66) q = 0
        · rw [if_pos c2]; exact nxt (fun z => (fq.mp z).2.1 c2)
        · rw [if_neg c2]
          refine ⟨_, lm.f138, by rw [lm.n68]; exact vp_in_nI (by omega) (by omega), ?_⟩
          by_cases c3 : aI Sr 68 (A 68) q = 0
          · rw [if_pos c3]
            refine ⟨_, lm.f145, _, lm.f107, vi lm.n44, ?_⟩
            try rw [ci]
            rw [h44, three' q vs v1]
            refine ⟨by rw [lm.n75]; exact vp_in_nI (by omega) (by omega), ?_⟩
            rw [nI_clamp (show 3 * q + (vs - 1) < 2 ^ 31 by omega)]
            by_cases c4 : aI Sr 75 (A 75) (3 * q + (vs - 1)) = -1
            · rw [if_pos c4]
              exact fin q (by omega) (fun _ => fq.mpr ⟨c1, c2, c3, c4⟩) q2 K (by first | exact hK | (simp only [ci]; exact hK) | (intro S11 hh; refine hK S11 ?_; first | exact hh | (simp only [ci] at hh ⊢; exact hh)))
            · rw [if_neg c4]; exact nxt (fun z => c4 (fq.mp z).2.2.2)
          · rw [if_neg c3]; exact nxt (fun z => c3 (fq.mp z).2.2.1)
      · rw [if_neg c1]; exact nxt (fun z => c1 (fq.mp z).1)
  exact key E 0 (by omega) (fun e' he' => by omega)
end
