/-! Performing: the numbers at hand as a block begins and ends. -/
section
variable {S S1 S2 S0 Sr Sr2 R0 : PS} {A : Nat → Nat} {ks g : Nat → Nat}
variable {D st t ln x h' : Nat} {lp : Int} {X H VF : Nat → Nat}
def CpS (S S2 S0 : PS) (A ks : Nat → Nat) (D x h' : Nat) : Prop :=
  fI S2 24 (A 3) = nI (D + 1) ∧ fI S2 26 (A 3) = fI S 26 (A 3) ∧ fI S2 27 (A 3) = fI S 27 (A 3) ∧ fL S2 28 (A 3) = fL S 28 (A 3) ∧ fL S2 29 (A 3) = fL S 29 (A 3) ∧ fI S2 30 (A 3) = (if ks x = 3 then 28 else fI S 30 (A 3)) ∧ fI S2 31 (A 3) = (if ks x = 3 then fI S 31 (A 3) + 1 else fI S 31 (A 3)) ∧ fI S2 32 (A 3) = (if ks x = 5 then fI S 32 (A 3) + 1 else fI S 32 (A 3)) ∧ fL S2 33 (A 3) = (if ks x = 5 then fL S 33 (A 3) * (aI S0 19 (A 19) (x - 1)).toInt64 else fL S 33 (A 3)) ∧ fL S2 34 (A 3) = (if ks x = 5 then fL S 34 (A 3) * (aI S0 18 (A 18) (x - 1)).toInt64 else fL S 34 (A 3)) ∧ fI S2 35 (A 3) = (if ks x = 6 then fI S 35 (A 3) + aI S0 18 (A 18) (x - 1) else fI S 35 (A 3)) ∧ fI S2 36 (A 3) = (if ks x = 6 then fI S 36 (A 3) + aI S0 19 (A 19) (x - 1) else fI S 36 (A 3)) ∧ fI S2 37 (A 3) = (if ks x = 10 then fI S 37 (A 3) + 1 else fI S 37 (A 3)) ∧ fI S2 38 (A 3) = (if ks x = 7 then fI S 38 (A 3) + 1 else fI S 38 (A 3)) ∧ fI S2 39 (A 3) = (if ks x = 10 then hz h' else fI S 39 (A 3))
def DpS (Sr Sr2 R0 S0 : PS) (A ks : Nat → Nat) (D x gx : Nat) (X : Nat → Nat) : Prop :=
  fI Sr2 102 (A 9) = fI Sr 102 (A 9) ∧ fI Sr2 188 (A 9) = nI (D + 1) ∧ fI Sr2 154 (A 9) = fI Sr 154 (A 9) ∧ fI Sr2 155 (A 9) = fI Sr 155 (A 9) ∧ fL Sr2 156 (A 9) = fL Sr 156 (A 9) ∧ fL Sr2 157 (A 9) = fL Sr 157 (A 9) ∧ fI Sr2 158 (A 9) = (if ks x = 3 then 28 else fI Sr 158 (A 9)) ∧ fI Sr2 159 (A 9) = (if ks x = 3 then fI Sr 159 (A 9) + 1 else fI Sr 159 (A 9)) ∧ fI Sr2 160 (A 9) = (if ks x = 5 then fI Sr 160 (A 9) + 1 else fI Sr 160 (A 9)) ∧ fL Sr2 161 (A 9) = (if ks x = 5 then fL Sr 161 (A 9) * (aI R0 45 (A 45) gx).toInt64 else fL Sr 161 (A 9)) ∧ fL Sr2 162 (A 9) = (if ks x = 5 then fL Sr 162 (A 9) * (aI R0 44 (A 44) gx).toInt64 else fL Sr 162 (A 9)) ∧ fI Sr2 163 (A 9) = (if ks x = 6 then fI Sr 163 (A 9) + aI R0 44 (A 44) gx else fI Sr 163 (A 9)) ∧ fI Sr2 164 (A 9) = (if ks x = 6 then fI Sr 164 (A 9) + aI R0 45 (A 45) gx else fI Sr 164 (A 9)) ∧ fI Sr2 166 (A 9) = (if ks x = 10 then fI Sr 166 (A 9) + 1 else fI Sr 166 (A 9)) ∧ fI Sr2 165 (A 9) = (if ks x = 7 then fI Sr 165 (A 9) + 1 else fI Sr 165 (A 9)) ∧ fI Sr2 169 (A 9) = nI (cp (pn S0 A ks) X (D - 1) + if pn S0 A ks x = true then 1 else 0)
theorem i_of32 (v : Int32) : v = iJ v.toInt := (iJ_of v).symm
theorem to64 {v : Int32} {k : Nat} (h : v = nI k) (hk : k < 2 ^ 31) : v.toInt64 = lN k := by
  rw [h]
  apply Int64.toInt_inj.mp
  rw [Int32.toInt_toInt64, nI_toInt hk, lN_tI (by omega)]
theorem PfS.push (h : PfS S S0 A ks D st t ln lp X H VF) (hD : 1 ≤ D) (c : CpS S S2 S0 A ks D x h') (h8 : ks x = 5 → cp (pk ks 5) X (D - 1) < 8) (h24 : ks x = 10 → cp (pk ks 10) X (D - 1) < 24) (hh : ks x ≠ 10 → h' = H (D - 1))
    (b5 : ks x = 5 → ∃ a b, 1 ≤ a ∧ a ≤ 9 ∧ 1 ≤ b ∧ b ≤ 9 ∧ aI S0 18 (A 18) (x - 1) = nI a ∧ aI S0 19 (A 19) (x - 1) = nI b) : PfS S2 S0 A ks (D + 1) st t ln (if ks x = 3 then 28 else lp) (uq X D x) (uq H D h') (uq VF D (VF (D - 1))) := by
  obtain ⟨a1, ⟨a2, a3⟩, a4, ⟨a5, a6⟩, ⟨a7, a8, a9⟩, ⟨a10, a11⟩, a12, ⟨a13, a14⟩, a15, a16, a17, a18, ⟨a19, a20⟩, a21, a22⟩ := h
  obtain ⟨c1, c2, c3, c4, c5, c6, c7, c8, c9, c10, c11, c12, c13, c14, c15⟩ := c
  have e1 : D + 1 - 1 = D := rfl
  refine ⟨c1, ⟨c2.trans a2, a3⟩, ?_, ⟨c4.trans a5, a6⟩, ⟨c5.trans a7, a8, a9⟩, ⟨?_, ?_⟩, ?_, ⟨?_, ?_⟩, ?_, ?_, ?_, ?_, ⟨?_, ?_⟩, ?_, ?_⟩
  · rw [c3, a4, e1, uq_at]
  · rw [c6]; split
    · rfl
    · exact a10
  · split
    · unfold lpb; omega
    · exact a11
  · rw [c7, e1, cp_pu hD, a12]
    by_cases q : ks x = 3
    · rw [if_pos q, pk_t q, if_pos rfl, nI_1]
    · rw [if_neg q, pk_f q, if_neg (by decide)]; rfl
  · rw [c8, e1, cp_pu hD, a13]
    by_cases q : ks x = 5
    · rw [if_pos q, pk_t q, if_pos rfl, nI_1]
    · rw [if_neg q, pk_f q, if_neg (by decide)]; rfl
  · rw [e1, cp_pu hD]
    by_cases q : ks x = 5
    · have := h8 q; rw [pk_t q, if_pos rfl]; omega
    · rw [pk_f q, if_neg (by decide)]; omega
  · rw [c9, e1, pf_pu hD, a15]
    by_cases q : ks x = 5
    · obtain ⟨a, b, q1, q2, q3, q4, q5, q6⟩ := b5 q
      have : wu S0 A ks x = b := by unfold wu; rw [if_pos q, q6, nI_toInt (by omega)]; rfl
      rw [if_pos q, this, to64 q6 (by omega), lN_mul]
    · have : wu S0 A ks x = 1 := by unfold wu; rw [if_neg q]
      rw [if_neg q, this, Nat.mul_one]
  · rw [c10, e1, pf_pu hD, a16]
    by_cases q : ks x = 5
    · obtain ⟨a, b, q1, q2, q3, q4, q5, q6⟩ := b5 q
      have : wd5 S0 A ks x = a := by unfold wd5; rw [if_pos q, q5, nI_toInt (by omega)]; rfl
      rw [if_pos q, this, to64 q5 (by omega), lN_mul]
    · have : wd5 S0 A ks x = 1 := by unfold wd5; rw [if_neg q]
      rw [if_neg q, this, Nat.mul_one]
  · rw [c11, e1, sf_pu hD, a17]
    unfold wm
    by_cases q : ks x = 6
    · rw [if_pos q, if_pos q, i_of32 (aI S0 18 (A 18) (x - 1)), iJ_add, ← i_of32]
    · rw [if_neg q, if_neg q, Int.add_zero]
  · rw [c12, e1, sf_pu hD, a18]
    unfold wm
    by_cases q : ks x = 6
    · rw [if_pos q, if_pos q, i_of32 (aI S0 19 (A 19) (x - 1)), iJ_add, ← i_of32]
    · rw [if_neg q, if_neg q, Int.add_zero]
  · rw [c13, e1, cp_pu hD, a19]
    by_cases q : ks x = 10
    · rw [if_pos q, pk_t q, if_pos rfl, nI_1]
    · rw [if_neg q, pk_f q, if_neg (by decide)]; rfl
  · rw [e1, cp_pu hD]
    by_cases q : ks x = 10
    · have := h24 q; rw [pk_t q, if_pos rfl]; omega
    · rw [pk_f q, if_neg (by decide)]; omega
  · rw [c14, e1, cp_pu hD, a21]
    by_cases q : ks x = 7
    · rw [if_pos q, pk_t q, if_pos rfl, nI_1]
    · rw [if_neg q, pk_f q, if_neg (by decide)]; rfl
  · rw [c15, e1, uq_at]
    by_cases q : ks x = 10
    · rw [if_pos q]
    · rw [if_neg q, a22, hh q]
theorem RpS.push (h : RpS S Sr S0 A ks D X) (hD : 1 ≤ D) {gx : Nat} (c : CpS S S2 S0 A ks D x h') (d : DpS Sr Sr2 R0 S0 A ks D x gx X) (e4 : ks x = 5 ∨ ks x = 6 → aI R0 44 (A 44) gx = aI S0 18 (A 18) (x - 1) ∧ aI R0 45 (A 45) gx = aI S0 19 (A 19) (x - 1)) : RpS S2 Sr2 S0 A ks (D + 1) (uq X D x) := by
  obtain ⟨a1, a2, a3, a4, a5, a6, a7, a8, a9, a10, a11, a12, a13, a14, a15, a16⟩ := h
  obtain ⟨c1, c2, c3, c4, c5, c6, c7, c8, c9, c10, c11, c12, c13, c14, c15⟩ := c
  obtain ⟨d1, d2, d3, d4, d5, d6, d7, d8, d9, d10, d11, d12, d13, d14, d15, d16⟩ := d
  have e1 : D + 1 - 1 = D := rfl
  refine ⟨d1.trans a1, d2, by rw [d3, c2, a3], by rw [d4, c3, a4], by rw [d5, c4, a5], by rw [d6, c5, a6], fun z => ?_, by rw [d8, c7, a8], by rw [d9, c8, a9], ?_, ?_, ?_, ?_, by rw [d14, c13, a14], by rw [d15, c14, a15], by rw [d16, e1, cp_pu hD]⟩
  · rw [d7, c6]
    by_cases q : ks x = 3
    · rw [if_pos q, if_pos q]
    · rw [if_neg q, if_neg q]
      rw [e1, cp_pu hD, pk_f q, if_neg (by decide)] at z
      exact a7 z
  · rw [d10, c9, a10]
    by_cases q : ks x = 5
    · rw [if_pos q, if_pos q, (e4 (Or.inl q)).2]
    · rw [if_neg q, if_neg q]
  · rw [d11, c10, a11]
    by_cases q : ks x = 5
    · rw [if_pos q, if_pos q, (e4 (Or.inl q)).1]
    · rw [if_neg q, if_neg q]
  · rw [d12, c11, a12]
    by_cases q : ks x = 6
    · rw [if_pos q, if_pos q, (e4 (Or.inr q)).1]
    · rw [if_neg q, if_neg q]
  · rw [d13, c12, a13]
    by_cases q : ks x = 6
    · rw [if_pos q, if_pos q, (e4 (Or.inr q)).2]
    · rw [if_neg q, if_neg q]
/-! the end of a block that is no [ -/
def CoS (S S2 S0 : PS) (A ks : Nat → Nat) (D x : Nat) (F : Nat → Nat) : Prop :=
  fI S2 24 (A 3) = nI (D - 1) ∧ fI S2 26 (A 3) = fI S 26 (A 3) ∧ fI S2 27 (A 3) = fI S 27 (A 3) ∧ fL S2 28 (A 3) = fL S 28 (A 3) ∧ fL S2 29 (A 3) = fL S 29 (A 3) ∧ fI S2 30 (A 3) = (if ks x = 3 then fI S 6 (F (D - 1)) else fI S 30 (A 3)) ∧ fI S2 31 (A 3) = (if ks x = 3 then fI S 31 (A 3) - 1 else fI S 31 (A 3)) ∧ fI S2 32 (A 3) = (if ks x = 5 then fI S 32 (A 3) - 1 else fI S 32 (A 3)) ∧ fL S2 33 (A 3) = (if ks x = 5 then fL S 8 (F (D - 1)) else fL S 33 (A 3)) ∧ fL S2 34 (A 3) = (if ks x = 5 then fL S 9 (F (D - 1)) else fL S 34 (A 3)) ∧ fI S2 35 (A 3) = (if ks x = 6 then fI S 35 (A 3) - aI S0 18 (A 18) (x - 1) else fI S 35 (A 3)) ∧ fI S2 36 (A 3) = (if ks x = 6 then fI S 36 (A 3) - aI S0 19 (A 19) (x - 1) else fI S 36 (A 3)) ∧ fI S2 37 (A 3) = (if ks x = 10 then fI S 37 (A 3) - 1 else fI S 37 (A 3)) ∧ fI S2 38 (A 3) = fI S 38 (A 3) ∧ fI S2 39 (A 3) = (if ks x = 10 then fI S 7 (F (D - 1)) else fI S 39 (A 3))
def DoS (Sr Sr2 R0 S0 : PS) (A ks : Nat → Nat) (D x gx : Nat) (X : Nat → Nat) : Prop :=
  fI Sr2 102 (A 9) = fI Sr 102 (A 9) ∧ fI Sr2 188 (A 9) = nI (D - 1) ∧ fI Sr2 154 (A 9) = fI Sr 154 (A 9) ∧ fI Sr2 155 (A 9) = fI Sr 155 (A 9) ∧ fL Sr2 156 (A 9) = fL Sr 156 (A 9) ∧ fL Sr2 157 (A 9) = fL Sr 157 (A 9) ∧ fI Sr2 158 (A 9) = (if ks x = 3 then aI Sr 90 (A 90) (D - 1) else fI Sr 158 (A 9)) ∧ fI Sr2 159 (A 9) = (if ks x = 3 then fI Sr 159 (A 9) - 1 else fI Sr 159 (A 9)) ∧ fI Sr2 160 (A 9) = (if ks x = 5 then fI Sr 160 (A 9) - 1 else fI Sr 160 (A 9)) ∧ fL Sr2 161 (A 9) = (if ks x = 5 then aL Sr 94 (A 94) (D - 1) else fL Sr 161 (A 9)) ∧ fL Sr2 162 (A 9) = (if ks x = 5 then aL Sr 95 (A 95) (D - 1) else fL Sr 162 (A 9)) ∧ fI Sr2 163 (A 9) = (if ks x = 6 then fI Sr 163 (A 9) - aI R0 44 (A 44) gx else fI Sr 163 (A 9)) ∧ fI Sr2 164 (A 9) = (if ks x = 6 then fI Sr 164 (A 9) - aI R0 45 (A 45) gx else fI Sr 164 (A 9)) ∧ fI Sr2 166 (A 9) = (if ks x = 10 then fI Sr 166 (A 9) - 1 else fI Sr 166 (A 9)) ∧ fI Sr2 165 (A 9) = fI Sr 165 (A 9) ∧ fI Sr2 169 (A 9) = nI (cp (pn S0 A ks) X (D - 1) - if pn S0 A ks x = true then 1 else 0)
theorem PfS.pop {F : Nat → Nat} {lp' : Int} (h : PfS S S0 A ks D st t ln lp X H VF) (hD : 2 ≤ D) (c : CoS S S2 S0 A ks D (X (D - 1)) F) (h7 : ks (X (D - 1)) ≠ 7) (hv : VF (D - 1) = VF (D - 2)) (hh : ks (X (D - 1)) ≠ 10 → H (D - 1) = H (D - 2))
    (f3 : fI S2 30 (A 3) = iJ lp' ∧ lpb lp' st) (f5 : ks (X (D - 1)) = 5 → fL S 8 (F (D - 1)) = lN (pf (wu S0 A ks) X (D - 2)) ∧ fL S 9 (F (D - 1)) = lN (pf (wd5 S0 A ks) X (D - 2))) (f10 : ks (X (D - 1)) = 10 → fI S 7 (F (D - 1)) = hz (H (D - 2))) : PfS S2 S0 A ks (D - 1) st t ln lp' X H VF := by
  obtain ⟨a1, ⟨a2, a3⟩, a4, ⟨a5, a6⟩, ⟨a7, a8, a9⟩, ⟨a10, a11⟩, a12, ⟨a13, a14⟩, a15, a16, a17, a18, ⟨a19, a20⟩, a21, a22⟩ := h
  obtain ⟨c1, c2, c3, c4, c5, c6, c7, c8, c9, c10, c11, c12, c13, c14, c15⟩ := c
  have e1 : D - 1 - 1 = D - 2 := by omega
  have d1 : 1 ≤ D - 1 := by omega
  refine ⟨c1, ⟨c2.trans a2, a3⟩, ?_, ⟨c4.trans a5, a6⟩, ⟨c5.trans a7, a8, a9⟩, f3, ?_, ⟨?_, ?_⟩, ?_, ?_, ?_, ?_, ⟨?_, ?_⟩, ?_, ?_⟩
  · rw [c3, a4, e1, hv]
  · rw [c7, a12, cp_po d1, e1]
    by_cases q : ks (X (D - 1)) = 3
    · rw [if_pos q, pk_t q, if_pos rfl, nI_pred]
    · rw [if_neg q, pk_f q, if_neg (by decide)]; rfl
  · rw [c8, a13, cp_po d1, e1]
    by_cases q : ks (X (D - 1)) = 5
    · rw [if_pos q, pk_t q, if_pos rfl, nI_pred]
    · rw [if_neg q, pk_f q, if_neg (by decide)]; rfl
  · rw [cp_po d1, e1] at a14; rw [e1]; omega
  · rw [c9, e1]
    by_cases q : ks (X (D - 1)) = 5
    · rw [if_pos q]; exact (f5 q).1
    · rw [if_neg q, a15, pf_po d1, e1]
      have : wu S0 A ks (X (D - 1)) = 1 := by unfold wu; rw [if_neg q]
      rw [this, Nat.mul_one]
  · rw [c10, e1]
    by_cases q : ks (X (D - 1)) = 5
    · rw [if_pos q]; exact (f5 q).2
    · rw [if_neg q, a16, pf_po d1, e1]
      have : wd5 S0 A ks (X (D - 1)) = 1 := by unfold wd5; rw [if_neg q]
      rw [this, Nat.mul_one]
  · rw [c11, a17, sf_po d1, e1]
    unfold wm
    by_cases q : ks (X (D - 1)) = 6
    · rw [if_pos q, if_pos q, i_of32 (aI S0 18 (A 18) (X (D - 1) - 1)), iJ_sub, ← i_of32]
      congr 1; omega
    · rw [if_neg q, if_neg q, Int.add_zero]
  · rw [c12, a18, sf_po d1, e1]
    unfold wm
    by_cases q : ks (X (D - 1)) = 6
    · rw [if_pos q, if_pos q, i_of32 (aI S0 19 (A 19) (X (D - 1) - 1)), iJ_sub, ← i_of32]
      congr 1; omega
    · rw [if_neg q, if_neg q, Int.add_zero]
  · rw [c13, a19, cp_po d1, e1]
    by_cases q : ks (X (D - 1)) = 10
    · rw [if_pos q, pk_t q, if_pos rfl, nI_pred]
    · rw [if_neg q, pk_f q, if_neg (by decide)]; rfl
  · rw [cp_po d1, e1] at a20; rw [e1]; omega
  · rw [c14, a21, cp_po d1, e1, pk_f h7, if_neg (by decide)]; rfl
  · rw [c15, e1]
    by_cases q : ks (X (D - 1)) = 10
    · rw [if_pos q]; exact f10 q
    · rw [if_neg q, a22, hh q]
theorem RpS.pop {F : Nat → Nat} (h : RpS S Sr S0 A ks D X) (hD : 2 ≤ D) {gx : Nat} (c : CoS S S2 S0 A ks D (X (D - 1)) F) (d : DoS Sr Sr2 R0 S0 A ks D (X (D - 1)) gx X) (e4 : ks (X (D - 1)) = 6 → aI R0 44 (A 44) gx = aI S0 18 (A 18) (X (D - 1) - 1) ∧ aI R0 45 (A 45) gx = aI S0 19 (A 19) (X (D - 1) - 1))
    (f3 : ks (X (D - 1)) = 3 → 0 < cp (pk ks 3) X (D - 2) → aI Sr 90 (A 90) (D - 1) = fI S 6 (F (D - 1))) (f5 : ks (X (D - 1)) = 5 → aL Sr 94 (A 94) (D - 1) = fL S 8 (F (D - 1)) ∧ aL Sr 95 (A 95) (D - 1) = fL S 9 (F (D - 1))) : RpS S2 Sr2 S0 A ks (D - 1) X := by
  obtain ⟨a1, a2, a3, a4, a5, a6, a7, a8, a9, a10, a11, a12, a13, a14, a15, a16⟩ := h
  obtain ⟨c1, c2, c3, c4, c5, c6, c7, c8, c9, c10, c11, c12, c13, c14, c15⟩ := c
  obtain ⟨d1, d2, d3, d4, d5, d6, d7, d8, d9, d10, d11, d12, d13, d14, d15, d16⟩ := d
  have e1 : D - 1 - 1 = D - 2 := by omega
  have g1 : 1 ≤ D - 1 := by omega
  refine ⟨d1.trans a1, d2, by rw [d3, c2, a3], by rw [d4, c3, a4], by rw [d5, c4, a5], by rw [d6, c5, a6], fun z => ?_, by rw [d8, c7, a8], by rw [d9, c8, a9], ?_, ?_, ?_, ?_, by rw [d14, c13, a14], by rw [d15, c14, a15], ?_⟩
  · rw [e1] at z
    rw [d7, c6]
    by_cases q : ks (X (D - 1)) = 3
    · rw [if_pos q, if_pos q]; exact f3 q z
    · rw [if_neg q, if_neg q]
      refine a7 ?_
      rw [cp_po g1, e1]; omega
  · rw [d10, c9]
    by_cases q : ks (X (D - 1)) = 5
    · rw [if_pos q, if_pos q]; exact (f5 q).1
    · rw [if_neg q, if_neg q]; exact a10
  · rw [d11, c10]
    by_cases q : ks (X (D - 1)) = 5
    · rw [if_pos q, if_pos q]; exact (f5 q).2
    · rw [if_neg q, if_neg q]; exact a11
  · rw [d12, c11, a12]
    by_cases q : ks (X (D - 1)) = 6
    · rw [if_pos q, if_pos q, (e4 q).1]
    · rw [if_neg q, if_neg q]
  · rw [d13, c12, a13]
    by_cases q : ks (X (D - 1)) = 6
    · rw [if_pos q, if_pos q, (e4 q).2]
    · rw [if_neg q, if_neg q]
  · rw [d16, cp_po g1, e1, Nat.add_sub_cancel]
end
