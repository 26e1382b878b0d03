/-! A reading begins, of both. -/
section
variable {S S1 Sr : PS} {A : Nat → Nat} {n i : Nat}
def j96 (j : Nat) : Bool := decide (j = 96 ∨ j = 98 ∨ j = 100 ∨ j = 102)
def r41 (r : Nat) : Bool := decide (r = 41)
/-- what the reference does with its answer -/
def RAn (A : Nat → Nat) (Q : Int32 → PS → Prop) (S8 : PS) : Prop := if fI S8 102 (A 9) ≤ 0 then wp_X12_tell (A 9) S8 (fun S9 => Q (fI S9 206 (A 9)) S9) else ∀ S10, S10 = sI S8 104 (A 9) (fI S8 102 (A 9)) → Q ((-1000) - (fI S10 103 (A 9))) S10
theorem r_read {Q : Int32 → PS → Prop} (lm : LayM S A) (h98 : fI S 98 (A 9) = nI n) (hn : n ≤ 1500)
    (hQ : ∀ S1, Keep j96 r41 S S1 → (fI S1 96 (A 9) = 0 ∧ fI S1 98 (A 9) = 0 ∧ fI S1 100 (A 9) = nI n ∧ fI S1 102 (A 9) = 0) → (∀ q, q < n → aI S1 41 (A 41) q = vp_nar .byte (aI S 40 (A 40) q)) → wp_X12_readText (A 9) S1 (RAn A Q)) : wp_X12_read (A 9) S Q := by
  unfold wp_X12_read
  rintro _ rfl
  intro P hP
  have key : ∀ m i S1, i + m = n → Keep j96 r41 S S1 → fI S1 96 (A 9) = 0 → fI S1 98 (A 9) = nI n → (∀ q, q < i → aI S1 41 (A 41) q = vp_nar .byte (aI S 40 (A 40) q)) → P (nI i) S1 := by
    intro m
    induction m with
    | zero =>
      intro i S1 hi k1 h96 h98' ho
      apply hP
      rw [h98', if_pos ((nI_le_iff (by omega) (by omega)).mpr (by omega))]
      have e : i = n := by omega
      rw [e] at ho
      rintro _ rfl _ rfl _ rfl
      exact hQ _ (((k1.sI rfl).sI rfl).sI rfl) ⟨by simp only [fI_s, fI_sn, fL_s, fL_sn, aI_w, aI_wn, aL_w, aL_wn, fI_sL, fI_wI, fI_wL, fL_sI, fL_wI, fL_wL, aI_sI, aI_sL, aI_wL, aL_sI, aL_sL, aL_wI, fR_sI, fR_sL, fR_wI, fR_wL, aN_sI, aN_sL, aN_wI, aN_wL, ne_eq, Nat.reduceEqDiff, not_false_eq_true]; exact h96, by simp only [fI_s, fI_sn, fL_s, fL_sn, aI_w, aI_wn, aL_w, aL_wn, fI_sL, fI_wI, fI_wL, fL_sI, fL_wI, fL_wL, aI_sI, aI_sL, aI_wL, aL_sI, aL_sL, aL_wI, fR_sI, fR_sL, fR_wI, fR_wL, aN_sI, aN_sL, aN_wI, aN_wL, ne_eq, Nat.reduceEqDiff, not_false_eq_true], by simp only [fI_s, fI_sn, fL_s, fL_sn, aI_w, aI_wn, aL_w, aL_wn, fI_sL, fI_wI, fI_wL, fL_sI, fL_wI, fL_wL, aI_sI, aI_sL, aI_wL, aL_sI, aL_sL, aL_wI, fR_sI, fR_sL, fR_wI, fR_wL, aN_sI, aN_sL, aN_wI, aN_wL, ne_eq, Nat.reduceEqDiff, not_false_eq_true], by simp only [fI_s, fI_sn, fL_s, fL_sn, aI_w, aI_wn, aL_w, aL_wn, fI_sL, fI_wI, fI_wL, fL_sI, fL_wI, fL_wL, aI_sI, aI_sL, aI_wL, aL_sI, aL_sL, aL_wI, fR_sI, fR_sL, fR_wI, fR_wL, aN_sI, aN_sL, aN_wI, aN_wL, ne_eq, Nat.reduceEqDiff, not_false_eq_true]⟩ (fun q hq => by simp only [fI_s, fI_sn, fL_s, fL_sn, aI_w, aI_wn, aL_w, aL_wn, fI_sL, fI_wI, fI_wL, fL_sI, fL_wI, fL_wL, aI_sI, aI_sL, aI_wL, aL_sI, aL_sL, aL_wI, fR_sI, fR_sL, fR_wI, fR_wL, aN_sI, aN_sL, aN_wI, aN_wL, ne_eq, Nat.reduceEqDiff, not_false_eq_true]; exact ho q hq)
    | succ m ih =>
      intro i S1 hi k1 h96 h98' ho
      have l1 := lm.st k1.1
      apply hP
      rw [h98', if_neg (by rw [nI_le_iff (by omega) (by omega)]; omega)]
      have vi : ∀ {r : Nat}, r = 1500 → vp_in (nI i) r := fun h => by rw [h]; exact vp_in_nI (by omega) (by omega)
      refine ⟨_, l1.f99, _, l1.f97, vi l1.n40, vi l1.n41, ?_⟩
      rintro _ rfl _ rfl
      rw [nI_1, nI_clamp (by omega), (k1.2.2 40 rfl).1]
      refine ih (i + 1) _ (by omega) (k1.wI rfl) (by simp only [fI_s, fI_sn, fL_s, fL_sn, aI_w, aI_wn, aL_w, aL_wn, fI_sL, fI_wI, fI_wL, fL_sI, fL_wI, fL_wL, aI_sI, aI_sL, aI_wL, aL_sI, aL_sL, aL_wI, fR_sI, fR_sL, fR_wI, fR_wL, aN_sI, aN_sL, aN_wI, aN_wL, ne_eq, Nat.reduceEqDiff, not_false_eq_true]; exact h96) (by simp only [fI_s, fI_sn, fL_s, fL_sn, aI_w, aI_wn, aL_w, aL_wn, fI_sL, fI_wI, fI_wL, fL_sI, fL_wI, fL_wL, aI_sI, aI_sL, aI_wL, aL_sI, aL_sL, aL_wI, fR_sI, fR_sL, fR_wI, fR_wL, aN_sI, aN_sL, aN_wI, aN_wL, ne_eq, Nat.reduceEqDiff, not_false_eq_true]; exact h98') (fun k hk => ?_)
      simp only [fI_s, fI_sn, fL_s, fL_sn, aI_w, aI_wn, aL_w, aL_wn, fI_sL, fI_wI, fI_wL, fL_sI, fL_wI, fL_wL, aI_sI, aI_sL, aI_wL, aL_sI, aL_sL, aL_wI, fR_sI, fR_sL, fR_wI, fR_wL, aN_sI, aN_sL, aN_wI, aN_wL, ne_eq, Nat.reduceEqDiff, not_false_eq_true]
      by_cases z : k = i
      · rw [z, uq_at]
      · rw [uq_ne z]; exact ho k (by omega)
  exact key n 0 _ (by omega) (Keep.rf.sI rfl) (by simp only [fI_s, fI_sn, fL_s, fL_sn, aI_w, aI_wn, aL_w, aL_wn, fI_sL, fI_wI, fI_wL, fL_sI, fL_wI, fL_wL, aI_sI, aI_sL, aI_wL, aL_sI, aL_sL, aL_wI, fR_sI, fR_sL, fR_wI, fR_wL, aN_sI, aN_sL, aN_wI, aN_wL, ne_eq, Nat.reduceEqDiff, not_false_eq_true]) (by simp only [fI_s, fI_sn, fL_s, fL_sn, aI_w, aI_wn, aL_w, aL_wn, fI_sL, fI_wI, fI_wL, fL_sI, fL_wI, fL_wL, aI_sI, aI_sL, aI_wL, aL_sI, aL_sL, aL_wI, fR_sI, fR_sL, fR_wI, fR_wL, aN_sI, aN_sL, aN_wI, aN_wL, ne_eq, Nat.reduceEqDiff, not_false_eq_true]; exact h98) (fun k hk => by omega)
/-- the cells of the score in work -/
def scw (r : Nat) : Bool := decide (r = 2 ∨ r = 7 ∨ 10 ≤ r ∧ r ≤ 12 ∨ 27 ≤ r ∧ r ≤ 38)
def SW (A : Nat → Nat) (b : Nat) : Prop := ∃ r, scw r = true ∧ b = A r
theorem SW.at {r : Nat} {S0 : PS} (h : scw r = true) : SW A (A r) ∨ A r ∉ pL S0 := Or.inl ⟨r, h, rfl⟩
theorem Kws.wW {W : Nat → Prop} {S0 S : PS} {r a : Nat} {f : Nat → Int32} (h : Kws W S0 S) (ha : W a ∨ a ∉ pL S0) : Kws W S0 (wW S r a f) := by
  refine ⟨h.1.tr Ext.wW, fun b hb hw => ?_⟩
  have hne : b ≠ a := fun e => by subst e; rcases ha with z | z; exact hw z; exact z hb
  have q := h.2 b hb hw
  refine ⟨q.1, fun r' i' => ⟨?_, (q.2 r' i').2⟩⟩
  rw [aI_wW, if_neg (fun z => hne z.2)]
  exact (q.2 r' i').1
theorem s_mclear {Q : PS → Prop} (hl : LayS S A) (hQ : Q (wI (wI (wL (sI S 17 (A 2) 1) 10 (A 10) 0 0) 11 (A 11) 0 4) 12 (A 12) 0 4)) : wp_X2_clear (A 2) S Q := by
  have v0 : ∀ {r : Nat}, r = 40 → vp_in 0 r := fun h => by rw [h, show (0 : Int32) = nI 0 from rfl]; exact vp_in_nI (by omega) (by omega)
  unfold wp_X2_clear
  rintro _ rfl
  refine ⟨_, hl.f18, v0 hl.n10, ?_⟩
  rintro _ rfl
  refine ⟨_, hl.f19, v0 hl.n11, ?_⟩
  rintro _ rfl
  refine ⟨_, hl.f20, v0 hl.n12, ?_⟩
  rintro _ rfl
  exact hQ
end
