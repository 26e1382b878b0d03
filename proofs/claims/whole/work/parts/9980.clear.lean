/-! A reading begins: the class's score in work. -/
section
variable {S S1 Sr : PS} {A : Nat → Nat} {n i : Nat}
theorem Keep.wW {J R : Nat → Bool} {S S1 : PS} {r a : Nat} {f : Nat → Int32} (h : Keep J R S S1) (hr : R r = true) : Keep J R S (wW S1 r a f) := h.tr ⟨rfl, fun _ _ => ⟨rfl, rfl⟩, fun q hq => ⟨by (funext b; rw [aI_wW, if_neg]; rintro ⟨rfl, -⟩; rw [hr] at hq; cases hq), rfl⟩⟩
def jSw (j : Nat) : Bool := decide (j = 17 ∨ j = 70 ∨ j = 79 ∨ 84 ≤ j ∧ j ≤ 86)
def rSw (r : Nat) : Bool := decide (10 ≤ r ∧ r ≤ 12 ∨ r = 27 ∨ 36 ≤ r ∧ r ≤ 38)
set_option maxHeartbeats 4000000 in
theorem s_clear8 {Q : PS → Prop} (hl : LayS S A) (h39 : aN S (A 39) = 1500) (hn : n ≤ 1500) (hby : ∀ q, q < n → fits .byte (.int (aI S 39 (A 39) q)) = true)
    (hQ : ∀ S1, Kws (SW A) S S1 → Keep jSw rSw S S1 → Clr S1 A → (fI S1 84 (A 7) = 0 ∧ fI S1 85 (A 7) = 0 ∧ fL S1 86 (A 7) = 0) → (∀ q, q < n → aI S1 27 (A 27) q = aI S 39 (A 39) q) → Q S1) : wp_X8_clear (A 7) (A 39) (nI n) S Q := by
  have c0 : (0 : Int32).toNatClampNeg = 0 := rfl
  have cn : (nI n).toNatClampNeg = n := nI_clamp (by omega)
  have pn : ¬ nI n < 0 := nI_pos (by omega)
  unfold wp_X8_clear
  intro K hK
  rw [if_neg pn, h39, if_neg (by rw [nI_lt_iff (by omega) (by omega)]; omega)]
  refine ⟨_, hl.f69, ?_⟩
  rw [hl.n27, if_neg (by rw [nI_lt_iff (by omega) (by omega)]; omega)]
  refine ⟨_, hl.f69, ⟨by decide, by decide, pn, ?_, ?_, fun q hq => ?_⟩, ?_⟩
  · rw [c0, cn]; omega
  · rw [c0, cn, hl.n27]; omega
  · rw [c0, Nat.zero_add]; rw [cn] at hq; exact hby q hq
  rintro _ rfl
  rw [c0, cn]
  apply hK
  rintro _ rfl _ rfl
  generalize hS4 : sI (sI (wW S 27 (A 27) (va_cpy (aI S 39 (A 39)) (aI S 27 (A 27)) 0 0 n)) 70 (A 7) 0) 79 (A 7) 0 = S4
  have k4 : Keep jSw rSw S S4 := by rw [← hS4]; exact ((Keep.rf.wW rfl).sI rfl).sI rfl
  have w4 : Kws (SW A) S S4 := by rw [← hS4]; exact ((Kws.rf.wW (SW.at rfl)).sI (SW.at rfl)).sI (SW.at rfl)
  have f4 : fI S4 70 (A 7) = 0 ∧ fI S4 79 (A 7) = 0 := by rw [← hS4]; simp only [fI_s, fI_sn, fL_s, fL_sn, aI_w, aI_wn, aL_w, aL_wn, fI_sL, fI_wI, fI_wL, fL_sI, fL_wI, fL_wL, aI_sI, aI_sL, aI_wL, aL_sI, aL_sL, aL_wI, fR_sI, fR_sL, fR_wI, fR_wL, aN_sI, aN_sL, aN_wI, aN_wL, ne_eq, Nat.reduceEqDiff, not_false_eq_true]; exact ⟨trivial, trivial⟩
  have t4 : ∀ q, q < n → aI S4 27 (A 27) q = aI S 39 (A 39) q := fun q hq => by
    rw [← hS4, aI_sI, aI_sI, aI_wW, if_pos ⟨rfl, rfl⟩]
    unfold va_cpy
    rw [if_pos ⟨by omega, by omega⟩]
    congr 1
    omega
  clear hS4
  have l4 := hl.st k4.1
  refine ⟨_, l4.f83, s_mclear l4 ?_⟩
  rintro _ rfl _ rfl _ rfl
  generalize hS9 : sL (sI (sI (wI (wI (wL (sI S4 17 (A 2) 1) 10 (A 10) 0 0) 11 (A 11) 0 4) 12 (A 12) 0 4) 84 (A 7) 0) 85 (A 7) 0) 86 (A 7) 0 = S9
  have k9 : Keep jSw rSw S4 S9 := by rw [← hS9]; exact ((((((Keep.rf.sI rfl).wL rfl).wI rfl).wI rfl).sI rfl).sI rfl).sL rfl
  have w9 : Kws (SW A) S S9 := by rw [← hS9]; exact ((((((w4.sI (SW.at rfl)).wL (SW.at rfl)).wI (SW.at rfl)).wI (SW.at rfl)).sI (SW.at rfl)).sI (SW.at rfl)).sL (SW.at rfl)
  have f9 : fI S9 70 (A 7) = 0 ∧ fI S9 79 (A 7) = 0 ∧ fI S9 17 (A 2) = 1 ∧ fI S9 84 (A 7) = 0 ∧ fI S9 85 (A 7) = 0 ∧ fL S9 86 (A 7) = 0 := by
    rw [← hS9]; simp only [fI_s, fI_sn, fL_s, fL_sn, aI_w, aI_wn, aL_w, aL_wn, fI_sL, fI_wI, fI_wL, fL_sI, fL_wI, fL_wL, aI_sI, aI_sL, aI_wL, aL_sI, aL_sL, aL_wI, fR_sI, fR_sL, fR_wI, fR_wL, aN_sI, aN_sL, aN_wI, aN_wL, ne_eq, Nat.reduceEqDiff, not_false_eq_true]; exact ⟨f4.1, f4.2, trivial, trivial, trivial, trivial⟩
  have a9 : aL S9 10 (A 10) 0 = 0 ∧ aI S9 11 (A 11) 0 = 4 ∧ aI S9 12 (A 12) 0 = 4 ∧ aI S9 27 = aI S4 27 := by
    rw [← hS9]; simp only [fI_s, fI_sn, fL_s, fL_sn, aI_w, aI_wn, aL_w, aL_wn, fI_sL, fI_wI, fI_wL, fL_sI, fL_wI, fL_wL, aI_sI, aI_sL, aI_wL, aL_sI, aL_sL, aL_wI, fR_sI, fR_sL, fR_wI, fR_wL, aN_sI, aN_sL, aN_wI, aN_wL, ne_eq, Nat.reduceEqDiff, not_false_eq_true]; rw [uq_at, uq_at, uq_at]; exact ⟨rfl, rfl, rfl, trivial⟩
  clear hS9
  have l9 := l4.st k9.1
  have v0 : ∀ {r : Nat}, r = 12 → vp_in 0 r := fun h => by rw [h, show (0 : Int32) = nI 0 from rfl]; exact vp_in_nI (by omega) (by omega)
  unfold wp_X8_addVoice
  rintro _ rfl
  rw [f9.2.1, if_neg (by decide)]
  rintro _ rfl
  refine ⟨_, l9.f80, v0 l9.n36, ?_⟩
  rintro _ rfl
  refine ⟨_, l9.f81, v0 l9.n37, ?_⟩
  rintro _ rfl
  refine ⟨_, l9.f82, v0 l9.n38, ?_⟩
  rintro _ rfl
  rw [c0]
  refine hQ _ ((((w9.sI (SW.at rfl)).wL (SW.at rfl)).wI (SW.at rfl)).wI (SW.at rfl)) (Keep.tr k4 (Keep.tr k9 ((((Keep.rf.sI rfl).wL rfl).wI rfl).wI rfl))) ⟨⟨?_, ?_, ?_, ?_, ?_⟩, ?_, ?_, ?_, ?_⟩ ⟨?_, ?_, ?_⟩ (fun q hq => ?_)
  · simp only [fI_s, fI_sn, fL_s, fL_sn, aI_w, aI_wn, aL_w, aL_wn, fI_sL, fI_wI, fI_wL, fL_sI, fL_wI, fL_wL, aI_sI, aI_sL, aI_wL, aL_sI, aL_sL, aL_wI, fR_sI, fR_sL, fR_wI, fR_wL, aN_sI, aN_sL, aN_wI, aN_wL, ne_eq, Nat.reduceEqDiff, not_false_eq_true]; exact f9.1
  · simp only [fI_s, fI_sn, fL_s, fL_sn, aI_w, aI_wn, aL_w, aL_wn, fI_sL, fI_wI, fI_wL, fL_sI, fL_wI, fL_wL, aI_sI, aI_sL, aI_wL, aL_sI, aL_sL, aL_wI, fR_sI, fR_sL, fR_wI, fR_wL, aN_sI, aN_sL, aN_wI, aN_wL, ne_eq, Nat.reduceEqDiff, not_false_eq_true]; rfl
  · simp only [fI_s, fI_sn, fL_s, fL_sn, aI_w, aI_wn, aL_w, aL_wn, fI_sL, fI_wI, fI_wL, fL_sI, fL_wI, fL_wL, aI_sI, aI_sL, aI_wL, aL_sI, aL_sL, aL_wI, fR_sI, fR_sL, fR_wI, fR_wL, aN_sI, aN_sL, aN_wI, aN_wL, ne_eq, Nat.reduceEqDiff, not_false_eq_true]; rw [uq_at]
  · simp only [fI_s, fI_sn, fL_s, fL_sn, aI_w, aI_wn, aL_w, aL_wn, fI_sL, fI_wI, fI_wL, fL_sI, fL_wI, fL_wL, aI_sI, aI_sL, aI_wL, aL_sI, aL_sL, aL_wI, fR_sI, fR_sL, fR_wI, fR_wL, aN_sI, aN_sL, aN_wI, aN_wL, ne_eq, Nat.reduceEqDiff, not_false_eq_true]; rw [uq_at]
  · simp only [fI_s, fI_sn, fL_s, fL_sn, aI_w, aI_wn, aL_w, aL_wn, fI_sL, fI_wI, fI_wL, fL_sI, fL_wI, fL_wL, aI_sI, aI_sL, aI_wL, aL_sI, aL_sL, aL_wI, fR_sI, fR_sL, fR_wI, fR_wL, aN_sI, aN_sL, aN_wI, aN_wL, ne_eq, Nat.reduceEqDiff, not_false_eq_true]; rw [uq_at]
  · simp only [fI_s, fI_sn, fL_s, fL_sn, aI_w, aI_wn, aL_w, aL_wn, fI_sL, fI_wI, fI_wL, fL_sI, fL_wI, fL_wL, aI_sI, aI_sL, aI_wL, aL_sI, aL_sL, aL_wI, fR_sI, fR_sL, fR_wI, fR_wL, aN_sI, aN_sL, aN_wI, aN_wL, ne_eq, Nat.reduceEqDiff, not_false_eq_true]; exact f9.2.2.1
  · simp only [fI_s, fI_sn, fL_s, fL_sn, aI_w, aI_wn, aL_w, aL_wn, fI_sL, fI_wI, fI_wL, fL_sI, fL_wI, fL_wL, aI_sI, aI_sL, aI_wL, aL_sI, aL_sL, aL_wI, fR_sI, fR_sL, fR_wI, fR_wL, aN_sI, aN_sL, aN_wI, aN_wL, ne_eq, Nat.reduceEqDiff, not_false_eq_true]; exact a9.1
  · simp only [fI_s, fI_sn, fL_s, fL_sn, aI_w, aI_wn, aL_w, aL_wn, fI_sL, fI_wI, fI_wL, fL_sI, fL_wI, fL_wL, aI_sI, aI_sL, aI_wL, aL_sI, aL_sL, aL_wI, fR_sI, fR_sL, fR_wI, fR_wL, aN_sI, aN_sL, aN_wI, aN_wL, ne_eq, Nat.reduceEqDiff, not_false_eq_true]; exact a9.2.1
  · simp only [fI_s, fI_sn, fL_s, fL_sn, aI_w, aI_wn, aL_w, aL_wn, fI_sL, fI_wI, fI_wL, fL_sI, fL_wI, fL_wL, aI_sI, aI_sL, aI_wL, aL_sI, aL_sL, aL_wI, fR_sI, fR_sL, fR_wI, fR_wL, aN_sI, aN_sL, aN_wI, aN_wL, ne_eq, Nat.reduceEqDiff, not_false_eq_true]; exact a9.2.2.1
  · simp only [fI_s, fI_sn, fL_s, fL_sn, aI_w, aI_wn, aL_w, aL_wn, fI_sL, fI_wI, fI_wL, fL_sI, fL_wI, fL_wL, aI_sI, aI_sL, aI_wL, aL_sI, aL_sL, aL_wI, fR_sI, fR_sL, fR_wI, fR_wL, aN_sI, aN_sL, aN_wI, aN_wL, ne_eq, Nat.reduceEqDiff, not_false_eq_true]; exact f9.2.2.2.1
  · simp only [fI_s, fI_sn, fL_s, fL_sn, aI_w, aI_wn, aL_w, aL_wn, fI_sL, fI_wI, fI_wL, fL_sI, fL_wI, fL_wL, aI_sI, aI_sL, aI_wL, aL_sI, aL_sL, aL_wI, fR_sI, fR_sL, fR_wI, fR_wL, aN_sI, aN_sL, aN_wI, aN_wL, ne_eq, Nat.reduceEqDiff, not_false_eq_true]; exact f9.2.2.2.2.1
  · simp only [fI_s, fI_sn, fL_s, fL_sn, aI_w, aI_wn, aL_w, aL_wn, fI_sL, fI_wI, fI_wL, fL_sI, fL_wI, fL_wL, aI_sI, aI_sL, aI_wL, aL_sI, aL_sL, aL_wI, fR_sI, fR_sL, fR_wI, fR_wL, aN_sI, aN_sL, aN_wI, aN_wL, ne_eq, Nat.reduceEqDiff, not_false_eq_true]; exact f9.2.2.2.2.2
  · simp only [fI_s, fI_sn, fL_s, fL_sn, aI_w, aI_wn, aL_w, aL_wn, fI_sL, fI_wI, fI_wL, fL_sI, fL_wI, fL_wL, aI_sI, aI_sL, aI_wL, aL_sI, aL_sL, aL_wI, fR_sI, fR_sL, fR_wI, fR_wL, aN_sI, aN_sL, aN_wI, aN_wL, ne_eq, Nat.reduceEqDiff, not_false_eq_true]; rw [a9.2.2.2]; exact t4 q hq
end
