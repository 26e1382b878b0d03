/-! The reference's read, of a text that the class refuses. -/
section
variable {S1 S2 Sr : PS} {A : Nat → Nat} {B w : Nat → Int32} {n N nd : Nat} {bh par ks : Nat → Nat} {e : Nat × Nat}
def jRh (j : Nat) : Bool := decide (j = 96 ∨ 98 ≤ j ∧ j ≤ 188)
def jRk (j : Nat) : Bool := decide (101 ≤ j ∧ j ≤ 188 ∧ j ≠ 104)
theorem r_fail {Q : Int32 → PS → Prop} (lm : LayM Sr A) (h98 : fI Sr 98 (A 9) = nI n) (hn : n ≤ 1500) (hby : ∀ q, q < n → Byt (w q)) (h40 : ∀ q, q < n → aI Sr 40 (A 40) q = w q) (hk : Kd e)
    (hrd : ∀ Sr, RT Sr A (Bof w n) n → fI Sr 102 (A 9) = 0 → ∀ Q2 : PS → Prop, (∀ Sr1, Keep jRk rRf Sr Sr1 → fI Sr1 102 (A 9) = nI e.1 → fI Sr1 103 (A 9) = nI e.2 → Q2 Sr1) → wp_X12_readText (A 9) Sr Q2)
    (hQ : ∀ Sr1, Keep jRh rRf Sr Sr1 → (fI Sr1 96 (A 9) = 0 ∧ fI Sr1 98 (A 9) = 0 ∧ fI Sr1 104 (A 9) = nI e.1 ∧ fI Sr1 103 (A 9) = nI e.2) → Q ((-1000) - nI e.2) Sr1) : wp_X12_read (A 9) Sr Q := by
  refine r_read lm h98 hn (fun Sr1 k1 f1 t1 => ?_)
  have h41 : ∀ q, q < n → aI Sr1 41 (A 41) q = w q := fun q hq => by rw [t1 q hq, h40 q hq]; exact (hby q hq).all.1
  obtain ⟨rt, _⟩ := Bof.rt (lm.st k1.1) f1.2.2.1 hn hby h41
  refine hrd Sr1 rt f1.2.2.2 _ (fun Sr2 k2 z1 z2 => ?_)
  unfold RAn
  rw [if_neg (by rw [z1]; exact hk.nle)]
  rintro _ rfl
  rw [fI_sn _ _ _ _ _ (by decide), z2]
  have kk : Keep jRh rRf Sr Sr2 := Keep.tr (k1.mono (fun j => by unfold j96 jRh; simp only [decide_eq_false_iff_not]; omega) (fun r => by unfold r41 rRf; simp only [decide_eq_false_iff_not]; omega)) (k2.mono (fun j => by unfold jRk jRh; simp only [decide_eq_false_iff_not]; omega) (fun _ h => h))
  refine hQ _ (kk.sI rfl) ⟨?_, ?_, ?_, ?_⟩
  · simp only [fI_s, fI_sn, fL_s, fL_sn, aI_w, aI_wn, aL_w, aL_wn, fI_sL, fI_wI, fI_wL, fL_sI, fL_wI, fL_wL, aI_sI, aI_sL, aI_wL, aL_sI, aL_sL, aL_wI, fR_sI, fR_sL, fR_wI, fR_wL, aN_sI, aN_sL, aN_wI, aN_wL, ne_eq, Nat.reduceEqDiff, not_false_eq_true]; rw [(k2.2.1 96 rfl).1]; exact f1.1
  · simp only [fI_s, fI_sn, fL_s, fL_sn, aI_w, aI_wn, aL_w, aL_wn, fI_sL, fI_wI, fI_wL, fL_sI, fL_wI, fL_wL, aI_sI, aI_sL, aI_wL, aL_sI, aL_sL, aL_wI, fR_sI, fR_sL, fR_wI, fR_wL, aN_sI, aN_sL, aN_wI, aN_wL, ne_eq, Nat.reduceEqDiff, not_false_eq_true]; rw [(k2.2.1 98 rfl).1]; exact f1.2.1
  · simp only [fI_s, fI_sn, fL_s, fL_sn, aI_w, aI_wn, aL_w, aL_wn, fI_sL, fI_wI, fI_wL, fL_sI, fL_wI, fL_wL, aI_sI, aI_sL, aI_wL, aL_sI, aL_sL, aL_wI, fR_sI, fR_sL, fR_wI, fR_wL, aN_sI, aN_sL, aN_wI, aN_wL, ne_eq, Nat.reduceEqDiff, not_false_eq_true]; exact z1
  · simp only [fI_s, fI_sn, fL_s, fL_sn, aI_w, aI_wn, aL_w, aL_wn, fI_sL, fI_wI, fI_wL, fL_sI, fL_wI, fL_wL, aI_sI, aI_sL, aI_wL, aL_sI, aL_sL, aL_wI, fR_sI, fR_sL, fR_wI, fR_wL, aN_sI, aN_sL, aN_wI, aN_wL, ne_eq, Nat.reduceEqDiff, not_false_eq_true]; exact z2
/-- a fault of reading -/
theorem fail_rd (h : ∀ Sr, RT Sr A B n → fI Sr 102 (A 9) = 0 → ∀ Q2 : PS → Prop, (∀ Sr1, RFM Sr Sr1 A e → Q2 Sr1) → wp_X12_readText (A 9) Sr Q2) :
    ∀ Sr, RT Sr A B n → fI Sr 102 (A 9) = 0 → ∀ Q2 : PS → Prop, (∀ Sr1, Keep jRk rRf Sr Sr1 → fI Sr1 102 (A 9) = nI e.1 → fI Sr1 103 (A 9) = nI e.2 → Q2 Sr1) → wp_X12_readText (A 9) Sr Q2 :=
  fun Sr rt hf Q2 hq => h Sr rt hf Q2 (fun Sr1 rf => hq Sr1 (rf.1.mono (fun j => by unfold jM jRk; simp only [decide_eq_false_iff_not]; omega) (fun r => by unfold rM rRf; simp only [decide_eq_false_iff_not]; omega)) rf.2.1 rf.2.2)
/-- a fault of performing -/
theorem fail_pf (hrd : ∀ Sr, RT Sr A B n → fI Sr 102 (A 9) = 0 → ∀ Q2 : PS → Prop, (∀ Sr1, KM Sr Sr1 → fI Sr1 102 (A 9) = 0 → Red S1 Sr1 A B n → PFm (A 9) 0 Sr1 Q2) → wp_X12_readText (A 9) Sr Q2)
    (hst : ∀ Sr', Red S1 Sr' A B n → ∃ pc' T wr sy g ow, RSR S1 Sr' A B n N nd bh par ks pc' T wr sy g ow)
    (hpl : ∀ R0 pc T wr sy g ow, RSR S1 R0 A B n N nd bh par ks pc T wr sy g ow → fI R0 102 (A 9) = 0 → ∀ Q2 : PS → Prop, (∀ Sr1, RBad R0 Sr1 A e → Q2 Sr1) → PFm (A 9) 0 R0 Q2) :
    ∀ Sr, RT Sr A B n → fI Sr 102 (A 9) = 0 → ∀ Q2 : PS → Prop, (∀ Sr1, Keep jRk rRf Sr Sr1 → fI Sr1 102 (A 9) = nI e.1 → fI Sr1 103 (A 9) = nI e.2 → Q2 Sr1) → wp_X12_readText (A 9) Sr Q2 := by
  intro Sr rt hf Q2 hq
  refine hrd Sr rt hf Q2 (fun Sr1 k1 z1 rd => ?_)
  obtain ⟨pc', T, wr, sy, g, ow, hr⟩ := hst Sr1 rd
  refine hpl Sr1 pc' T wr sy g ow hr z1 Q2 (fun Sr2 rb => hq Sr2 ?_ rb.2.1 rb.2.2)
  exact Keep.tr (k1.mono (fun j => by unfold jM jRk; simp only [decide_eq_false_iff_not]; omega) (fun r => by unfold rM rRf; simp only [decide_eq_false_iff_not]; omega)) (rb.1.mono (fun j => by unfold jPf jRk; simp only [decide_eq_false_iff_not]; omega) (fun r => by unfold rPf rRf; simp only [decide_eq_false_iff_not]; omega))
end
