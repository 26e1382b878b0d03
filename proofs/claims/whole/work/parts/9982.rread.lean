/-! The reference's read, of a text that the class has read. -/
section
variable {S1 S2 Sr : PS} {A : Nat → Nat} {B w : Nat → Int32} {n N nd E V M st t sy : Nat} {bh par ks s v : Nat → Nat}
def jRf (j : Nat) : Bool := decide (j ≠ 104 ∧ (j = 96 ∨ 98 ≤ j ∧ j ≤ 188))
def rRf (r : Nat) : Bool := decide (41 ≤ r ∧ r ≤ 100)
def jRg (j : Nat) : Bool := decide (j ≠ 104 ∧ (j = 96 ∨ 98 ≤ j ∧ j ≤ 188 ∨ 206 ≤ j ∧ j ≤ 211))
def rRg (r : Nat) : Bool := decide (41 ≤ r ∧ r ≤ 117)
theorem Red.n125 (h : Red S1 Sr A B n) : fI Sr 125 (A 9) = fI S1 54 (A 5) := by
  obtain ⟨N, pc, nd, bh, par, ks, lv, T, wr, sy, g, ow, rs⟩ := h.rs
  rw [rs.1.2.2.2.2.2.2.2.1, rs.1.2.2.2.2.2.2.1]
theorem Red.rt (h : Red S1 Sr A B n) : RT Sr A B n := by
  obtain ⟨p, N, pc, nd, ci, mm⟩ := h
  obtain ⟨T, wr, sy, g, ow, bh, par, ks, lv, pe, lst, mx⟩ := mm.mx
  exact mx.1
/-- the class has read and performed -/
theorem r_good {Q : Int32 → PS → Prop} (lm : LayM Sr A) (h98 : fI Sr 98 (A 9) = nI n) (hn : n ≤ 1500) (hby : ∀ q, q < n → Byt (w q)) (h40 : ∀ q, q < n → aI Sr 40 (A 40) q = w q)
    (hrd : ∀ Sr, RT Sr A (Bof w n) n → fI Sr 102 (A 9) = 0 → ∀ Q2 : PS → Prop, (∀ Sr1, KM Sr Sr1 → fI Sr1 102 (A 9) = 0 → Red S1 Sr1 A (Bof w n) n → PFm (A 9) 0 Sr1 Q2) → wp_X12_readText (A 9) Sr Q2)
    (hst : ∀ Sr', Red S1 Sr' A (Bof w n) n → ∃ pc' T wr sy g ow, RSR S1 Sr' A (Bof w n) n N nd bh par ks pc' T wr sy g ow)
    (hpl : ∀ R0 pc T wr sy g ow, RSR S1 R0 A (Bof w n) n N nd bh par ks pc T wr sy g ow → fI R0 102 (A 9) = 0 → ∀ Q2 : PS → Prop, (∀ Sr1, RFin S2 Sr1 R0 A (Bof w n) n sy E V M st t → Q2 Sr1) → PFm (A 9) 0 R0 Q2)
    (h54 : fI S1 54 (A 5) = nI nd) (so : Sco S2 A (Bof w n) n nd E V M st t s v)
    (hQ : ∀ Sr1, Keep jRg rRg Sr Sr1 → (fI Sr1 96 (A 9) = 0 ∧ fI Sr1 98 (A 9) = 0 ∧ fI Sr1 102 (A 9) = 0) → Tol S2 Sr1 A (Bof w n) n nd E V M st t → (∀ q, q < n → aI Sr1 101 (A 101) q = w q) → Q (nI E) Sr1) : wp_X12_read (A 9) Sr Q := by
  refine r_read lm h98 hn (fun Sr1 k1 f1 t1 => ?_)
  have h41 : ∀ q, q < n → aI Sr1 41 (A 41) q = w q := fun q hq => by rw [t1 q hq, h40 q hq]; exact (hby q hq).all.1
  obtain ⟨rt, r95⟩ := Bof.rt (lm.st k1.1) f1.2.2.1 hn hby h41
  refine hrd Sr1 rt f1.2.2.2 _ (fun Sr2 k2 z2 rd => ?_)
  obtain ⟨pc', T, wr, sy, g, ow, hr⟩ := hst Sr2 rd
  refine hpl Sr2 pc' T wr sy g ow hr z2 _ (fun Sr3 fn => ?_)
  have k3 := fn.1
  have z3 := fn.2.1
  unfold RAn
  rw [z3, if_pos (by decide)]
  have e41 : aI Sr2 41 = aI Sr1 41 := (k2.2.2 41 rfl).1
  refine r_tell (nd := nd) rd.rt (fun q hq => by rw [e41]; exact r95 q hq) (by rw [rd.n125]; exact h54) (by have := hr.2.1; omega) fn so (fun Sr4 k4 tl tx => ?_)
  rw [tl.1.1]
  have kk : Keep jRg rRg Sr Sr4 := Keep.tr (k1.mono (fun j => by unfold j96 jRg; simp only [decide_eq_false_iff_not]; omega) (fun r => by unfold r41 rRg; simp only [decide_eq_false_iff_not]; omega)) (Keep.tr (k2.mono (fun j => by unfold jM jRg; simp only [decide_eq_false_iff_not]; omega) (fun r => by unfold rM rRg; simp only [decide_eq_false_iff_not]; omega)) (Keep.tr (k3.mono (fun j => by unfold jPf jRg; simp only [decide_eq_false_iff_not]; omega) (fun r => by unfold rPf rRg; simp only [decide_eq_false_iff_not]; omega)) (k4.mono (fun j => by unfold jTl jRg; simp only [decide_eq_false_iff_not]; omega) (fun r => by unfold rTl rRg; simp only [decide_eq_false_iff_not]; omega))))
  refine hQ Sr4 kk ⟨?_, ?_, ?_⟩ tl (fun q hq => ?_)
  · rw [(k4.2.1 96 rfl).1, (k3.2.1 96 rfl).1, (k2.2.1 96 rfl).1]; exact f1.1
  · rw [(k4.2.1 98 rfl).1, (k3.2.1 98 rfl).1, (k2.2.1 98 rfl).1]; exact f1.2.1
  · rw [(k4.2.1 102 rfl).1]; exact z3
  · rw [tx q hq, (k3.2.2 41 rfl).1, e41, h41 q hq]; exact (hby q hq).all.1
end
