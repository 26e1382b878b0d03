/-! Performing: L, T, X and the push of R. -/
section
variable {S S1 S2 S0 Sr Sr1 Sr2 R0 : PS} {A : Nat → Nat} {B : Nat → Int32} {n N nd pc : Nat} {bh par ks lv g ow : Nat → Nat}
variable {D m st E V M t ln sy x : Nat} {lp : Int} {X Y C H F VF TB X' Y' C' H' F' : Nat → Nat}
theorem nmf_fu (hp : ∀ x, 1 ≤ x → x ≤ N → par x < x) : ∀ y f, y ≤ N → y < f → nmf par ks f y = nmf par ks (y + 1) y := by
  intro y
  induction y using Nat.strongRecOn with
  | ind y ihy =>
    intro f hy h
    obtain ⟨k, rfl⟩ : ∃ k, f = k + 1 := ⟨f - 1, by omega⟩
    rw [nmf, nmf]
    by_cases c : y = 0
    · rw [if_pos c, if_pos c]
    · rw [if_neg c, if_neg c]
      split
      · rfl
      · have := hp y (by omega) hy
        rw [ihy (par y) this k (by omega) (by omega), ihy (par y) this y (by omega) (by omega)]
theorem nmy_u2 (hp : ∀ x, 1 ≤ x → x ≤ N → par x < x) {y : Nat} (h1 : 1 ≤ y) (h2 : y ≤ N) (h9 : ks y ≠ 9) : nmy par ks y = nmy par ks (par y) := by
  unfold nmy
  rw [nmf, if_neg (by omega), if_neg h9, nmf_fu hp (par y) y (by have := hp y h1 h2; omega) (hp y h1 h2)]
theorem nmy_n2 {y : Nat} (h1 : 1 ≤ y) (h9 : ks y = 9) : nmy par ks y = y := by
  unfold nmy
  rw [nmf, if_neg (by omega), if_pos h9]
theorem RSt.dn (h : RSt N bh par) : ∀ x, 1 ≤ x → x ≤ N → par x < x := fun x a b => (h.1 x a b).1
theorem bn_pos {y : Nat} (h : 1 ≤ y) : bn N bh y = bh y := by unfold bn; rw [if_neg (by omega)]
/-- the item at hand: x lies in the list of the innermost frame -/
def Itm (N : Nat) (par Y : Nat → Nat) (D x : Nat) : Prop := 1 ≤ x ∧ x ≤ N ∧ par x = Y (D - 1)
/-- the reference begins x as the class has -/
def GoB (S0 : PS) (A : Nat → Nat) (B : Nat → Int32) (n N nd : Nat) (bh par ks : Nat → Nat) (x : Nat) (S : PS) (D E V M : Nat) (X Y C H F : Nat → Nat) (S1 : PS) (D1 E1 V1 M1 : Nat) (X1 Y1 C1 H1 F1 : Nat → Nat) : Prop :=
  ∀ R0 pc T wr sy g ow, RSR S0 R0 A B n N nd bh par ks pc T wr sy g ow → ∀ Sr, RPf S Sr S0 R0 A B n sy N bh ks g ow D E V M X Y C H F → ∀ Q : PS → Prop, (∀ Sr1, RPf S1 Sr1 S0 R0 A B n sy N bh ks g ow D1 E1 V1 M1 X1 Y1 C1 H1 F1 → Q Sr1) → wp_X12_begin (A 9) (nI (g x)) (hw S0 A ks X (H (D - 1))) Sr Q
/-- both tell the same fault -/
def RBad (R0 Sr1 : PS) (A : Nat → Nat) (e : Nat × Nat) : Prop := KPf R0 Sr1 ∧ fI Sr1 102 (A 9) = nI e.1 ∧ fI Sr1 103 (A 9) = nI e.2
def CBad (S0 S1 : PS) (A : Nat → Nat) (m : Nat) (F : Nat → Nat) (e : Nat × Nat) : Prop := Kd e ∧ Kws (PWb A S0) S0 S1 ∧ PfL S1 A ∧ PfA S1 A 0 m F ∧ fI S1 0 (A 0) = nI e.1 ∧ fI S1 1 (A 0) = nI e.2
def GoF (S0 : PS) (A : Nat → Nat) (B : Nat → Int32) (n N nd : Nat) (bh par ks : Nat → Nat) (x : Nat) (S : PS) (D E V M : Nat) (X Y C H F : Nat → Nat) (e : Nat × Nat) : Prop :=
  ∀ R0 pc T wr sy g ow, RSR S0 R0 A B n N nd bh par ks pc T wr sy g ow → ∀ Sr, RPf S Sr S0 R0 A B n sy N bh ks g ow D E V M X Y C H F → ∀ Q : PS → Prop, (∀ Sr1, RBad R0 Sr1 A e → Q Sr1) → wp_X12_begin (A 9) (nI (g x)) (hw S0 A ks X (H (D - 1))) Sr Q
/-- an item as both know it -/
theorem RSR.at {T wr : Nat} (h : RSR S0 R0 A B n N nd bh par ks pc T wr sy g ow) (h1 : 1 ≤ x) (h2 : x ≤ N) : Att S0 R0 A B n pc wr sy nd (x - 1) (g x) (ow x) (ks x) (bh x) ∧ g x < 3100 ∧ ow x < 3100 := ⟨h.2.2.2.1 x h1 h2, by have := (h.2.2.1.2.2.1 x h2).1; have := h.2.1.1; omega, by have := (h.2.2.1.2.2.1 x h2).2; have := h.2.1.1; omega⟩
theorem RSR.sort {T wr : Nat} (h : RSR S0 R0 A B n N nd bh par ks pc T wr sy g ow) (h1 : 1 ≤ x) (h2 : x ≤ N) : aI R0 42 (A 42) (g x) = nI (ks x) := by
  obtain ⟨⟨pl, _, _, a3, _⟩, _⟩ := h.at h1 h2; exact a3
/-- its place -/
theorem RSR.pl {T wr : Nat} (h : RSR S0 R0 A B n N nd bh par ks pc T wr sy g ow) (h1 : 1 ≤ x) (h2 : x ≤ N) (h11 : ks x ≠ 11) : ∃ pl, pl < n ∧ aI S0 16 (A 16) (x - 1) = nI pl ∧ aI R0 43 (A 43) (g x) = nI pl ∧ ks x = kof (B pl) := by
  obtain ⟨a, _⟩ := h.at h1 h2
  obtain ⟨q, k1, k2, k3⟩ := a.kof h11
  obtain ⟨pl, a1, a2, a3, a4⟩ := a
  rcases a4 with z | ⟨a5, a6, a7⟩
  · exact absurd z.1 h11
  · have : q = pl := by
      have e := k2.symm.trans a2
      have := h.2.1.2.2.2.1
      rwa [nI_eq (by omega) (by omega)] at e
    subst this
    exact ⟨q, k1, k2, a6, k3⟩
theorem RSR.hd {T wr : Nat} (h : RSR S0 R0 A B n N nd bh par ks pc T wr sy g ow) (h1 : 1 ≤ x) (h2 : x ≤ N) (hk : 2 ≤ ks x ∧ ks x ≤ 6) : ∃ pl, pl < n ∧ aI S0 16 (A 16) (x - 1) = nI pl ∧ AtH S0 R0 A B (x - 1) (g x) pl (ow x) (ks x) := by
  obtain ⟨⟨pl, a1, a2, a3, a4⟩, _⟩ := h.at h1 h2
  rcases a4 with z | ⟨a5, a6, a7⟩
  · omega
  · rcases a7 with ⟨z, _⟩ | ⟨z, _⟩ | z | ⟨z, _⟩ | ⟨z, _⟩ | ⟨z, _⟩ | ⟨z, _⟩
    · omega
    · omega
    · exact ⟨pl, a5, a2, z⟩
    · omega
    · omega
    · omega
    · omega
theorem StC.rsr (h : StC S0 A B n pc N nd bh par ks lv) : ∃ R0 T wr sy g ow, RSR S0 R0 A B n N nd bh par ks pc T wr sy g ow := h.2.2.2.2.2.2.2.2
/-- the list of a new block of x -/
theorem FrK.blk (sc : StC S0 A B n pc N nd bh par ks lv) (h : CPf S S0 A B n N nd bh par ks lv D m st E V M t ln lp X Y C H F VF TB) (hx : Itm N par Y D x) (hk : 3 ≤ ks x ∧ ks x ≤ 6) : D < 201 ∧ FrK S0 A N nd bh par ks lv (uq X D x) (uq Y D x) (uq C D x) (uq H D (H (D - 1))) D := by
  obtain ⟨x1, x2, x3⟩ := hx
  obtain ⟨-, -, -, -, s5, -, s7, s8, -⟩ := sc
  have hD := h.2.2.1.1
  have f := h.2.2.2.2.1 (D - 1) (by omega)
  have hu := h.2.2.2.1.2.2.2.2.2.2.2.2.2.2.2.2.1.2
  have lx := s7 x x1 x2
  have l7 := s8 x x1 x2 hk.1 hk.2
  have ell : ll ks par lv (Y (D - 1)) = lv x := by
    unfold ll
    rw [lx.2, x3]
  have hst : stp ks par x = 1 := by unfold stp; rw [if_neg (by omega), if_neg (by omega)]
  have f4 := f.2.2.2.1
  rw [ell] at f4
  have rx := s5.1 x x1 x2
  refine ⟨by omega, by rw [uq_at]; exact x2, ?_, fun z => ?_, ?_, fun z => by omega, fun _ => ?_, ?_⟩
  · rw [uq_at, uq_at, bn_pos x1]; exact rx.2.1
  · rw [uq_at, uq_at]
    rw [uq_at, uq_at] at z
    refine s5.2.1 x ?_ z
    rw [bn_pos x1] at z; omega
  · rw [uq_at, cp_pu hD, pk_f (by omega), if_neg (by decide)]
    unfold ll
    rw [if_neg (by omega), hst]; omega
  · rw [uq_at, uq_at, uq_ne (by omega), uq_at, uq_ne (by omega)]
    exact ⟨x1, x2, x3, Or.inl ⟨by omega, rfl, rfl⟩⟩
  · rw [uq_at, uq_at, nmy_u2 s5.dn x1 x2 (by omega), x3]
    rcases f.2.2.2.2.2.2 with z | ⟨z, q, q1, q2, q3, q4, q5⟩
    · exact Or.inl z
    · refine Or.inr ⟨z, q, q1, q2, by omega, ?_⟩
      rw [uq_ne (by omega)]; exact ⟨q4, q5⟩
/-- the reference's list of x -/
theorem RpF.blk {T wr : Nat} {p1 : Nat → Nat} (hr : RSR S0 R0 A B n N nd bh par ks pc T wr sy g ow) (hx : Itm N par Y D x) (hD : 1 ≤ D) (hb : H (D - 1) ≤ D) (kr : KPf R0 Sr1) (he : aI Sr1 46 (A 46) = aI R0 46 (A 46))
    (hK : 1 ≤ D → (ks x = 3 → 0 < cp (pk ks 3) X (D - 1) → aI Sr1 90 (A 90) D = fI S2 6 (p1 D)) ∧ (ks x = 4 → aI Sr1 89 (A 89) D = fI S2 5 (p1 D) + 1) ∧ (ks x = 5 → aL Sr1 94 (A 94) D = fL S2 8 (p1 D) ∧ aL Sr1 95 (A 95) D = fL S2 9 (p1 D))) (hk : 3 ≤ ks x ∧ ks x ≤ 6) :
    RpF S2 (enS Sr1 A D (nI (g x)) (ow x) (hw S0 A ks X (H (D - 1)))) S0 R0 A N bh ks g ow (uq X D x) (uq Y D x) (uq C D x) (uq H D (H (D - 1))) p1 D := by
  obtain ⟨x1, x2, x3⟩ := hx
  refine ⟨?_, ?_, ?_, ?_, fun z => ?_⟩
  · unfold enS; simp only [fI_s, fI_sn, fL_s, fL_sn, aI_w, aI_wn, aL_w, aL_wn, fI_sL, fI_wI, fI_wL, fL_sI, fL_wI, fL_wL, aI_sI, aI_sL, aI_wL, aL_sI, aL_sL, aL_wI, fR_sI, fR_sL, fR_wI, fR_wL, aN_sI, aN_sL, aN_wI, aN_wL, ne_eq, Nat.reduceEqDiff, not_false_eq_true]; rw [uq_at, uq_at, if_neg (by omega)]
  · unfold enS; simp only [fI_s, fI_sn, fL_s, fL_sn, aI_w, aI_wn, aL_w, aL_wn, fI_sL, fI_wI, fI_wL, fL_sI, fL_wI, fL_wL, aI_sI, aI_sL, aI_wL, aL_sI, aL_sL, aL_wI, fR_sI, fR_sL, fR_wI, fR_wL, aN_sI, aN_sL, aN_wI, aN_wL, ne_eq, Nat.reduceEqDiff, not_false_eq_true]
    rw [uq_at, uq_at, uq_at, he, hr.2.2.1.1 x x2]
  · unfold enS; simp only [fI_s, fI_sn, fL_s, fL_sn, aI_w, aI_wn, aL_w, aL_wn, fI_sL, fI_wI, fI_wL, fL_sI, fL_wI, fL_wL, aI_sI, aI_sL, aI_wL, aL_sI, aL_sL, aL_wI, fR_sI, fR_sL, fR_wI, fR_wL, aN_sI, aN_sL, aN_wI, aN_wL, ne_eq, Nat.reduceEqDiff, not_false_eq_true]; rw [uq_at, uq_at]
  · unfold enS; simp only [fI_s, fI_sn, fL_s, fL_sn, aI_w, aI_wn, aL_w, aL_wn, fI_sL, fI_wI, fI_wL, fL_sI, fL_wI, fL_wL, aI_sI, aI_sL, aI_wL, aL_sI, aL_sL, aL_wI, fR_sI, fR_sL, fR_wI, fR_wL, aN_sI, aN_sL, aN_wI, aN_wL, ne_eq, Nat.reduceEqDiff, not_false_eq_true]; rw [uq_at, uq_at]
    exact (hw_cg (fun i hi => uq_ne (by omega))).symm
  · obtain ⟨b1, b2, b3⟩ := hK z
    rw [uq_at, cp_uq (by omega)]
    refine ⟨fun y1 y2 => ?_, fun y1 => ?_, fun y1 => ?_, fun y1 => by omega, fun y1 => ?_⟩
    · unfold enS; simp only [fI_s, fI_sn, fL_s, fL_sn, aI_w, aI_wn, aL_w, aL_wn, fI_sL, fI_wI, fI_wL, fL_sI, fL_wI, fL_wL, aI_sI, aI_sL, aI_wL, aL_sI, aL_sL, aL_wI, fR_sI, fR_sL, fR_wI, fR_wL, aN_sI, aN_sL, aN_wI, aN_wL, ne_eq, Nat.reduceEqDiff, not_false_eq_true]; exact b1 y1 y2
    · unfold enS; simp only [fI_s, fI_sn, fL_s, fL_sn, aI_w, aI_wn, aL_w, aL_wn, fI_sL, fI_wI, fI_wL, fL_sI, fL_wI, fL_wL, aI_sI, aI_sL, aI_wL, aL_sI, aL_sL, aL_wI, fR_sI, fR_sL, fR_wI, fR_wL, aN_sI, aN_sL, aN_wI, aN_wL, ne_eq, Nat.reduceEqDiff, not_false_eq_true]; exact b2 y1
    · unfold enS; simp only [fI_s, fI_sn, fL_s, fL_sn, aI_w, aI_wn, aL_w, aL_wn, fI_sL, fI_wI, fI_wL, fL_sI, fL_wI, fL_wL, aI_sI, aI_sL, aI_wL, aL_sI, aL_sL, aL_wI, fR_sI, fR_sL, fR_wI, fR_wL, aN_sI, aN_sL, aN_wI, aN_wL, ne_eq, Nat.reduceEqDiff, not_false_eq_true]; exact b3 y1
    · exfalso
      unfold pn at y1
      rw [decide_eq_true_iff] at y1; omega
end
