/-! Performing: the stack of the class grows and shrinks. -/
section
variable {S S1 S2 S0 : PS} {A : Nat → Nat} {B : Nat → Int32} {n N nd : Nat} {bh par ks lv : Nat → Nat}
variable {D m st E V M t ln : Nat} {lp : Int} {X Y C H F VF TB X' Y' C' H' F' VF' TB' : Nat → Nat}
theorem lpb.mono {l : Int} {st st' : Nat} (h : lpb l st) (hs : st ≤ st') : lpb l st' := by
  unfold lpb at *; omega
theorem FrK.cg {k : Nat} (h : FrK S0 A N nd bh par ks lv X Y C H k) (h1 : ∀ i, i ≤ k → X' i = X i) (h2 : ∀ i, i ≤ k → Y' i = Y i) (h3 : C' k = C k) (h4 : ∀ i, i ≤ k → H' i = H i) : FrK S0 A N nd bh par ks lv X' Y' C' H' k := by
  obtain ⟨a1, a2, a3, a4, a5, a6, a7⟩ := h
  refine ⟨by rw [h2 k (by omega)]; exact a1, by rw [h2 k (by omega), h3]; exact a2, by rw [h2 k (by omega), h3]; exact a3, by rw [h2 k (by omega), cp_cg (fun i _ b => h1 i b)]; exact a4, fun e => ?_, fun e => ?_, ?_⟩
  · rw [h1 0 (by omega), h2 0 (by omega), h4 0 (by omega)]; exact a5 e
  · rw [h1 k (by omega), h2 k (by omega), h2 (k - 1) (by omega), h4 k (by omega), h4 (k - 1) (by omega)]; exact a6 e
  · rw [h2 k (by omega), h4 k (by omega)]
    rcases a7 with z | ⟨z, q, q1, q2, q3, q4, q5⟩
    · exact Or.inl z
    · exact Or.inr ⟨z, q, q1, q2, q3, by rw [h1 q q3]; exact q4, by rw [h1 q q3]; exact q5⟩
theorem FrV.cg {k st' : Nat} (h : FrV S st X Y F VF TB k) (hs : st ≤ st') (hX : X' k = X k) (hY : Y' k = Y k) (hF : F' k = F k) (hV : VF' k = VF k) (hV1 : VF' (k - 1) = VF (k - 1)) (hT : TB' k = TB k) (hf : ∀ j, 2 ≤ j → j ≤ 16 → fI S1 j (F k) = fI S j (F k) ∧ fL S1 j (F k) = fL S j (F k)) : FrV S1 st' X' Y' F' VF' TB' k := by
  unfold FrV
  rw [hX, hY, hF, hV, hV1, hT, (hf 10 (by omega) (by omega)).1, (hf 11 (by omega) (by omega)).2, (hf 12 (by omega) (by omega)).2, (hf 6 (by omega) (by omega)).1, (hf 13 (by omega) (by omega)).2, (hf 16 (by omega) (by omega)).2, (hf 14 (by omega) (by omega)).2, (hf 15 (by omega) (by omega)).1]
  obtain ⟨a1, a2, a3, ⟨l, a4, a5⟩, a6⟩ := h
  refine ⟨a1, a2, a3, ⟨l, a4, a5.mono hs⟩, ?_⟩
  rcases a6 with z | ⟨z, fe, le, l2, b1, b2, b3, b4, b5, b6, b7, b8, q, b9, b10⟩
  · exact Or.inl z
  · exact Or.inr ⟨z, fe, le, l2, b1, b2, b3, b4, b5, b6, b7, b8, q, b9, b10.mono hs⟩
theorem FrC.cg {k st' : Nat} (h : FrC S S0 A N bh ks st X Y C H F VF TB k) (hs : st ≤ st') (h1 : ∀ i, i ≤ k → X' i = X i) (h2 : Y' k = Y k) (h4 : ∀ i, i ≤ k → H' i = H i) (hF : F' k = F k) (hV : ∀ i, i ≤ k → VF' i = VF i) (hT : TB' k = TB k) (h3 : fI S1 3 (F k) = nI (C' k)) (hf : ∀ j, 2 ≤ j → j ≤ 16 → j ≠ 3 → fI S1 j (F k) = fI S j (F k) ∧ fL S1 j (F k) = fL S j (F k)) : FrC S1 S0 A N bh ks st' X' Y' C' H' F' VF' TB' k := by
  obtain ⟨a1, a2, a3, a4⟩ := h
  refine ⟨by rw [hF, h1 k (by omega), (hf 2 (by omega) (by omega) (by omega)).1]; exact a1, by rw [hF]; exact h3, by rw [hF, h2, (hf 4 (by omega) (by omega) (by omega)).1]; exact a3, fun e => ?_⟩
  obtain ⟨b1, b2, b3, b4, b5, b6⟩ := a4 e
  have hp : ∀ i, 1 ≤ i → i ≤ k - 1 → X' i = X i := fun i _ b => h1 i (by omega)
  rw [h1 k (by omega), hF, hV k (by omega), hV (k - 1) (by omega), pf_cg hp, pf_cg hp, h4 (k - 1) (by omega), (hf 6 (by omega) (by omega) (by omega)).1, (hf 5 (by omega) (by omega) (by omega)).1, (hf 8 (by omega) (by omega) (by omega)).2, (hf 9 (by omega) (by omega) (by omega)).2, (hf 7 (by omega) (by omega) (by omega)).1]
  refine ⟨fun z => ?_, b2, b3, b4, fun z => ?_, b6⟩
  · obtain ⟨l, q1, q2⟩ := b1 z
    exact ⟨l, q1, q2.mono hs⟩
  · have e3 : FrV S st X Y F VF TB k := b5 z
    unfold FrV
    rw [h1 k (by omega), h2, hF, hV k (by omega), hV (k - 1) (by omega), hT, (hf 10 (by omega) (by omega) (by omega)).1, (hf 11 (by omega) (by omega) (by omega)).2, (hf 12 (by omega) (by omega) (by omega)).2, (hf 6 (by omega) (by omega) (by omega)).1, (hf 13 (by omega) (by omega) (by omega)).2, (hf 16 (by omega) (by omega) (by omega)).2, (hf 14 (by omega) (by omega) (by omega)).2, (hf 15 (by omega) (by omega) (by omega)).1]
    obtain ⟨a1, a2, a3, ⟨l, a4, a5⟩, a6⟩ := e3
    refine ⟨a1, a2, a3, ⟨l, a4, a5.mono hs⟩, ?_⟩
    rcases a6 with z | ⟨z, fe, le, l2, b1, b2, b3, b4, b5, b6, b7, b8, q, b9, b10⟩
    · exact Or.inl z
    · exact Or.inr ⟨z, fe, le, l2, b1, b2, b3, b4, b5, b6, b7, b8, q, b9, b10.mono hs⟩
theorem PfE.mono {D' : Nat} {VF' : Nat → Nat} (h : PfE S A B n D E V VF) (hv : ∀ k, k < D → ∃ k', k' < D' ∧ VF k = VF' k') : PfE S A B n D' E V VF' := by
  refine ⟨h.1, h.2.1, fun v hv1 => ?_⟩
  obtain ⟨a1, a2, a3⟩ := h.2.2 v hv1
  refine ⟨a1, a2, ?_⟩
  rcases a3 with z | ⟨z1, z2, k, z3, z4⟩
  · exact Or.inl z
  · obtain ⟨k', q1, q2⟩ := hv k z3
    exact Or.inr ⟨z1, z2, k', q1, z4.trans q2⟩
def jq (j : Nat) : Bool := decide (j = 3 ∨ 5 ≤ j ∧ j ≤ 16 ∨ 26 ≤ j ∧ j ≤ 39)
theorem CPf.push {m1 x y c h' : Nat} {F1 : Nat → Nat} {lp' : Int} {e0 c0 l0 : Int32} (h : CPf S S0 A B n N nd bh par ks lv D m st E V M t ln lp X Y C H F VF TB) (p : Psh S S1 A D m m1 F F1 e0 c0 l0) (k2 : Keep jq rN S1 S2) (kw : Kws (PW A S0) S0 S2)
    (hfr : ∀ i, i < D → ∀ j, 2 ≤ j → j ≤ 16 → fI S2 j (F i) = fI S1 j (F i) ∧ fL S2 j (F i) = fL S1 j (F i))
    (hs : PfS S2 S0 A ks (D + 1) st t ln lp' (uq X D x) (uq H D h') (uq VF D (VF (D - 1))))
    (hK : FrK S0 A N nd bh par ks lv (uq X D x) (uq Y D y) (uq C D c) (uq H D h') D)
    (hC : FrC S2 S0 A N bh ks st (uq X D x) (uq Y D y) (uq C D c) (uq H D h') F1 (uq VF D (VF (D - 1))) (uq TB D t) D) :
    CPf S2 S0 A B n N nd bh par ks lv (D + 1) m1 st E V M t ln lp' (uq X D x) (uq Y D y) (uq C D c) (uq H D h') F1 (uq VF D (VF (D - 1))) (uq TB D t) := by
  obtain ⟨a1, a2, ⟨a3, a4⟩, a5, a6, a7, ⟨v0, v1, v2⟩, a9, a10⟩ := h
  obtain ⟨p1, p2, p3, p4, p5, p6, p7, p8, p9, p10, p11, p12, p13⟩ := p
  refine ⟨kw, p2.st k2.1, ⟨by omega, p3.st k2.1⟩, hs, fun k hk => ?_, fun k hk => ?_, ⟨?_, fun k hk => ?_, fun k k1 hk h7 => ?_⟩, ?_, ?_⟩
  · by_cases e : k = D
    · subst e; exact hK
    · exact (a6 k (by omega)).cg (fun i hi => uq_ne (by omega)) (fun i hi => uq_ne (by omega)) (uq_ne e) (fun i hi => uq_ne (by omega))
  · by_cases e : k = D
    · subst e; exact hC
    · have hh : ∀ j, 2 ≤ j → j ≤ 16 → fI S2 j (F k) = fI S j (F k) ∧ fL S2 j (F k) = fL S j (F k) := fun j j1 j2 => ⟨(hfr k (by omega) j j1 j2).1.trans (p11 k (by omega) j (by omega)).1, (hfr k (by omega) j j1 j2).2.trans (p11 k (by omega) j (by omega)).2⟩
      exact (a7 k (by omega)).cg (Nat.le_refl st) (fun i hi => uq_ne (by omega)) (uq_ne e) (fun i hi => uq_ne (by omega)) (p4 k (by omega)) (fun i hi => uq_ne (by omega)) (uq_ne e) (by rw [(hh 3 (by omega) (by omega)).1, (a7 k (by omega)).2.1, uq_ne e]) (fun j j1 j2 _ => hh j j1 j2)
  · rw [uq_ne (by omega)]; exact v0
  · by_cases e : k = D
    · subst e; rw [uq_at]; exact v1 _ (by omega)
    · rw [uq_ne e]; exact v1 k (by omega)
  · by_cases e : k = D
    · subst e
      rw [uq_at]
      refine ⟨Nat.le_refl t, fun i i1 i2 i3 => ?_⟩
      rw [uq_ne (by omega)] at i3 ⊢
      exact (v2 i i1 i2 i3).1
    · rw [uq_ne e] at h7
      rw [uq_ne e]
      refine ⟨(v2 k k1 (by omega) h7).1, fun i i1 i2 i3 => ?_⟩
      rw [uq_ne (by omega)] at i3 ⊢
      exact (v2 k k1 (by omega) h7).2 i i1 i2 i3
  · have q : EqM S S2 A := p13.tr (EqM.of k2 rfl (fun _ _ _ => rfl))
    obtain ⟨b1, mt, mu, md, b2, b3, b4, b5, b6⟩ := a9.eq q
    refine ⟨b1, mt, mu, md, b2, b3, b4, b5, fun k k1 k3 k4 => ?_⟩
    by_cases e : k = D
    · subst e; rw [uq_at]; exact b5
    · rw [uq_ne e] at k4 ⊢; exact b6 k k1 (by omega) k4
  · have q : EqE S S2 A := p12.tr (EqE.of k2 rfl rfl (fun _ _ _ => rfl))
    exact (a10.eq q).mono (fun k hk => ⟨k, by omega, (uq_ne (by omega)).symm⟩)
/-- a frame that is no [ is popped -/
def jo (j : Nat) : Bool := decide (j = 5 ∨ j = 24 ∨ 26 ≤ j ∧ j ≤ 39)
theorem CPf.pop {lp' : Int} (h : CPf S S0 A B n N nd bh par ks lv D m st E V M t ln lp X Y C H F VF TB) (hD : 2 ≤ D) (h7 : ks (X (D - 1)) ≠ 7) (k2 : Keep jo rN S S2) (kw : Kws (PW A S0) S0 S2) (hfr : ∀ i, i < D - 1 → fI S2 5 (F i) = fI S 5 (F i) ∧ fL S2 5 (F i) = fL S 5 (F i))
    (hs : PfS S2 S0 A ks (D - 1) st t ln lp' X H VF) : CPf S2 S0 A B n N nd bh par ks lv (D - 1) m st E V M t ln lp' X Y C H F VF TB := by
  obtain ⟨a1, a2, ⟨a3, a4⟩, a5, a6, a7, ⟨v0, v1, v2⟩, a9, a10⟩ := h
  refine ⟨kw, a2.st k2.1, ⟨by omega, ?_⟩, hs, fun k hk => a6 k (by omega), fun k hk => ?_, ⟨v0, fun k hk => v1 k (by omega), fun k k1 hk => v2 k k1 (by omega)⟩, ?_, ?_⟩
  · have := a4.st k2.1
    exact ⟨this.1, this.2.1, this.2.2.1, by have := this.2.2.2.1; omega, this.2.2.2.2⟩
  · have hh : ∀ j, 2 ≤ j → j ≤ 16 → fI S2 j (F k) = fI S j (F k) ∧ fL S2 j (F k) = fL S j (F k) := fun j j1 j2 => by
      by_cases e : j = 5
      · subst e; exact hfr k hk
      · rw [(k2.2.1 j (by unfold jo; rw [decide_eq_false_iff_not]; omega)).1, (k2.2.1 j (by unfold jo; rw [decide_eq_false_iff_not]; omega)).2]; exact ⟨rfl, rfl⟩
    exact (a7 k (by omega)).cg (Nat.le_refl st) (fun _ _ => rfl) rfl (fun _ _ => rfl) rfl (fun _ _ => rfl) rfl (by rw [(hh 3 (by omega) (by omega)).1]; exact (a7 k (by omega)).2.1) (fun j j1 j2 _ => hh j j1 j2)
  · obtain ⟨b1, mt, mu, md, b2, b3, b4, b5, b6⟩ := a9.eq (EqM.of k2 rfl (fun _ _ _ => rfl))
    exact ⟨b1, mt, mu, md, b2, b3, b4, b5, fun k k1 k3 k4 => b6 k k1 (by omega) k4⟩
  · refine (a10.eq (EqE.of k2 rfl rfl (fun _ _ _ => rfl))).mono (fun k hk => ?_)
    by_cases e : k = D - 1
    · have := ((a7 (D - 1) (by omega)).2.2.2 (by omega)).2.2.2.2.2 h7
      exact ⟨D - 1 - 1, by omega, by rw [e]; exact this⟩
    · exact ⟨k, by omega, rfl⟩
end
