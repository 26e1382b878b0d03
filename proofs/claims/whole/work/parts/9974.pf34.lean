/-! Performing: the music of the text, by both. -/
section
variable {S S0 S1 Sr Sr' R0 : PS} {A : Nat → Nat} {B : Nat → Int32} {n N N' nd nd' pc pc' m T wr sy T' wr' sy' : Nat} {bh par ks lv g ow bh' par' ks' lv' g' ow' F : Nat → Nat} {k : Nat × Nat}
theorem Red.lay (h : Red S Sr A B n) : LayM Sr A := by
  obtain ⟨p, N, pc, nd, ci, mm⟩ := h
  obtain ⟨T, wr, sy, g, ow, bh, par, ks, lv, pe, lst, mx⟩ := mm.mx
  exact mx.1.1
theorem Red.ct (h : Red S Sr A B n) : CT S A B n := by
  obtain ⟨p, N, pc, nd, ci, mm⟩ := h
  exact ci.1
theorem RSR.cg (h : RSR S R0 A B n N nd bh' par' ks' pc T wr sy g ow) (hp : ∀ x, 1 ≤ x → x ≤ N → par x < x) (e : ∀ x, 1 ≤ x → x ≤ N → bh' x = bh x ∧ par' x = par x ∧ ks' x = ks x) : RSR S R0 A B n N nd bh par ks pc T wr sy g ow := by
  obtain ⟨h1, h2, ⟨l1, l2, l3, l4, l5⟩, h4, h5⟩ := h
  have bb : ∀ y, y ≤ N → bn N bh' y = bn N bh y := fun y hy => by
    unfold bn
    by_cases z : y = 0
    · rw [if_pos z, if_pos z]
    · rw [if_neg z, if_neg z]; exact (e y (by omega) hy).1
  refine ⟨h1, h2, ⟨fun y hy => ?_, fun x x1 x2 => ?_, l3, l4, l5⟩, fun x x1 x2 => ?_, fun d hd => ?_⟩
  · rw [← bb y hy]; exact l1 y hy
  · obtain ⟨e1, e2, e3⟩ := e x x1 x2
    rw [← e1, ← e2, ← bb (par' x) (by have := hp x x1 x2; omega)]; exact l2 x x1 x2
  · obtain ⟨e1, e2, e3⟩ := e x x1 x2
    rw [← e1, ← e3]; exact h4 x x1 x2
  · obtain ⟨x, q, x1, x2, x3, x4⟩ := h5 d hd
    exact ⟨x, q, x1, x2, by rw [← (e x x1 x2).2.2]; exact x3, x4⟩
theorem RS.rsr (h : RS S Sr A B n N pc nd bh par ks lv T wr sy g ow) (hm : LayM Sr A) : RSR S Sr A B n N nd bh par ks pc T wr sy g ow := by
  obtain ⟨⟨a1, a2, a3, a4, a5, a6, a7, a8, a9, a10⟩, b1, b2, b3, b4, b5, b6, b7⟩ := h
  exact ⟨hm, ⟨a4, a5, a2, a9, a3⟩, b3, b4, b7⟩
/-- what the class has read, as performing wants it; and every reference that has read the same -/
theorem Red.stc (h : Red S Sr A B n) (ha : Ad S A) : ∃ pc N nd bh par ks lv, StC S A B n pc N nd bh par ks lv ∧ ∀ Sr', Red S Sr' A B n → ∃ pc' T wr sy g ow, RSR S Sr' A B n N nd bh par ks pc' T wr sy g ow := by
  obtain ⟨N, pc, nd, bh, par, ks, lv, T, wr, sy, g, ow, rs⟩ := h.rs
  have rs' := rs
  have r := rs.rsr h.lay
  obtain ⟨⟨a1, a2, a3, a4, a5, a6, a7, a8, a9, a10⟩, b1, b2, b3, b4, b5, b6, b7⟩ := rs
  refine ⟨pc, N, nd, bh, par, ks, lv, ⟨h.ct, ha, ⟨a1, a2, a3, a9, a6, a10, a7⟩, b1, b2, b5, b6, fun x x1 x2 k1 k2 => (b6 x x1 x2).1.2 k1 k2, Sr, T, wr, sy, g, ow, r⟩, fun Sr' h' => ?_⟩
  obtain ⟨N', pc', nd', bh', par', ks', lv', T', wr', sy', g', ow', rs2⟩ := h'.rs
  obtain ⟨e1, e2, e3⟩ := rs'.uniq rs2
  subst e1
  subst e2
  exact ⟨pc', T', wr', sy', g', ow', (rs2.rsr h'.lay).cg b2.dn e3⟩
/-- performing, by both -/
theorem s_play {Q : Int32 → PS → Prop} (sc : StC S0 A B n pc N nd bh par ks lv) (a2 : PfL (sR S0 25 (A 3) (some (A 7))) A) (a4 : PfA (sR S0 25 (A 3) (some (A 7))) A 0 m F) (hc : Clr S0 A) (hb : 201 ≤ k.1 + m ∧ 3015 ≤ k.2 + 15 * m)
    (h1 : ∀ S2 m' F' E V M st t s v, Kws (PW A S0) S0 S2 → PfL S2 A → PfA S2 A 0 m' F' → Sco S2 A B n nd E V M st t s v → (∀ R0 pc T wr sy g ow, RSR S0 R0 A B n N nd bh par ks pc T wr sy g ow → fI R0 102 (A 9) = 0 → ∀ Q2 : PS → Prop, (∀ Sr1, RFin S2 Sr1 R0 A B n sy E V M st t → Q2 Sr1) → PFm (A 9) 0 R0 Q2) → Q 1 S2)
    (h0 : ∀ S2 m' F' e, CBad S0 S2 A m' F' e → (∀ R0 pc T wr sy g ow, RSR S0 R0 A B n N nd bh par ks pc T wr sy g ow → fI R0 102 (A 9) = 0 → ∀ Q2 : PS → Prop, (∀ Sr1, RBad R0 Sr1 A e → Q2 Sr1) → PFm (A 9) 0 R0 Q2) → Q 0 S2) : wp_X3_perform (A 3) (A 7) k S0 Q := by
  refine s_perf sc a2 a4 hc hb ?_ ?_
  · intro Si Fi ro S m st E V M t ln lp X Y C H F VF TB cp hce gt
    refine p_fin sc cp hce (fun S2 s v kw pl pa sco ge => ?_) (fun S2 e cb gf => ?_)
    · exact h1 S2 _ _ _ _ _ _ _ s v kw pl pa sco (fun R0 pc T wr sy g ow hr h102 Q2 hq => r_pfm hr h102 ro (fun Sr rp P cl => (gt.en ge) R0 pc T wr sy g ow hr Sr rp Q2 P cl hq))
    · exact h0 S2 _ _ e cb (fun R0 pc T wr sy g ow hr h102 Q2 hq => r_pfm hr h102 ro (fun Sr rp P cl => (gt.f gf) R0 pc T wr sy g ow hr Sr rp Q2 P cl hq))
  · intro Si Fi ro S2 m F e cb gf
    exact h0 S2 _ _ e cb (fun R0 pc T wr sy g ow hr h102 Q2 hq => r_pfm hr h102 ro (fun Sr rp P cl => gf R0 pc T wr sy g ow hr Sr rp Q2 P cl hq))
end
