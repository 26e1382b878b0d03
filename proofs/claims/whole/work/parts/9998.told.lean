/-! A reading that both tell of, as plain data. -/
section
variable {S Sr : PS} {A : Nat → Nat} {w : Nat → Int32} {n nd E V M st t : Nat} {s v : Nat → Nat}
theorem bI_of {x : Int32} (h : x = 0 ∨ x = 1) : ∃ b : Bool, x = bI b := by
  rcases h with z | z
  · exact ⟨false, z⟩
  · exact ⟨true, z⟩
set_option maxHeartbeats 4000000 in
theorem told_of (ls : LayS S A) (lm : LayM Sr A) (so : Sco S A (Bof w n) n nd E V M st t s v) (tl : Tol S Sr A (Bof w n) n nd E V M st t) (hby : ∀ q, q < n → Byt (w q)) (hn : n ≤ 1500) (h27 : ∀ q, q < n → aI S 27 (A 27) q &&& 255 = w q &&& 255) (h101 : ∀ q, q < n → aI Sr 101 (A 101) q = w q) :
    ∃ vo ti le pc cs td co wp wz vb mt mu md od, Dok E V M nd st t n vo ti le pc cs td co wp wz vb mt mu md od w ∧ Dcl S A E V M nd st t n vo ti le pc cs td co wp wz vb mt mu md od w ∧ Drf Sr A E V M nd st t n vo ti le pc cs td co wp wz vb mt mu md od w := by
  obtain ⟨⟨⟨VF, ⟨e1, e2, e3, e4, e5⟩, ee, eo⟩, s38, ⟨m1, m2, m3⟩, mt, mu, md, q2, q3, q4, q5, _⟩, ⟨g84, g85, g86, gst, gt, gnd⟩, _, _⟩ := so
  obtain ⟨tf, te, tv, tm, tw⟩ := tl
  -- words
  have hw : ∀ e j, ∃ y : Nat × Nat, e < E → j < 3 → (y.2 ≤ 12 ∧ y.1 + y.2 ≤ n) ∧ (∀ q, q < y.2 → isSyl (w (y.1 + q) &&& 255) = true) ∧ (0 < y.2 → aL S 31 (A 31) e ≠ 0 ∧ aI S 33 (A 33) e = 0) ∧ ((aI S 34 (A 34) (3 * e + j) = -1 ∧ y.2 = 0) ∨ aI S 34 (A 34) (3 * e + j) = nI (y.1 * 16 + y.2)) ∧ (0 < y.2 → aI Sr 111 (A 111) (3 * e + j) = nI y.1) ∧ aI Sr 112 (A 112) (3 * e + j) = nI y.2 := by
    intro e j
    by_cases he : e < E
    · by_cases hj : j < 3
      · have c6 := (ee e he).2.2.2.2.2.1 j hj
        rcases (te e he).2.2 j hj with ⟨a1, a2, a3⟩ | ⟨y, y1, y2, ⟨⟨b1, b2⟩, b3, b4⟩ | ⟨b1, b3, b4⟩⟩
        · exact ⟨(0, 0), fun _ _ => ⟨⟨by show 0 ≤ 12; omega, by show 0 + 0 ≤ n; omega⟩, fun q hq => absurd hq (Nat.not_lt_zero _), fun z => absurd z (Nat.lt_irrefl 0), Or.inl ⟨a1, rfl⟩, fun z => absurd z (Nat.lt_irrefl 0), a3⟩⟩
        · refine ⟨(y.1, 0), fun _ _ => ⟨⟨by show 0 ≤ 12; omega, by have := y1.2.2.1; show y.1 + 0 ≤ n; omega⟩, fun q hq => absurd hq (Nat.not_lt_zero _), fun z => absurd z (Nat.lt_irrefl 0), Or.inr ?_, fun z => absurd z (Nat.lt_irrefl 0), b4⟩⟩
          rw [y2, sco_n y1 hn, if_pos ⟨b1, b2⟩]
        · have sn := sco_n y1 hn
          rw [if_neg b1] at sn
          have nz := sco_ne y1 hn
          refine ⟨y, fun _ _ => ⟨⟨y1.2.1, y1.2.2.1⟩, fun q hq => ?_, fun _ => ?_, Or.inr (by rw [y2, sn]), fun _ => b3, b4⟩⟩
          · have := y1.2.2.2 (y.1 + q) (by omega) (by omega)
            rw [Bof.at (by have := y1.2.2.1; omega)] at this
            exact this
          · rcases c6 with z | z
            · exact absurd (y2.symm.trans z) nz
            · exact z.2
      · exact ⟨(0, 0), fun _ z => absurd z hj⟩
    · exact ⟨(0, 0), fun z => absurd z he⟩
  have hW : ∃ W : Nat → Nat → Nat × Nat, ∀ e j, e < E → j < 3 → ((W e j).2 ≤ 12 ∧ (W e j).1 + (W e j).2 ≤ n) ∧ (∀ q, q < (W e j).2 → isSyl (w ((W e j).1 + q) &&& 255) = true) ∧ (0 < (W e j).2 → aL S 31 (A 31) e ≠ 0 ∧ aI S 33 (A 33) e = 0) ∧ ((aI S 34 (A 34) (3 * e + j) = -1 ∧ (W e j).2 = 0) ∨ aI S 34 (A 34) (3 * e + j) = nI ((W e j).1 * 16 + (W e j).2)) ∧ (0 < (W e j).2 → aI Sr 111 (A 111) (3 * e + j) = nI (W e j).1) ∧ aI Sr 112 (A 112) (3 * e + j) = nI (W e j).2 :=
    ⟨fun e j => Classical.choose (hw e j), fun e j => Classical.choose_spec (hw e j)⟩
  obtain ⟨W, hW⟩ := hW
  -- events
  have hv : ∀ e, ∃ y : (Nat × Nat × Nat) × (Nat × (Nat → Nat)) × Bool × Bool, e < E → (y.1.1 < V ∧ 1 ≤ y.1.2.2 ∧ y.1.2.1 + y.1.2.2 ≤ 3870720000) ∧ (Pch y.2.1.1 y.2.1.2 (aL S 31 (A 31) e)) ∧ (aI S 28 (A 28) e = nI y.1.1 ∧ aL S 29 (A 29) e = lN y.1.2.1 ∧ aL S 30 (A 30) e = lN y.1.2.2 ∧ aI S 32 (A 32) e = bI y.2.2.1 ∧ aI S 33 (A 33) e = bI y.2.2.2) ∧ aI Sr 103 (A 103) e = nI y.2.1.1 ∧ ∀ k, k < y.2.1.1 → aI Sr 108 (A 108) (6 * e + k) = nI (y.2.1.2 k / 5 % 7) ∧ aI Sr 109 (A 109) (6 * e + k) = iJ ((y.2.1.2 k : Int) % 5 - 2) ∧ aI Sr 110 (A 110) (6 * e + k) = nI (y.2.1.2 k / 35) := by
    intro e
    by_cases he : e < E
    · obtain ⟨⟨u, u1, u2⟩, ⟨tm, l, l1, l2, l3, l4⟩, _, c4, c5, _, _⟩ := ee e he
      obtain ⟨b1, hb1⟩ := bI_of c4
      obtain ⟨b2, hb2⟩ := bI_of c5
      obtain ⟨c, cs, p1, p2, p3⟩ := (te e he).2.1
      exact ⟨((u, tm, l), (c, cs), b1, b2), fun _ => ⟨⟨u1, l1, l2⟩, p1, ⟨u2, l3, l4, hb1, hb2⟩, p2, p3⟩⟩
    · exact ⟨((0, 0, 0), (0, fun _ => 0), false, false), fun z => absurd z he⟩
  obtain ⟨Y, hY⟩ := Classical.skolem.mp hv
  have hb : ∀ u, ∃ b, u < V → b ≤ 3870720000 ∧ aL S 36 (A 36) u = lN b := by
    intro u
    by_cases hu : u < V
    · obtain ⟨⟨b, b1, b2⟩, _⟩ := eo u hu
      exact ⟨b, fun _ => ⟨b1, b2⟩⟩
    · exact ⟨0, fun z => absurd z hu⟩
  obtain ⟨vb, hvb⟩ := Classical.skolem.mp hb
  refine ⟨fun e => (Y e).1.1, fun e => (Y e).1.2.1, fun e => (Y e).1.2.2, fun e => (Y e).2.1.1, fun e => (Y e).2.1.2, fun e => (Y e).2.2.1, fun e => (Y e).2.2.2, fun e j => (W e j).1, fun e j => (W e j).2, vb, mt, mu, md, fun p => aI S 35 (A 35) p, ⟨⟨e2, e4, e5, m2, m3, hn, gt⟩, fun e he => ?_, fun u hu => (hvb u hu).1, ⟨fun k hk => ⟨(q2 k hk).2.2.2.1, (q2 k hk).2.2.2.2.1, (q2 k hk).2.2.2.2.2⟩, q3, q4, q5⟩, hby⟩, ⟨ls, ⟨e1, e3, g84, g85, g86, m1⟩, fun e he => ?_, fun u hu => (hvb u hu).2, fun k hk => ⟨(q2 k hk).1, (q2 k hk).2.1, (q2 k hk).2.2.1⟩, fun p _ => rfl, h27⟩, ⟨lm, tf, fun e he => ?_, fun u hu => ?_, fun k hk => ?_, tw, h101⟩⟩
  · obtain ⟨y1, y2, y3, y4, y5⟩ := hY e he
    refine ⟨y1, ⟨y2.1, y2.2.1⟩, fun z => ?_, fun j hj => ?_⟩
    · have z1 : aI S 32 (A 32) e = 1 := by rw [y3.2.2.2.1]; show bI (Y e).2.2.1 = 1; rw [show (Y e).2.2.1 = true from z]; rfl
      rcases (ee e he).2.2.2.2.2.2 z1 with ⟨u, u1, _, u3, _⟩ | ⟨o, o1, o2, o3⟩
      · exact absurd (s38 u u1) u3
      · refine ⟨o, o1, o2, ?_⟩
        have yo := hY o o2
        rw [yo.2.2.1.1, y3.1] at o3
        have a1 := yo.1.1
        have a2 := y1.1
        show (Y o).1.1 = (Y e).1.1
        exact (nI_eq (by omega) (by omega)).mp o3
    · obtain ⟨w1, w2, w3, _⟩ := hW e j he hj
      refine ⟨w1, w2, fun z => ?_⟩
      obtain ⟨x1, x2⟩ := w3 z
      refine ⟨?_, ?_⟩
      · show 0 < (Y e).2.1.1
        rcases Nat.eq_zero_or_pos (Y e).2.1.1 with q | q
        · exact absurd (y2.z.mpr q) x1
        · exact q
      · show (Y e).2.2.2 = false
        rw [y3.2.2.2.2, bI_z] at x2
        exact x2
  · obtain ⟨y1, y2, y3, y4, y5⟩ := hY e he
    exact ⟨y3.1, y3.2.1, y3.2.2.1, y2.2.2, y3.2.2.2.1, y3.2.2.2.2, fun j hj => (hW e j he hj).2.2.2.1⟩
  · obtain ⟨y1, y2, y3, y4, y5⟩ := hY e he
    obtain ⟨⟨x1, x2, x3, x4, x5⟩, _, _⟩ := te e he
    exact ⟨⟨x1.trans y3.1, y4, x2.trans y3.2.2.2.1, x3.trans y3.2.2.2.2, x4.trans y3.2.1, x5.trans y3.2.2.1⟩, y5, fun j hj => (hW e j he hj).2.2.2.2⟩
  · exact (tv u hu).trans (hvb u hu).2
  · obtain ⟨a, b, c⟩ := tm k hk
    exact ⟨a.trans (q2 k hk).1, b.trans (q2 k hk).2.1, c.trans (q2 k hk).2.2.1⟩
end
