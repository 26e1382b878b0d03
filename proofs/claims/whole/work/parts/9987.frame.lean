/-! What a reading of the class leaves. -/
section
variable {S S9 S2 : PS} {A : Nat → Nat} {b r : Nat}
/-- a cell that no reading writes, by its address -/
theorem Frd.at (h : Frd S9 S2 A) (hb : Rf S9 b r) (hne : ∀ q, pwr q = true ∨ q = 0 → b ≠ A q) (h1 : r ≠ 1) : (∀ j, jCr j = false → fI S2 j b = fI S9 j b ∧ fL S2 j b = fL S9 j b) ∧ (∀ j, fR S2 j b = fR S9 j b) ∧ ∀ q i, rCr q = false → aI S2 q b i = aI S9 q b i ∧ aL S2 q b i = aL S9 q b i := by
  obtain ⟨S1, k1, kw⟩ := h
  have hp : pL S1 = pL S9 := St.pL k1.1
  have hk : pK S1 = pK S9 := St.pK k1.1
  have n : ¬ PWb A S1 b := by
    intro z
    rcases z with (⟨q, q1, q2⟩ | z) | z
    · exact hne q (Or.inl q1) q2
    · rw [hk, hb.2] at z; exact h1 z
    · exact hne 0 (Or.inr rfl) z
  have sm := kw.2 b (by rw [hp]; exact hb.1) n
  refine ⟨fun j hj => ⟨?_, ?_⟩, fun j => ?_, fun q i hq => ⟨?_, ?_⟩⟩
  · rw [(sm.1 j).1, (k1.2.1 j hj).1]
  · rw [(sm.1 j).2.1, (k1.2.1 j hj).2]
  · rw [(sm.1 j).2.2, St.fR k1.1]
  · rw [(sm.2 q i).1, (k1.2.2 q hq).1]
  · rw [(sm.2 q i).2.1, (k1.2.2 q hq).2]
/-- and by its kind -/
theorem ad_ne (ad : Ad S A) (hb : Rf S b r) (h : pwr r = false) (h0 : r ≠ 0) : ∀ q, pwr q = true ∨ q = 0 → b ≠ A q := by
  intro q q1 e
  rcases q1 with q1 | q1
  · have z := (ad q (pwr_adr q1)).2
    rw [← e, hb.2] at z
    rw [z, q1] at h
    cases h
  · have z := (ad 0 rfl).2
    rw [q1] at e
    rw [← e, hb.2] at z
    exact h0 z
theorem SW2.at (kw : Kws (SW2 A) S S9) (hb : b ∈ pL S) (hne : ∀ q, scw q = true → b ≠ A q) (h5 : b ≠ A 5) (h8 : b ≠ A 8) : Same S S9 b := by
  refine kw.2 b hb (fun z => ?_)
  rcases z with ⟨q, q1, q2⟩ | z | z
  · exact hne q q1 q2
  · exact h5 z
  · exact h8 z
end
