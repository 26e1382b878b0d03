/-! The class's read, whole. -/
section
variable {S S9 S1 S2 : PS} {A F : Nat → Nat} {n m T0 : Nat} {k : Nat × Nat}
theorem s_read11 {Q : Int32 → PS → Prop} (lo : LayO S A) (lc : LayC0 S A) (ls : LayS S A) (ad : Ad S A) (h8 : Rf S (A 8) 8) (pa : PfA S A 0 m F) (h88 : fI S 88 (A 8) = nI n) (hn : n ≤ 1500) (hby : ∀ q, q < n → Byt (aI S 39 (A 39) q)) (h94 : fR S 94 (A 8) = some T0) (hb : 201 ≤ k.1 + m ∧ 3015 ≤ k.2 + 15 * m)
    (hex : ∃ Sr, RT Sr A (Bof (aI S 39 (A 39)) n) n ∧ fI Sr 102 (A 9) = 0)
    (h0 : ∀ S9, Kws (SW2 A) S S9 → (∀ j b, ¬ (j = 43 ∧ b = A 5) → fR S9 j b = fR S j b) → fI S9 88 (A 8) = 0 → CT S9 A (Bof (aI S 39 (A 39)) n) n → ∀ S2 e m' F', Kd e → fI S2 0 (A 0) = nI e.1 → fI S2 1 (A 0) = nI e.2 → PfA S2 A 0 m' F' → Frd S9 S2 A → Pl3 S2 A → (∀ Sr, RT Sr A (Bof (aI S 39 (A 39)) n) n → fI Sr 102 (A 9) = 0 → ∀ Q2 : PS → Prop, (∀ Sr1, Keep jRk rRf Sr Sr1 → fI Sr1 102 (A 9) = nI e.1 → fI Sr1 103 (A 9) = nI e.2 → Q2 Sr1) → wp_X12_readText (A 9) Sr Q2) → Q ((-1000) - nI e.2) S2)
    (h1 : ∀ S9, Kws (SW2 A) S S9 → (∀ j b, ¬ (j = 43 ∧ b = A 5) → fR S9 j b = fR S j b) → fI S9 88 (A 8) = 0 → CT S9 A (Bof (aI S 39 (A 39)) n) n → ∀ S1 S2 m' F' N nd bh par ks E V M st t s v, PfA S2 A 0 m' F' → Frd S9 S2 A → Pl3 S2 A → fI S2 0 (A 0) = fI S9 0 (A 0) →
      (∀ Sr, RT Sr A (Bof (aI S 39 (A 39)) n) n → fI Sr 102 (A 9) = 0 → ∀ Q2 : PS → Prop, (∀ Sr1, KM Sr Sr1 → fI Sr1 102 (A 9) = 0 → Red S1 Sr1 A (Bof (aI S 39 (A 39)) n) n → PFm (A 9) 0 Sr1 Q2) → wp_X12_readText (A 9) Sr Q2) →
      (∀ Sr', Red S1 Sr' A (Bof (aI S 39 (A 39)) n) n → ∃ pc' T wr sy g ow, RSR S1 Sr' A (Bof (aI S 39 (A 39)) n) n N nd bh par ks pc' T wr sy g ow) →
      (∀ R0 pc T wr sy g ow, RSR S1 R0 A (Bof (aI S 39 (A 39)) n) n N nd bh par ks pc T wr sy g ow → fI R0 102 (A 9) = 0 → ∀ Q2 : PS → Prop, (∀ Sr1, RFin S2 Sr1 R0 A (Bof (aI S 39 (A 39)) n) n sy E V M st t → Q2 Sr1) → PFm (A 9) 0 R0 Q2) →
      fI S1 54 (A 5) = nI nd → Sco S2 A (Bof (aI S 39 (A 39)) n) n nd E V M st t s v → Q (nI E) (sR (sR S2 94 (A 8) (some (A 7))) 95 (A 8) (some T0))) : wp_X11_read (A 8) k S Q := by
  refine s_rd0 lo lc ls h88 hn hby (fun S9 kw lo9 ls9 ct cl z fr ar => ?_)
  have pa9 : PfA S9 A 0 m F := ⟨fun i hi => ⟨by rw [ar]; exact (pa.1 i hi).1, (pa.1 i hi).2.tr kw.1⟩, fun i i1 i2 => by rw [ar]; exact pa.2.1 i i1 i2, pa.2.2.1, pa.2.2.2.1, pa.2.2.2.2⟩
  exact s_rd1 lo9 ls9 (ad.ext kw.1) (h8.tr kw.1) pa9 ct cl ⟨z.1, z.2.1, z.2.2.1⟩ (by rw [fr _ _ (fun y => absurd y.1 (by decide))]; exact h94) hb hex (h0 S9 kw fr z.2.2.2 ct) (h1 S9 kw fr z.2.2.2 ct)
end
