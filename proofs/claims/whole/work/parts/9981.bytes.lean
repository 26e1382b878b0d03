/-! Bytes of a text. -/
section
variable {x : Int32} {w : Nat → Int32} {n q : Nat} {S : PS} {A : Nat → Nat}
def Byt (x : Int32) : Prop := -128 ≤ x ∧ x ≤ 127
theorem Byt.fits (h : Byt x) : fits .byte (.int x) = true := by
  show (decide (-128 ≤ x) && decide (x ≤ 127)) = true
  rw [decide_eq_true h.1, decide_eq_true h.2]; rfl
def byc (x : Int32) : Bool := vp_nar .byte x == x && decide (0 ≤ (x &&& 255).toInt ∧ (x &&& 255).toInt ≤ 255) && (!isLet (x &&& 255) || x == (x &&& 255)) && (decide (x = 95) == decide (x &&& 255 = 95))
theorem byc_all : ∀ k : Fin 256, byc (iJ ((k.val : Int) - 128)) = true := by decide +kernel
theorem Byt.c (h : Byt x) : byc x = true := by
  have h1 : -128 ≤ x.toInt := Int32.le_iff_toInt_le.mp h.1
  have h2 : x.toInt ≤ 127 := Int32.le_iff_toInt_le.mp h.2
  have := byc_all ⟨(x.toInt + 128).toNat, by omega⟩
  have e : (((x.toInt + 128).toNat : Nat) : Int) - 128 = x.toInt := by omega
  simp only [e, iJ_of] at this
  exact this
theorem Byt.all (h : Byt x) : vp_nar .byte x = x ∧ (0 ≤ (x &&& 255).toInt ∧ (x &&& 255).toInt ≤ 255) ∧ (isLet (x &&& 255) = true → x = x &&& 255) ∧ (x = 95 ↔ x &&& 255 = 95) := by
  have c := h.c
  unfold byc at c
  simp only [Bool.and_eq_true, beq_iff_eq, decide_eq_true_iff, Bool.or_eq_true, Bool.not_eq_true', decide_eq_decide] at c
  obtain ⟨⟨⟨c1, c2⟩, c3⟩, c4⟩ := c
  refine ⟨c1, c2, fun z => ?_, c4⟩
  rcases c3 with y | y
  · rw [z] at y; cases y
  · exact y
/-- the text of n raw bytes -/
def Bof (w : Nat → Int32) (n : Nat) : Nat → Int32 := fun q => if q < n then w q &&& 255 else -1
theorem Bof.at (h : q < n) : Bof w n q = w q &&& 255 := if_pos h
theorem Bof.tx (hn : n ≤ 1500) (h : ∀ q, q < n → Byt (w q)) : Tx (Bof w n) n := by
  refine ⟨hn, fun q hq => if_neg (by omega), fun q hq => ?_⟩
  rw [Bof.at hq]; exact (h q hq).all.2.1
theorem Bof.rt (lm : LayM S A) (h100 : fI S 100 (A 9) = nI n) (hn : n ≤ 1500) (h : ∀ q, q < n → Byt (w q)) (h41 : ∀ q, q < n → aI S 41 (A 41) q = w q) : RT S A (Bof w n) n ∧ ∀ q, q < n → (aI S 41 (A 41) q = 95 ↔ Bof w n q = 95) := by
  refine ⟨⟨lm, h100, Bof.tx hn h, fun q hq => ?_⟩, fun q hq => ?_⟩
  · rw [h41 q hq, Bof.at hq]; exact ⟨rfl, (h q hq).all.2.2.1⟩
  · rw [h41 q hq, Bof.at hq]; exact (h q hq).all.2.2.2
theorem Bof.ct (lc : LayC S A) (h44 : fI S 44 (A 5) = nI n) (hn : n ≤ 1500) (h : ∀ q, q < n → Byt (w q)) (h27 : ∀ q, q < n → aI S 27 (A 27) q = w q) : CT S A (Bof w n) n := by
  refine ⟨lc, h44, Bof.tx hn h, fun q hq => ?_⟩
  rw [h27 q hq, Bof.at hq]
end
