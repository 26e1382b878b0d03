/-! Nothing that reading does is a miracle. -/
section
variable {X : Prop}
theorem fe1 {α0 : Type} {T : (α0 → Prop) → α0 → Prop} {F : (α0 → Prop) → Prop} (h1 : ∀ a0, T (fun _ => X) a0 → X) (h2 : F (fun _ => X) → X) : (∀ K : α0 → Prop, (∀ a0, T K a0 → K a0) → F K) → X := fun h => h2 (h (fun _ => X) h1)
theorem fe2 {α0 : Type} {α1 : Type} {T : (α0 → α1 → Prop) → α0 → α1 → Prop} {F : (α0 → α1 → Prop) → Prop} (h1 : ∀ a0 a1, T (fun _ _ => X) a0 a1 → X) (h2 : F (fun _ _ => X) → X) : (∀ K : α0 → α1 → Prop, (∀ a0 a1, T K a0 a1 → K a0 a1) → F K) → X := fun h => h2 (h (fun _ _ => X) h1)
theorem fe3 {α0 : Type} {α1 : Type} {α2 : Type} {T : (α0 → α1 → α2 → Prop) → α0 → α1 → α2 → Prop} {F : (α0 → α1 → α2 → Prop) → Prop} (h1 : ∀ a0 a1 a2, T (fun _ _ _ => X) a0 a1 a2 → X) (h2 : F (fun _ _ _ => X) → X) : (∀ K : α0 → α1 → α2 → Prop, (∀ a0 a1 a2, T K a0 a1 a2 → K a0 a1 a2) → F K) → X := fun h => h2 (h (fun _ _ _ => X) h1)
theorem fe4 {α0 : Type} {α1 : Type} {α2 : Type} {α3 : Type} {T : (α0 → α1 → α2 → α3 → Prop) → α0 → α1 → α2 → α3 → Prop} {F : (α0 → α1 → α2 → α3 → Prop) → Prop} (h1 : ∀ a0 a1 a2 a3, T (fun _ _ _ _ => X) a0 a1 a2 a3 → X) (h2 : F (fun _ _ _ _ => X) → X) : (∀ K : α0 → α1 → α2 → α3 → Prop, (∀ a0 a1 a2 a3, T K a0 a1 a2 a3 → K a0 a1 a2 a3) → F K) → X := fun h => h2 (h (fun _ _ _ _ => X) h1)
theorem fe5 {α0 : Type} {α1 : Type} {α2 : Type} {α3 : Type} {α4 : Type} {T : (α0 → α1 → α2 → α3 → α4 → Prop) → α0 → α1 → α2 → α3 → α4 → Prop} {F : (α0 → α1 → α2 → α3 → α4 → Prop) → Prop} (h1 : ∀ a0 a1 a2 a3 a4, T (fun _ _ _ _ _ => X) a0 a1 a2 a3 a4 → X) (h2 : F (fun _ _ _ _ _ => X) → X) : (∀ K : α0 → α1 → α2 → α3 → α4 → Prop, (∀ a0 a1 a2 a3 a4, T K a0 a1 a2 a3 a4 → K a0 a1 a2 a3 a4) → F K) → X := fun h => h2 (h (fun _ _ _ _ _ => X) h1)
theorem feS {α : Type} {e : α} {F : α → Prop} (h : F e → X) : (∀ s, s = e → F s) → X := fun g => h (g e rfl)
theorem feE {α : Type} {p F : α → Prop} (h : ∀ b, F b → X) : (∃ b, p b ∧ F b) → X := fun ⟨b, _, g⟩ => h b g
theorem feI {c : Prop} [Decidable c] {A B : Prop} (h1 : A → X) (h2 : B → X) : (if c then A else B) → X := fun g => by split at g; exact h1 g; exact h2 g
theorem feA {p F : Prop} (h : F → X) : (p ∧ F) → X := fun g => h g.2
theorem f_X12_bad {a : Nat} {p1 : Int32} {p2 : Int32} {S : PS} {Q : PS → Prop} (hQ : ∀ r0, Q r0 → X) : wp_X12_bad a p1 p2 S Q → X := by
  unfold wp_X12_bad
  repeat' first
    | exact id
    | exact hQ _
    | with_reducible refine feS ?_
    | with_reducible refine feE (fun _ => ?_)
    | with_reducible refine feA ?_
    | with_reducible refine fe1 (fun _ => ?_) ?_
    | with_reducible refine fe2 (fun _ _ => ?_) ?_
    | with_reducible refine fe3 (fun _ _ _ => ?_) ?_
    | with_reducible refine fe4 (fun _ _ _ _ => ?_) ?_
    | with_reducible refine fe5 (fun _ _ _ _ _ => ?_) ?_
    | with_reducible refine feI ?_ ?_
theorem f_X12_here {a : Nat} {S : PS} {Q : Int32 → PS → Prop} (hQ : ∀ r0 r1, Q r0 r1 → X) : wp_X12_here a S Q → X := by
  unfold wp_X12_here
  repeat' first
    | exact id
    | exact hQ _ _
    | with_reducible refine feS ?_
    | with_reducible refine feE (fun _ => ?_)
    | with_reducible refine feA ?_
    | with_reducible refine fe1 (fun _ => ?_) ?_
    | with_reducible refine fe2 (fun _ _ => ?_) ?_
    | with_reducible refine fe3 (fun _ _ _ => ?_) ?_
    | with_reducible refine fe4 (fun _ _ _ _ => ?_) ?_
    | with_reducible refine fe5 (fun _ _ _ _ _ => ?_) ?_
    | with_reducible refine feI ?_ ?_
theorem f_X12_isHere {a : Nat} {p1 : Int32} {S : PS} {Q : Int32 → PS → Prop} (hQ : ∀ r0 r1, Q r0 r1 → X) : wp_X12_isHere a p1 S Q → X := by
  unfold wp_X12_isHere
  repeat' first
    | exact id
    | exact hQ _ _
    | with_reducible refine f_X12_here (fun _ _ => ?_)
    | with_reducible refine feS ?_
    | with_reducible refine feE (fun _ => ?_)
    | with_reducible refine feA ?_
    | with_reducible refine fe1 (fun _ => ?_) ?_
    | with_reducible refine fe2 (fun _ _ => ?_) ?_
    | with_reducible refine fe3 (fun _ _ _ => ?_) ?_
    | with_reducible refine fe4 (fun _ _ _ _ => ?_) ?_
    | with_reducible refine fe5 (fun _ _ _ _ _ => ?_) ?_
    | with_reducible refine feI ?_ ?_
theorem f_X12_blanks {a : Nat} {S : PS} {Q : PS → Prop} (hQ : ∀ r0, Q r0 → X) : wp_X12_blanks a S Q → X := by
  unfold wp_X12_blanks
  repeat' first
    | exact id
    | exact hQ _
    | with_reducible refine f_X12_isHere (fun _ _ => ?_)
    | with_reducible refine feS ?_
    | with_reducible refine feE (fun _ => ?_)
    | with_reducible refine feA ?_
    | with_reducible refine fe1 (fun _ => ?_) ?_
    | with_reducible refine fe2 (fun _ _ => ?_) ?_
    | with_reducible refine fe3 (fun _ _ _ => ?_) ?_
    | with_reducible refine fe4 (fun _ _ _ _ => ?_) ?_
    | with_reducible refine fe5 (fun _ _ _ _ _ => ?_) ?_
    | with_reducible refine feI ?_ ?_
theorem f_X12_isDigit {p1 : Int32} {S : PS} {Q : Int32 → PS → Prop} (hQ : ∀ r0 r1, Q r0 r1 → X) : wp_X12_isDigit p1 S Q → X := by
  unfold wp_X12_isDigit
  repeat' first
    | exact id
    | exact hQ _ _
    | with_reducible refine feS ?_
    | with_reducible refine feE (fun _ => ?_)
    | with_reducible refine feA ?_
    | with_reducible refine fe1 (fun _ => ?_) ?_
    | with_reducible refine fe2 (fun _ _ => ?_) ?_
    | with_reducible refine fe3 (fun _ _ _ => ?_) ?_
    | with_reducible refine fe4 (fun _ _ _ _ => ?_) ?_
    | with_reducible refine fe5 (fun _ _ _ _ _ => ?_) ?_
    | with_reducible refine feI ?_ ?_
theorem f_X12_isLetter {p1 : Int32} {S : PS} {Q : Int32 → PS → Prop} (hQ : ∀ r0 r1, Q r0 r1 → X) : wp_X12_isLetter p1 S Q → X := by
  unfold wp_X12_isLetter
  repeat' first
    | exact id
    | exact hQ _ _
    | with_reducible refine feS ?_
    | with_reducible refine feE (fun _ => ?_)
    | with_reducible refine feA ?_
    | with_reducible refine fe1 (fun _ => ?_) ?_
    | with_reducible refine fe2 (fun _ _ => ?_) ?_
    | with_reducible refine fe3 (fun _ _ _ => ?_) ?_
    | with_reducible refine fe4 (fun _ _ _ _ => ?_) ?_
    | with_reducible refine fe5 (fun _ _ _ _ _ => ?_) ?_
    | with_reducible refine feI ?_ ?_
theorem f_X12_isTone {p1 : Int32} {S : PS} {Q : Int32 → PS → Prop} (hQ : ∀ r0 r1, Q r0 r1 → X) : wp_X12_isTone p1 S Q → X := by
  unfold wp_X12_isTone
  repeat' first
    | exact id
    | exact hQ _ _
    | with_reducible refine feS ?_
    | with_reducible refine feE (fun _ => ?_)
    | with_reducible refine feA ?_
    | with_reducible refine fe1 (fun _ => ?_) ?_
    | with_reducible refine fe2 (fun _ _ => ?_) ?_
    | with_reducible refine fe3 (fun _ _ _ => ?_) ?_
    | with_reducible refine fe4 (fun _ _ _ _ => ?_) ?_
    | with_reducible refine fe5 (fun _ _ _ _ _ => ?_) ?_
    | with_reducible refine feI ?_ ?_
theorem f_X12_in {p1 : Int64} {p2 : Int64} {p3 : Int64} {S : PS} {Q : Int32 → PS → Prop} (hQ : ∀ r0 r1, Q r0 r1 → X) : wp_X12_in p1 p2 p3 S Q → X := by
  unfold wp_X12_in
  repeat' first
    | exact id
    | exact hQ _ _
    | with_reducible refine feS ?_
    | with_reducible refine feE (fun _ => ?_)
    | with_reducible refine feA ?_
    | with_reducible refine fe1 (fun _ => ?_) ?_
    | with_reducible refine fe2 (fun _ _ => ?_) ?_
    | with_reducible refine fe3 (fun _ _ _ => ?_) ?_
    | with_reducible refine fe4 (fun _ _ _ _ => ?_) ?_
    | with_reducible refine fe5 (fun _ _ _ _ _ => ?_) ?_
    | with_reducible refine feI ?_ ?_
theorem f_X12_want {a : Nat} {p1 : Int32} {S : PS} {Q : PS → Prop} (hQ : ∀ r0, Q r0 → X) : wp_X12_want a p1 S Q → X := by
  unfold wp_X12_want
  repeat' first
    | exact id
    | exact hQ _
    | with_reducible refine f_X12_bad (fun _ => ?_)
    | with_reducible refine f_X12_blanks (fun _ => ?_)
    | with_reducible refine f_X12_isHere (fun _ _ => ?_)
    | with_reducible refine feS ?_
    | with_reducible refine feE (fun _ => ?_)
    | with_reducible refine feA ?_
    | with_reducible refine fe1 (fun _ => ?_) ?_
    | with_reducible refine fe2 (fun _ _ => ?_) ?_
    | with_reducible refine fe3 (fun _ _ _ => ?_) ?_
    | with_reducible refine fe4 (fun _ _ _ _ => ?_) ?_
    | with_reducible refine fe5 (fun _ _ _ _ _ => ?_) ?_
    | with_reducible refine feI ?_ ?_
theorem f_X12_digits {a : Nat} {p1 : Int32} {p2 : Int64} {p3 : Int64} {S : PS} {Q : Int64 → PS → Prop} (hQ : ∀ r0 r1, Q r0 r1 → X) : wp_X12_digits a p1 p2 p3 S Q → X := by
  unfold wp_X12_digits
  repeat' first
    | exact id
    | exact hQ _ _
    | with_reducible refine f_X12_bad (fun _ => ?_)
    | with_reducible refine f_X12_here (fun _ _ => ?_)
    | with_reducible refine f_X12_in (fun _ _ => ?_)
    | with_reducible refine f_X12_isDigit (fun _ _ => ?_)
    | with_reducible refine feS ?_
    | with_reducible refine feE (fun _ => ?_)
    | with_reducible refine feA ?_
    | with_reducible refine fe1 (fun _ => ?_) ?_
    | with_reducible refine fe2 (fun _ _ => ?_) ?_
    | with_reducible refine fe3 (fun _ _ _ => ?_) ?_
    | with_reducible refine fe4 (fun _ _ _ _ => ?_) ?_
    | with_reducible refine fe5 (fun _ _ _ _ _ => ?_) ?_
    | with_reducible refine feI ?_ ?_
theorem f_X12_number {a : Nat} {p1 : Int32} {p2 : Int32} {S : PS} {Q : Int32 → PS → Prop} (hQ : ∀ r0 r1, Q r0 r1 → X) : wp_X12_number a p1 p2 S Q → X := by
  unfold wp_X12_number
  repeat' first
    | exact id
    | exact hQ _ _
    | with_reducible refine f_X12_blanks (fun _ => ?_)
    | with_reducible refine f_X12_digits (fun _ _ => ?_)
    | with_reducible refine feS ?_
    | with_reducible refine feE (fun _ => ?_)
    | with_reducible refine feA ?_
    | with_reducible refine fe1 (fun _ => ?_) ?_
    | with_reducible refine fe2 (fun _ _ => ?_) ?_
    | with_reducible refine fe3 (fun _ _ _ => ?_) ?_
    | with_reducible refine fe4 (fun _ _ _ _ => ?_) ?_
    | with_reducible refine fe5 (fun _ _ _ _ _ => ?_) ?_
    | with_reducible refine feI ?_ ?_
theorem f_X12_isHalved {p1 : Int64} {p2 : Int32} {S : PS} {Q : Int32 → PS → Prop} (hQ : ∀ r0 r1, Q r0 r1 → X) : wp_X12_isHalved p1 p2 S Q → X := by
  unfold wp_X12_isHalved
  repeat' first
    | exact id
    | exact hQ _ _
    | with_reducible refine feS ?_
    | with_reducible refine feE (fun _ => ?_)
    | with_reducible refine feA ?_
    | with_reducible refine fe1 (fun _ => ?_) ?_
    | with_reducible refine fe2 (fun _ _ => ?_) ?_
    | with_reducible refine fe3 (fun _ _ _ => ?_) ?_
    | with_reducible refine fe4 (fun _ _ _ _ => ?_) ?_
    | with_reducible refine fe5 (fun _ _ _ _ _ => ?_) ?_
    | with_reducible refine feI ?_ ?_
theorem f_X12_halved {a : Nat} {p1 : Int32} {S : PS} {Q : Int64 → PS → Prop} (hQ : ∀ r0 r1, Q r0 r1 → X) : wp_X12_halved a p1 S Q → X := by
  unfold wp_X12_halved
  repeat' first
    | exact id
    | exact hQ _ _
    | with_reducible refine f_X12_bad (fun _ => ?_)
    | with_reducible refine f_X12_digits (fun _ _ => ?_)
    | with_reducible refine f_X12_isHalved (fun _ _ => ?_)
    | with_reducible refine feS ?_
    | with_reducible refine feE (fun _ => ?_)
    | with_reducible refine feA ?_
    | with_reducible refine fe1 (fun _ => ?_) ?_
    | with_reducible refine fe2 (fun _ _ => ?_) ?_
    | with_reducible refine fe3 (fun _ _ _ => ?_) ?_
    | with_reducible refine fe4 (fun _ _ _ _ => ?_) ?_
    | with_reducible refine fe5 (fun _ _ _ _ _ => ?_) ?_
    | with_reducible refine feI ?_ ?_
theorem f_X12_signed {a : Nat} {S : PS} {Q : Int32 → PS → Prop} (hQ : ∀ r0 r1, Q r0 r1 → X) : wp_X12_signed a S Q → X := by
  unfold wp_X12_signed
  repeat' first
    | exact id
    | exact hQ _ _
    | with_reducible refine f_X12_blanks (fun _ => ?_)
    | with_reducible refine f_X12_digits (fun _ _ => ?_)
    | with_reducible refine f_X12_isHere (fun _ _ => ?_)
    | with_reducible refine feS ?_
    | with_reducible refine feE (fun _ => ?_)
    | with_reducible refine feA ?_
    | with_reducible refine fe1 (fun _ => ?_) ?_
    | with_reducible refine fe2 (fun _ _ => ?_) ?_
    | with_reducible refine fe3 (fun _ _ _ => ?_) ?_
    | with_reducible refine fe4 (fun _ _ _ _ => ?_) ?_
    | with_reducible refine fe5 (fun _ _ _ _ _ => ?_) ?_
    | with_reducible refine feI ?_ ?_
theorem f_X12_item {a : Nat} {p1 : Int32} {p2 : Int32} {S : PS} {Q : Int32 → PS → Prop} (hQ : ∀ r0 r1, Q r0 r1 → X) : wp_X12_item a p1 p2 S Q → X := by
  unfold wp_X12_item
  repeat' first
    | exact id
    | exact hQ _ _
    | with_reducible refine feS ?_
    | with_reducible refine feE (fun _ => ?_)
    | with_reducible refine feA ?_
    | with_reducible refine fe1 (fun _ => ?_) ?_
    | with_reducible refine fe2 (fun _ _ => ?_) ?_
    | with_reducible refine fe3 (fun _ _ _ => ?_) ?_
    | with_reducible refine fe4 (fun _ _ _ _ => ?_) ?_
    | with_reducible refine fe5 (fun _ _ _ _ _ => ?_) ?_
    | with_reducible refine feI ?_ ?_
theorem f_X12_openMusic {a : Nat} {p1 : Int32} {p2 : Int32} {p3 : Int32} {S : PS} {Q : PS → Prop} (hQ : ∀ r0, Q r0 → X) : wp_X12_openMusic a p1 p2 p3 S Q → X := by
  unfold wp_X12_openMusic
  repeat' first
    | exact id
    | exact hQ _
    | with_reducible refine feS ?_
    | with_reducible refine feE (fun _ => ?_)
    | with_reducible refine feA ?_
    | with_reducible refine fe1 (fun _ => ?_) ?_
    | with_reducible refine fe2 (fun _ _ => ?_) ?_
    | with_reducible refine fe3 (fun _ _ _ => ?_) ?_
    | with_reducible refine fe4 (fun _ _ _ _ => ?_) ?_
    | with_reducible refine fe5 (fun _ _ _ _ _ => ?_) ?_
    | with_reducible refine feI ?_ ?_
theorem f_X12_hang {a : Nat} {p1 : Int32} {S : PS} {Q : PS → Prop} (hQ : ∀ r0, Q r0 → X) : wp_X12_hang a p1 S Q → X := by
  unfold wp_X12_hang
  repeat' first
    | exact id
    | exact hQ _
    | with_reducible refine feS ?_
    | with_reducible refine feE (fun _ => ?_)
    | with_reducible refine feA ?_
    | with_reducible refine fe1 (fun _ => ?_) ?_
    | with_reducible refine fe2 (fun _ _ => ?_) ?_
    | with_reducible refine fe3 (fun _ _ _ => ?_) ?_
    | with_reducible refine fe4 (fun _ _ _ _ => ?_) ?_
    | with_reducible refine fe5 (fun _ _ _ _ _ => ?_) ?_
    | with_reducible refine feI ?_ ?_
theorem f_X12_openBlock {a : Nat} {p1 : Int32} {p2 : Int32} {S : PS} {Q : PS → Prop} (hQ : ∀ r0, Q r0 → X) : wp_X12_openBlock a p1 p2 S Q → X := by
  unfold wp_X12_openBlock
  repeat' first
    | exact id
    | exact hQ _
    | with_reducible refine f_X12_bad (fun _ => ?_)
    | with_reducible refine f_X12_blanks (fun _ => ?_)
    | with_reducible refine f_X12_isHere (fun _ _ => ?_)
    | with_reducible refine f_X12_item (fun _ _ => ?_)
    | with_reducible refine f_X12_openMusic (fun _ => ?_)
    | with_reducible refine feS ?_
    | with_reducible refine feE (fun _ => ?_)
    | with_reducible refine feA ?_
    | with_reducible refine fe1 (fun _ => ?_) ?_
    | with_reducible refine fe2 (fun _ _ => ?_) ?_
    | with_reducible refine fe3 (fun _ _ _ => ?_) ?_
    | with_reducible refine fe4 (fun _ _ _ _ => ?_) ?_
    | with_reducible refine fe5 (fun _ _ _ _ _ => ?_) ?_
    | with_reducible refine feI ?_ ?_
theorem f_X12_signs {a : Nat} {p1 : Int32} {p2 : Int32} {S : PS} {Q : Int32 → PS → Prop} (hQ : ∀ r0 r1, Q r0 r1 → X) : wp_X12_signs a p1 p2 S Q → X := by
  unfold wp_X12_signs
  repeat' first
    | exact id
    | exact hQ _ _
    | with_reducible refine f_X12_isHere (fun _ _ => ?_)
    | with_reducible refine feS ?_
    | with_reducible refine feE (fun _ => ?_)
    | with_reducible refine feA ?_
    | with_reducible refine fe1 (fun _ => ?_) ?_
    | with_reducible refine fe2 (fun _ _ => ?_) ?_
    | with_reducible refine fe3 (fun _ _ _ => ?_) ?_
    | with_reducible refine fe4 (fun _ _ _ _ => ?_) ?_
    | with_reducible refine fe5 (fun _ _ _ _ _ => ?_) ?_
    | with_reducible refine feI ?_ ?_
theorem f_X12_pitchAt {a : Nat} {S : PS} {Q : PS → Prop} (hQ : ∀ r0, Q r0 → X) : wp_X12_pitchAt a S Q → X := by
  unfold wp_X12_pitchAt
  repeat' first
    | exact id
    | exact hQ _
    | with_reducible refine f_X12_here (fun _ _ => ?_)
    | with_reducible refine f_X12_isHere (fun _ _ => ?_)
    | with_reducible refine f_X12_signs (fun _ _ => ?_)
    | with_reducible refine feS ?_
    | with_reducible refine feE (fun _ => ?_)
    | with_reducible refine feA ?_
    | with_reducible refine fe1 (fun _ => ?_) ?_
    | with_reducible refine fe2 (fun _ _ => ?_) ?_
    | with_reducible refine fe3 (fun _ _ _ => ?_) ?_
    | with_reducible refine fe4 (fun _ _ _ _ => ?_) ?_
    | with_reducible refine fe5 (fun _ _ _ _ _ => ?_) ?_
    | with_reducible refine feI ?_ ?_
theorem f_X12_lengthAt {a : Nat} {p1 : Int32} {S : PS} {Q : PS → Prop} (hQ : ∀ r0, Q r0 → X) : wp_X12_lengthAt a p1 S Q → X := by
  unfold wp_X12_lengthAt
  repeat' first
    | exact id
    | exact hQ _
    | with_reducible refine f_X12_digits (fun _ _ => ?_)
    | with_reducible refine f_X12_halved (fun _ _ => ?_)
    | with_reducible refine f_X12_here (fun _ _ => ?_)
    | with_reducible refine f_X12_isDigit (fun _ _ => ?_)
    | with_reducible refine f_X12_isHere (fun _ _ => ?_)
    | with_reducible refine f_X12_signs (fun _ _ => ?_)
    | with_reducible refine feS ?_
    | with_reducible refine feE (fun _ => ?_)
    | with_reducible refine feA ?_
    | with_reducible refine fe1 (fun _ => ?_) ?_
    | with_reducible refine fe2 (fun _ _ => ?_) ?_
    | with_reducible refine fe3 (fun _ _ _ => ?_) ?_
    | with_reducible refine fe4 (fun _ _ _ _ => ?_) ?_
    | with_reducible refine fe5 (fun _ _ _ _ _ => ?_) ?_
    | with_reducible refine feI ?_ ?_
theorem f_X12_tones {a : Nat} {S : PS} {Q : PS → Prop} (hQ : ∀ r0, Q r0 → X) : wp_X12_tones a S Q → X := by
  unfold wp_X12_tones
  repeat' first
    | exact id
    | exact hQ _
    | with_reducible refine f_X12_bad (fun _ => ?_)
    | with_reducible refine f_X12_blanks (fun _ => ?_)
    | with_reducible refine f_X12_hang (fun _ => ?_)
    | with_reducible refine f_X12_here (fun _ _ => ?_)
    | with_reducible refine f_X12_isHere (fun _ _ => ?_)
    | with_reducible refine f_X12_isTone (fun _ _ => ?_)
    | with_reducible refine f_X12_item (fun _ _ => ?_)
    | with_reducible refine f_X12_lengthAt (fun _ => ?_)
    | with_reducible refine f_X12_pitchAt (fun _ => ?_)
    | with_reducible refine feS ?_
    | with_reducible refine feE (fun _ => ?_)
    | with_reducible refine feA ?_
    | with_reducible refine fe1 (fun _ => ?_) ?_
    | with_reducible refine fe2 (fun _ _ => ?_) ?_
    | with_reducible refine fe3 (fun _ _ _ => ?_) ?_
    | with_reducible refine fe4 (fun _ _ _ _ => ?_) ?_
    | with_reducible refine fe5 (fun _ _ _ _ _ => ?_) ?_
    | with_reducible refine feI ?_ ?_
theorem f_X12_itsBlock {a : Nat} {p1 : Int32} {S : PS} {Q : PS → Prop} (hQ : ∀ r0, Q r0 → X) : wp_X12_itsBlock a p1 S Q → X := by
  unfold wp_X12_itsBlock
  repeat' first
    | exact id
    | exact hQ _
    | with_reducible refine f_X12_openBlock (fun _ => ?_)
    | with_reducible refine feS ?_
    | with_reducible refine feE (fun _ => ?_)
    | with_reducible refine feA ?_
    | with_reducible refine fe1 (fun _ => ?_) ?_
    | with_reducible refine fe2 (fun _ _ => ?_) ?_
    | with_reducible refine fe3 (fun _ _ _ => ?_) ?_
    | with_reducible refine fe4 (fun _ _ _ _ => ?_) ?_
    | with_reducible refine fe5 (fun _ _ _ _ _ => ?_) ?_
    | with_reducible refine feI ?_ ?_
theorem f_X12_voicesAt {a : Nat} {p1 : Int32} {S : PS} {Q : PS → Prop} (hQ : ∀ r0, Q r0 → X) : wp_X12_voicesAt a p1 S Q → X := by
  unfold wp_X12_voicesAt
  repeat' first
    | exact id
    | exact hQ _
    | with_reducible refine f_X12_bad (fun _ => ?_)
    | with_reducible refine f_X12_item (fun _ _ => ?_)
    | with_reducible refine f_X12_openMusic (fun _ => ?_)
    | with_reducible refine feS ?_
    | with_reducible refine feE (fun _ => ?_)
    | with_reducible refine feA ?_
    | with_reducible refine fe1 (fun _ => ?_) ?_
    | with_reducible refine fe2 (fun _ _ => ?_) ?_
    | with_reducible refine fe3 (fun _ _ _ => ?_) ?_
    | with_reducible refine fe4 (fun _ _ _ _ => ?_) ?_
    | with_reducible refine fe5 (fun _ _ _ _ _ => ?_) ?_
    | with_reducible refine feI ?_ ?_
theorem f_X12_wordsAt {a : Nat} {p1 : Int32} {S : PS} {Q : PS → Prop} (hQ : ∀ r0, Q r0 → X) : wp_X12_wordsAt a p1 S Q → X := by
  unfold wp_X12_wordsAt
  repeat' first
    | exact id
    | exact hQ _
    | with_reducible refine f_X12_bad (fun _ => ?_)
    | with_reducible refine f_X12_here (fun _ _ => ?_)
    | with_reducible refine f_X12_in (fun _ _ => ?_)
    | with_reducible refine f_X12_isHere (fun _ _ => ?_)
    | with_reducible refine f_X12_number (fun _ _ => ?_)
    | with_reducible refine f_X12_want (fun _ => ?_)
    | with_reducible refine feS ?_
    | with_reducible refine feE (fun _ => ?_)
    | with_reducible refine feA ?_
    | with_reducible refine fe1 (fun _ => ?_) ?_
    | with_reducible refine fe2 (fun _ _ => ?_) ?_
    | with_reducible refine fe3 (fun _ _ _ => ?_) ?_
    | with_reducible refine fe4 (fun _ _ _ _ => ?_) ?_
    | with_reducible refine fe5 (fun _ _ _ _ _ => ?_) ?_
    | with_reducible refine feI ?_ ?_
theorem f_X12_letters {a : Nat} {S : PS} {Q : Int32 → PS → Prop} (hQ : ∀ r0 r1, Q r0 r1 → X) : wp_X12_letters a S Q → X := by
  unfold wp_X12_letters
  repeat' first
    | exact id
    | exact hQ _ _
    | with_reducible refine f_X12_here (fun _ _ => ?_)
    | with_reducible refine f_X12_isLetter (fun _ _ => ?_)
    | with_reducible refine feS ?_
    | with_reducible refine feE (fun _ => ?_)
    | with_reducible refine feA ?_
    | with_reducible refine fe1 (fun _ => ?_) ?_
    | with_reducible refine fe2 (fun _ _ => ?_) ?_
    | with_reducible refine fe3 (fun _ _ _ => ?_) ?_
    | with_reducible refine fe4 (fun _ _ _ _ => ?_) ?_
    | with_reducible refine fe5 (fun _ _ _ _ _ => ?_) ?_
    | with_reducible refine feI ?_ ?_
theorem f_X12_alike {a : Nat} {p1 : Int32} {p2 : Int32} {p3 : Int32} {p4 : Int32} {S : PS} {Q : Int32 → PS → Prop} (hQ : ∀ r0 r1, Q r0 r1 → X) : wp_X12_alike a p1 p2 p3 p4 S Q → X := by
  unfold wp_X12_alike
  repeat' first
    | exact id
    | exact hQ _ _
    | with_reducible refine feS ?_
    | with_reducible refine feE (fun _ => ?_)
    | with_reducible refine feA ?_
    | with_reducible refine fe1 (fun _ => ?_) ?_
    | with_reducible refine fe2 (fun _ _ => ?_) ?_
    | with_reducible refine fe3 (fun _ _ _ => ?_) ?_
    | with_reducible refine fe4 (fun _ _ _ _ => ?_) ?_
    | with_reducible refine fe5 (fun _ _ _ _ _ => ?_) ?_
    | with_reducible refine feI ?_ ?_
theorem f_X12_nameOf {a : Nat} {p1 : Int32} {p2 : Int32} {S : PS} {Q : Int32 → PS → Prop} (hQ : ∀ r0 r1, Q r0 r1 → X) : wp_X12_nameOf a p1 p2 S Q → X := by
  unfold wp_X12_nameOf
  repeat' first
    | exact id
    | exact hQ _ _
    | with_reducible refine f_X12_alike (fun _ _ => ?_)
    | with_reducible refine feS ?_
    | with_reducible refine feE (fun _ => ?_)
    | with_reducible refine feA ?_
    | with_reducible refine fe1 (fun _ => ?_) ?_
    | with_reducible refine fe2 (fun _ _ => ?_) ?_
    | with_reducible refine fe3 (fun _ _ _ => ?_) ?_
    | with_reducible refine fe4 (fun _ _ _ _ => ?_) ?_
    | with_reducible refine fe5 (fun _ _ _ _ _ => ?_) ?_
    | with_reducible refine feI ?_ ?_
theorem f_X12_newName {a : Nat} {p1 : Int32} {S : PS} {Q : PS → Prop} (hQ : ∀ r0, Q r0 → X) : wp_X12_newName a p1 S Q → X := by
  unfold wp_X12_newName
  repeat' first
    | exact id
    | exact hQ _
    | with_reducible refine f_X12_alike (fun _ _ => ?_)
    | with_reducible refine f_X12_bad (fun _ => ?_)
    | with_reducible refine f_X12_letters (fun _ _ => ?_)
    | with_reducible refine f_X12_nameOf (fun _ _ => ?_)
    | with_reducible refine feS ?_
    | with_reducible refine feE (fun _ => ?_)
    | with_reducible refine feA ?_
    | with_reducible refine fe1 (fun _ => ?_) ?_
    | with_reducible refine fe2 (fun _ _ => ?_) ?_
    | with_reducible refine fe3 (fun _ _ _ => ?_) ?_
    | with_reducible refine fe4 (fun _ _ _ _ => ?_) ?_
    | with_reducible refine fe5 (fun _ _ _ _ _ => ?_) ?_
    | with_reducible refine feI ?_ ?_
theorem f_X12_namedAt {a : Nat} {p1 : Int32} {S : PS} {Q : PS → Prop} (hQ : ∀ r0, Q r0 → X) : wp_X12_namedAt a p1 S Q → X := by
  unfold wp_X12_namedAt
  repeat' first
    | exact id
    | exact hQ _
    | with_reducible refine f_X12_bad (fun _ => ?_)
    | with_reducible refine f_X12_blanks (fun _ => ?_)
    | with_reducible refine f_X12_here (fun _ _ => ?_)
    | with_reducible refine f_X12_isLetter (fun _ _ => ?_)
    | with_reducible refine f_X12_newName (fun _ => ?_)
    | with_reducible refine f_X12_openBlock (fun _ => ?_)
    | with_reducible refine feS ?_
    | with_reducible refine feE (fun _ => ?_)
    | with_reducible refine feA ?_
    | with_reducible refine fe1 (fun _ => ?_) ?_
    | with_reducible refine fe2 (fun _ _ => ?_) ?_
    | with_reducible refine fe3 (fun _ _ _ => ?_) ?_
    | with_reducible refine fe4 (fun _ _ _ _ => ?_) ?_
    | with_reducible refine fe5 (fun _ _ _ _ _ => ?_) ?_
    | with_reducible refine feI ?_ ?_
theorem f_X12_parameterOf {a : Nat} {p1 : Int32} {p2 : Int32} {S : PS} {Q : Int32 → PS → Prop} (hQ : ∀ r0 r1, Q r0 r1 → X) : wp_X12_parameterOf a p1 p2 S Q → X := by
  unfold wp_X12_parameterOf
  repeat' first
    | exact id
    | exact hQ _ _
    | with_reducible refine f_X12_alike (fun _ _ => ?_)
    | with_reducible refine feS ?_
    | with_reducible refine feE (fun _ => ?_)
    | with_reducible refine feA ?_
    | with_reducible refine fe1 (fun _ => ?_) ?_
    | with_reducible refine fe2 (fun _ _ => ?_) ?_
    | with_reducible refine fe3 (fun _ _ _ => ?_) ?_
    | with_reducible refine fe4 (fun _ _ _ _ => ?_) ?_
    | with_reducible refine fe5 (fun _ _ _ _ _ => ?_) ?_
    | with_reducible refine feI ?_ ?_
theorem f_X12_useAt {a : Nat} {p1 : Int32} {S : PS} {Q : PS → Prop} (hQ : ∀ r0, Q r0 → X) : wp_X12_useAt a p1 S Q → X := by
  unfold wp_X12_useAt
  repeat' first
    | exact id
    | exact hQ _
    | with_reducible refine f_X12_bad (fun _ => ?_)
    | with_reducible refine f_X12_blanks (fun _ => ?_)
    | with_reducible refine f_X12_letters (fun _ _ => ?_)
    | with_reducible refine f_X12_nameOf (fun _ _ => ?_)
    | with_reducible refine f_X12_openBlock (fun _ => ?_)
    | with_reducible refine f_X12_parameterOf (fun _ _ => ?_)
    | with_reducible refine feS ?_
    | with_reducible refine feE (fun _ => ?_)
    | with_reducible refine feA ?_
    | with_reducible refine fe1 (fun _ => ?_) ?_
    | with_reducible refine fe2 (fun _ _ => ?_) ?_
    | with_reducible refine fe3 (fun _ _ _ => ?_) ?_
    | with_reducible refine fe4 (fun _ _ _ _ => ?_) ?_
    | with_reducible refine fe5 (fun _ _ _ _ _ => ?_) ?_
    | with_reducible refine feI ?_ ?_
theorem f_X12_readItem {a : Nat} {S : PS} {Q : PS → Prop} (hQ : ∀ r0, Q r0 → X) : wp_X12_readItem a S Q → X := by
  unfold wp_X12_readItem
  repeat' first
    | exact id
    | exact hQ _
    | with_reducible refine f_X12_bad (fun _ => ?_)
    | with_reducible refine f_X12_blanks (fun _ => ?_)
    | with_reducible refine f_X12_halved (fun _ _ => ?_)
    | with_reducible refine f_X12_hang (fun _ => ?_)
    | with_reducible refine f_X12_here (fun _ _ => ?_)
    | with_reducible refine f_X12_isTone (fun _ _ => ?_)
    | with_reducible refine f_X12_item (fun _ _ => ?_)
    | with_reducible refine f_X12_itsBlock (fun _ => ?_)
    | with_reducible refine f_X12_namedAt (fun _ => ?_)
    | with_reducible refine f_X12_number (fun _ _ => ?_)
    | with_reducible refine f_X12_signed (fun _ _ => ?_)
    | with_reducible refine f_X12_tones (fun _ => ?_)
    | with_reducible refine f_X12_useAt (fun _ => ?_)
    | with_reducible refine f_X12_voicesAt (fun _ => ?_)
    | with_reducible refine f_X12_want (fun _ => ?_)
    | with_reducible refine f_X12_wordsAt (fun _ => ?_)
    | with_reducible refine feS ?_
    | with_reducible refine feE (fun _ => ?_)
    | with_reducible refine feA ?_
    | with_reducible refine fe1 (fun _ => ?_) ?_
    | with_reducible refine fe2 (fun _ _ => ?_) ?_
    | with_reducible refine fe3 (fun _ _ _ => ?_) ?_
    | with_reducible refine fe4 (fun _ _ _ _ => ?_) ?_
    | with_reducible refine fe5 (fun _ _ _ _ _ => ?_) ?_
    | with_reducible refine feI ?_ ?_
theorem f_X12_endNaming {a : Nat} {p1 : Int32} {p2 : Int32} {S : PS} {Q : PS → Prop} (hQ : ∀ r0, Q r0 → X) : wp_X12_endNaming a p1 p2 S Q → X := by
  unfold wp_X12_endNaming
  repeat' first
    | exact id
    | exact hQ _
    | with_reducible refine feS ?_
    | with_reducible refine feE (fun _ => ?_)
    | with_reducible refine feA ?_
    | with_reducible refine fe1 (fun _ => ?_) ?_
    | with_reducible refine fe2 (fun _ _ => ?_) ?_
    | with_reducible refine fe3 (fun _ _ _ => ?_) ?_
    | with_reducible refine fe4 (fun _ _ _ _ => ?_) ?_
    | with_reducible refine fe5 (fun _ _ _ _ _ => ?_) ?_
    | with_reducible refine feI ?_ ?_
theorem f_X12_useBlock {a : Nat} {p1 : Int32} {p2 : Int32} {S : PS} {Q : PS → Prop} (hQ : ∀ r0, Q r0 → X) : wp_X12_useBlock a p1 p2 S Q → X := by
  unfold wp_X12_useBlock
  repeat' first
    | exact id
    | exact hQ _
    | with_reducible refine f_X12_openBlock (fun _ => ?_)
    | with_reducible refine feS ?_
    | with_reducible refine feE (fun _ => ?_)
    | with_reducible refine feA ?_
    | with_reducible refine fe1 (fun _ => ?_) ?_
    | with_reducible refine fe2 (fun _ _ => ?_) ?_
    | with_reducible refine fe3 (fun _ _ _ => ?_) ?_
    | with_reducible refine fe4 (fun _ _ _ _ => ?_) ?_
    | with_reducible refine fe5 (fun _ _ _ _ _ => ?_) ?_
    | with_reducible refine feI ?_ ?_
theorem f_X12_endMusic {a : Nat} {p1 : Int32} {S : PS} {Q : PS → Prop} (hQ : ∀ r0, Q r0 → X) : wp_X12_endMusic a p1 S Q → X := by
  unfold wp_X12_endMusic
  repeat' first
    | exact id
    | exact hQ _
    | with_reducible refine f_X12_bad (fun _ => ?_)
    | with_reducible refine f_X12_endNaming (fun _ => ?_)
    | with_reducible refine f_X12_item (fun _ _ => ?_)
    | with_reducible refine f_X12_openMusic (fun _ => ?_)
    | with_reducible refine f_X12_useBlock (fun _ => ?_)
    | with_reducible refine feS ?_
    | with_reducible refine feE (fun _ => ?_)
    | with_reducible refine feA ?_
    | with_reducible refine fe1 (fun _ => ?_) ?_
    | with_reducible refine fe2 (fun _ _ => ?_) ?_
    | with_reducible refine fe3 (fun _ _ _ => ?_) ?_
    | with_reducible refine fe4 (fun _ _ _ _ => ?_) ?_
    | with_reducible refine fe5 (fun _ _ _ _ _ => ?_) ?_
    | with_reducible refine feI ?_ ?_
theorem f_X12_readAll {a : Nat} {S : PS} {Q : Int32 → PS → Prop} (hQ : ∀ r0 r1, Q r0 r1 → X) : wp_X12_readAll a S Q → X := by
  unfold wp_X12_readAll
  repeat' first
    | exact id
    | exact hQ _ _
    | with_reducible refine f_X12_blanks (fun _ => ?_)
    | with_reducible refine f_X12_endMusic (fun _ => ?_)
    | with_reducible refine f_X12_here (fun _ _ => ?_)
    | with_reducible refine f_X12_item (fun _ _ => ?_)
    | with_reducible refine f_X12_openMusic (fun _ => ?_)
    | with_reducible refine f_X12_readItem (fun _ => ?_)
    | with_reducible refine feS ?_
    | with_reducible refine feE (fun _ => ?_)
    | with_reducible refine feA ?_
    | with_reducible refine fe1 (fun _ => ?_) ?_
    | with_reducible refine fe2 (fun _ _ => ?_) ?_
    | with_reducible refine fe3 (fun _ _ _ => ?_) ?_
    | with_reducible refine fe4 (fun _ _ _ _ => ?_) ?_
    | with_reducible refine fe5 (fun _ _ _ _ _ => ?_) ?_
    | with_reducible refine feI ?_ ?_
end
