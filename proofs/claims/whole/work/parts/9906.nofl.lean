/-! A reading that comes out good tells no fault. -/
def Gd (b : Nat) (v : Int32) (S : PS) : Prop := b ∈ pL S ∧ fI S 0 b = v
section
variable {b : Nat} {v : Int32}
theorem nj0  {T T' : (PS → Prop) → PS → Prop} {F F' : (PS → Prop) → Prop} (h1 : ∀ (K : PS → Prop) S1, Gd b v S1 → T (fun S1 => Gd b v S1 → K S1) S1 → T' K S1) (h2 : ∀ K : PS → Prop, F (fun S1 => Gd b v S1 → K S1) → F' K) : (∀ K : PS → Prop, (∀ S1, T K S1 → K S1) → F K) → ∀ K : PS → Prop, (∀ S1, T' K S1 → K S1) → F' K := fun H K hK => h2 K (H _ (fun S1 ht hg => hK S1 (h1 K S1 hg ht)))
theorem nj1 {α0 : Type} {T T' : (α0 → PS → Prop) → α0 → PS → Prop} {F F' : (α0 → PS → Prop) → Prop} (h1 : ∀ (K : α0 → PS → Prop) a0 S1, Gd b v S1 → T (fun a0 S1 => Gd b v S1 → K a0 S1) a0 S1 → T' K a0 S1) (h2 : ∀ K : α0 → PS → Prop, F (fun a0 S1 => Gd b v S1 → K a0 S1) → F' K) : (∀ K : α0 → PS → Prop, (∀ a0 S1, T K a0 S1 → K a0 S1) → F K) → ∀ K : α0 → PS → Prop, (∀ a0 S1, T' K a0 S1 → K a0 S1) → F' K := fun H K hK => h2 K (H _ (fun a0 S1 ht hg => hK a0 S1 (h1 K a0 S1 hg ht)))
theorem nj2 {α0 : Type} {α1 : Type} {T T' : (α0 → α1 → PS → Prop) → α0 → α1 → PS → Prop} {F F' : (α0 → α1 → PS → Prop) → Prop} (h1 : ∀ (K : α0 → α1 → PS → Prop) a0 a1 S1, Gd b v S1 → T (fun a0 a1 S1 => Gd b v S1 → K a0 a1 S1) a0 a1 S1 → T' K a0 a1 S1) (h2 : ∀ K : α0 → α1 → PS → Prop, F (fun a0 a1 S1 => Gd b v S1 → K a0 a1 S1) → F' K) : (∀ K : α0 → α1 → PS → Prop, (∀ a0 a1 S1, T K a0 a1 S1 → K a0 a1 S1) → F K) → ∀ K : α0 → α1 → PS → Prop, (∀ a0 a1 S1, T' K a0 a1 S1 → K a0 a1 S1) → F' K := fun H K hK => h2 K (H _ (fun a0 a1 S1 ht hg => hK a0 a1 S1 (h1 K a0 a1 S1 hg ht)))
theorem nj3 {α0 : Type} {α1 : Type} {α2 : Type} {T T' : (α0 → α1 → α2 → PS → Prop) → α0 → α1 → α2 → PS → Prop} {F F' : (α0 → α1 → α2 → PS → Prop) → Prop} (h1 : ∀ (K : α0 → α1 → α2 → PS → Prop) a0 a1 a2 S1, Gd b v S1 → T (fun a0 a1 a2 S1 => Gd b v S1 → K a0 a1 a2 S1) a0 a1 a2 S1 → T' K a0 a1 a2 S1) (h2 : ∀ K : α0 → α1 → α2 → PS → Prop, F (fun a0 a1 a2 S1 => Gd b v S1 → K a0 a1 a2 S1) → F' K) : (∀ K : α0 → α1 → α2 → PS → Prop, (∀ a0 a1 a2 S1, T K a0 a1 a2 S1 → K a0 a1 a2 S1) → F K) → ∀ K : α0 → α1 → α2 → PS → Prop, (∀ a0 a1 a2 S1, T' K a0 a1 a2 S1 → K a0 a1 a2 S1) → F' K := fun H K hK => h2 K (H _ (fun a0 a1 a2 S1 ht hg => hK a0 a1 a2 S1 (h1 K a0 a1 a2 S1 hg ht)))
theorem njc {T T' : (Int32 → PS → Prop) → Int32 → PS → Prop} {F F' : (Int32 → PS → Prop) → Prop} (h1 : ∀ (K : Int32 → PS → Prop) t S1, (t ≠ 0 → Gd b v S1) → T (fun t S1 => (t ≠ 0 → Gd b v S1) → K t S1) t S1 → T' K t S1) (h2 : ∀ K : Int32 → PS → Prop, F (fun t S1 => (t ≠ 0 → Gd b v S1) → K t S1) → F' K) : (∀ K : Int32 → PS → Prop, (∀ t S1, T K t S1 → K t S1) → F K) → ∀ K : Int32 → PS → Prop, (∀ t S1, T' K t S1 → K t S1) → F' K := fun H K hK => h2 K (H _ (fun t S1 ht hg => hK t S1 (h1 K t S1 hg ht)))
theorem nSI {S : PS} {j a : Nat} {x : Int32} {F F' : PS → Prop} (hg : Gd b v S) (hj : 0 ≠ j) (h : ∀ s, Gd b v s → F s → F' s) : (∀ s, s = sI S j a x → F s) → ∀ s, s = sI S j a x → F' s := fun H s hs => h s (by subst hs; exact ⟨hg.1, by rw [fI_sn _ _ _ _ _ hj]; exact hg.2⟩) (H s hs)
theorem nSL {S : PS} {j a : Nat} {x : Int64} {F F' : PS → Prop} (hg : Gd b v S) (h : ∀ s, Gd b v s → F s → F' s) : (∀ s, s = sL S j a x → F s) → ∀ s, s = sL S j a x → F' s := fun H s hs => h s (by subst hs; exact ⟨hg.1, hg.2⟩) (H s hs)
theorem nSR {S : PS} {j a : Nat} {x : Option Nat} {F F' : PS → Prop} (hg : Gd b v S) (h : ∀ s, Gd b v s → F s → F' s) : (∀ s, s = sR S j a x → F s) → ∀ s, s = sR S j a x → F' s := fun H s hs => h s (by subst hs; exact ⟨hg.1, hg.2⟩) (H s hs)
theorem nWI {S : PS} {r a i : Nat} {x : Int32} {F F' : PS → Prop} (hg : Gd b v S) (h : ∀ s, Gd b v s → F s → F' s) : (∀ s, s = wI S r a i x → F s) → ∀ s, s = wI S r a i x → F' s := fun H s hs => h s (by subst hs; exact ⟨hg.1, hg.2⟩) (H s hs)
theorem nWL {S : PS} {r a i : Nat} {x : Int64} {F F' : PS → Prop} (hg : Gd b v S) (h : ∀ s, Gd b v s → F s → F' s) : (∀ s, s = wL S r a i x → F s) → ∀ s, s = wL S r a i x → F' s := fun H s hs => h s (by subst hs; exact ⟨hg.1, hg.2⟩) (H s hs)
theorem nV {α : Type} {e : α} {F F' : α → Prop} (h : ∀ x, F x → F' x) : (∀ x, x = e → F x) → ∀ x, x = e → F' x := fun H x hx => h x (H x hx)
theorem nE {α : Type} {p F F' : α → Prop} (h : ∀ x, F x → F' x) : (∃ x, p x ∧ F x) → ∃ x, p x ∧ F' x := fun ⟨x, a, g⟩ => ⟨x, a, h x g⟩
theorem nAa {p F F' : Prop} (h : F → F') : (p ∧ F) → p ∧ F' := fun g => ⟨g.1, h g.2⟩
theorem nB {p p' F F' : Prop} (h0 : p → p') (h : F → F') : (p ∧ F) → p' ∧ F' := fun g => ⟨h0 g.1, h g.2⟩
theorem nL {α : Type} {F F' : α → Prop} (h : ∀ x, F x → F' x) : (∀ x, F x) → ∀ x, F' x := fun g x => h x (g x)
theorem nI0 {c : Prop} [Decidable c] {A B A' B' : Prop} (h1 : A → A') (h2 : B → B') : (if c then A else B) → if c then A' else B' := fun g => by split at g; (rw [if_pos (by assumption)]; exact h1 g); (rw [if_neg (by assumption)]; exact h2 g)
theorem nIz {r : Int32} {S1 : PS} {A B A' B' : Prop} (hr : r ≠ 0 → Gd b v S1) (h1 : A → A') (h2 : Gd b v S1 → B → B') : (if r = 0 then A else B) → if r = 0 then A' else B' := fun g => by split at g; (rw [if_pos (by assumption)]; exact h1 g); (rw [if_neg (by assumption)]; exact h2 (hr (by assumption)) g)
theorem n_X0_tell {a : Nat} {p1 p2 : Int32} {S : PS} {Q Q' : Int32 → PS → Prop} (_ : Gd b v S) (hQ : ∀ r S1, (r ≠ 0 → Gd b v S1) → Q r S1 → Q' r S1) : wp_X0_tell a p1 p2 S Q → wp_X0_tell a p1 p2 S Q' := by
  unfold wp_X0_tell
  exact fun H s hs s2 hs2 => hQ 0 s2 (fun h => absurd rfl h) (H s hs s2 hs2)
theorem n_X7_next {a : Nat} {S : PS} {Q Q' : Int32 → PS → Prop} (hg : Gd b v S) (hQ : ∀ r S1, Gd b v S1 → Q r S1 → Q' r S1) : wp_X7_next a S Q → wp_X7_next a S Q' := by
  unfold wp_X7_next
  repeat' first
    | exact hQ _ _ (by assumption)
    | exact fun h => h (by assumption)
    | with_reducible refine nSI (by assumption) (by decide) (fun _ _ => ?_)
    | with_reducible refine nSL (by assumption) (fun _ _ => ?_)
    | with_reducible refine nSR (by assumption) (fun _ _ => ?_)
    | with_reducible refine nWI (by assumption) (fun _ _ => ?_)
    | with_reducible refine nWL (by assumption) (fun _ _ => ?_)
    | with_reducible refine nV (fun _ => ?_)
    | with_reducible refine nE (fun _ => ?_)
    | with_reducible refine nj0 (b := b) (v := v) (fun _ _ _ => ?_) (fun _ => ?_)
    | with_reducible refine nj1 (b := b) (v := v) (fun _ _ _ _ => ?_) (fun _ => ?_)
    | with_reducible refine nj2 (b := b) (v := v) (fun _ _ _ _ _ => ?_) (fun _ => ?_)
    | with_reducible refine nj3 (b := b) (v := v) (fun _ _ _ _ _ _ => ?_) (fun _ => ?_)
    | with_reducible refine nIz (by assumption) ?_ (fun _ => ?_)
    | with_reducible refine nI0 ?_ ?_
    | with_reducible refine nAa ?_
    | with_reducible refine nB ?_ ?_
    | exact id
theorem n_X7_skipBlanks {a : Nat} {S : PS} {Q Q' : PS → Prop} (hg : Gd b v S) (hQ : ∀ S1, Gd b v S1 → Q S1 → Q' S1) : wp_X7_skipBlanks a S Q → wp_X7_skipBlanks a S Q' := by
  unfold wp_X7_skipBlanks
  repeat' first
    | exact hQ _ (by assumption)
    | exact fun h => h (by assumption)
    | with_reducible refine n_X7_next (by assumption) (fun _ _ _ => ?_)
    | with_reducible refine nSI (by assumption) (by decide) (fun _ _ => ?_)
    | with_reducible refine nSL (by assumption) (fun _ _ => ?_)
    | with_reducible refine nSR (by assumption) (fun _ _ => ?_)
    | with_reducible refine nWI (by assumption) (fun _ _ => ?_)
    | with_reducible refine nWL (by assumption) (fun _ _ => ?_)
    | with_reducible refine nV (fun _ => ?_)
    | with_reducible refine nE (fun _ => ?_)
    | with_reducible refine nj0 (b := b) (v := v) (fun _ _ _ => ?_) (fun _ => ?_)
    | with_reducible refine nj1 (b := b) (v := v) (fun _ _ _ _ => ?_) (fun _ => ?_)
    | with_reducible refine nj2 (b := b) (v := v) (fun _ _ _ _ _ => ?_) (fun _ => ?_)
    | with_reducible refine nj3 (b := b) (v := v) (fun _ _ _ _ _ _ => ?_) (fun _ => ?_)
    | with_reducible refine nIz (by assumption) ?_ (fun _ => ?_)
    | with_reducible refine nI0 ?_ ?_
    | with_reducible refine nAa ?_
    | with_reducible refine nB ?_ ?_
    | exact id
theorem n_J0_isLatin1_aae02 {a : Nat} {S : PS} {Q Q' : Int32 → PS → Prop} (hg : Gd b v S) (hQ : ∀ r S1, Gd b v S1 → Q r S1 → Q' r S1) : wp_J0_isLatin1_aae02 a S Q → wp_J0_isLatin1_aae02 a S Q' := by
  unfold wp_J0_isLatin1_aae02
  repeat' first
    | exact hQ _ _ (by assumption)
    | exact fun h => h (by assumption)
    | with_reducible refine nSI (by assumption) (by decide) (fun _ _ => ?_)
    | with_reducible refine nSL (by assumption) (fun _ _ => ?_)
    | with_reducible refine nSR (by assumption) (fun _ _ => ?_)
    | with_reducible refine nWI (by assumption) (fun _ _ => ?_)
    | with_reducible refine nWL (by assumption) (fun _ _ => ?_)
    | with_reducible refine nV (fun _ => ?_)
    | with_reducible refine nE (fun _ => ?_)
    | with_reducible refine nj0 (b := b) (v := v) (fun _ _ _ => ?_) (fun _ => ?_)
    | with_reducible refine nj1 (b := b) (v := v) (fun _ _ _ _ => ?_) (fun _ => ?_)
    | with_reducible refine nj2 (b := b) (v := v) (fun _ _ _ _ _ => ?_) (fun _ => ?_)
    | with_reducible refine nj3 (b := b) (v := v) (fun _ _ _ _ _ _ => ?_) (fun _ => ?_)
    | with_reducible refine nIz (by assumption) ?_ (fun _ => ?_)
    | with_reducible refine nI0 ?_ ?_
    | with_reducible refine nAa ?_
    | with_reducible refine nB ?_ ?_
    | exact id
theorem n_J0_coder_7d493 {a : Nat} {S : PS} {Q Q' : Int32 → PS → Prop} (hg : Gd b v S) (hQ : ∀ r S1, Gd b v S1 → Q r S1 → Q' r S1) : wp_J0_coder_7d493 a S Q → wp_J0_coder_7d493 a S Q' := by
  unfold wp_J0_coder_7d493
  repeat' first
    | exact hQ _ _ (by assumption)
    | exact fun h => h (by assumption)
    | with_reducible refine nSI (by assumption) (by decide) (fun _ _ => ?_)
    | with_reducible refine nSL (by assumption) (fun _ _ => ?_)
    | with_reducible refine nSR (by assumption) (fun _ _ => ?_)
    | with_reducible refine nWI (by assumption) (fun _ _ => ?_)
    | with_reducible refine nWL (by assumption) (fun _ _ => ?_)
    | with_reducible refine nV (fun _ => ?_)
    | with_reducible refine nE (fun _ => ?_)
    | with_reducible refine nj0 (b := b) (v := v) (fun _ _ _ => ?_) (fun _ => ?_)
    | with_reducible refine nj1 (b := b) (v := v) (fun _ _ _ _ => ?_) (fun _ => ?_)
    | with_reducible refine nj2 (b := b) (v := v) (fun _ _ _ _ _ => ?_) (fun _ => ?_)
    | with_reducible refine nj3 (b := b) (v := v) (fun _ _ _ _ _ _ => ?_) (fun _ => ?_)
    | with_reducible refine nIz (by assumption) ?_ (fun _ => ?_)
    | with_reducible refine nI0 ?_ ?_
    | with_reducible refine nAa ?_
    | with_reducible refine nB ?_ ?_
    | exact id
theorem n_J0_length_8abf5 {a : Nat} {S : PS} {Q Q' : Int32 → PS → Prop} (hg : Gd b v S) (hQ : ∀ r S1, Gd b v S1 → Q r S1 → Q' r S1) : wp_J0_length_8abf5 a S Q → wp_J0_length_8abf5 a S Q' := by
  unfold wp_J0_length_8abf5
  repeat' first
    | exact hQ _ _ (by assumption)
    | exact fun h => h (by assumption)
    | with_reducible refine n_J0_coder_7d493 (by assumption) (fun _ _ _ => ?_)
    | with_reducible refine nSI (by assumption) (by decide) (fun _ _ => ?_)
    | with_reducible refine nSL (by assumption) (fun _ _ => ?_)
    | with_reducible refine nSR (by assumption) (fun _ _ => ?_)
    | with_reducible refine nWI (by assumption) (fun _ _ => ?_)
    | with_reducible refine nWL (by assumption) (fun _ _ => ?_)
    | with_reducible refine nV (fun _ => ?_)
    | with_reducible refine nE (fun _ => ?_)
    | with_reducible refine nj0 (b := b) (v := v) (fun _ _ _ => ?_) (fun _ => ?_)
    | with_reducible refine nj1 (b := b) (v := v) (fun _ _ _ _ => ?_) (fun _ => ?_)
    | with_reducible refine nj2 (b := b) (v := v) (fun _ _ _ _ _ => ?_) (fun _ => ?_)
    | with_reducible refine nj3 (b := b) (v := v) (fun _ _ _ _ _ _ => ?_) (fun _ => ?_)
    | with_reducible refine nIz (by assumption) ?_ (fun _ => ?_)
    | with_reducible refine nI0 ?_ ?_
    | with_reducible refine nAa ?_
    | with_reducible refine nB ?_ ?_
    | exact id
theorem n_J1_canEncode_9a6ad {p1 : Int32} {S : PS} {Q Q' : Int32 → PS → Prop} (hg : Gd b v S) (hQ : ∀ r S1, Gd b v S1 → Q r S1 → Q' r S1) : wp_J1_canEncode_9a6ad p1 S Q → wp_J1_canEncode_9a6ad p1 S Q' := by
  unfold wp_J1_canEncode_9a6ad
  repeat' first
    | exact hQ _ _ (by assumption)
    | exact fun h => h (by assumption)
    | with_reducible refine nSI (by assumption) (by decide) (fun _ _ => ?_)
    | with_reducible refine nSL (by assumption) (fun _ _ => ?_)
    | with_reducible refine nSR (by assumption) (fun _ _ => ?_)
    | with_reducible refine nWI (by assumption) (fun _ _ => ?_)
    | with_reducible refine nWL (by assumption) (fun _ _ => ?_)
    | with_reducible refine nV (fun _ => ?_)
    | with_reducible refine nE (fun _ => ?_)
    | with_reducible refine nj0 (b := b) (v := v) (fun _ _ _ => ?_) (fun _ => ?_)
    | with_reducible refine nj1 (b := b) (v := v) (fun _ _ _ _ => ?_) (fun _ => ?_)
    | with_reducible refine nj2 (b := b) (v := v) (fun _ _ _ _ _ => ?_) (fun _ => ?_)
    | with_reducible refine nj3 (b := b) (v := v) (fun _ _ _ _ _ _ => ?_) (fun _ => ?_)
    | with_reducible refine nIz (by assumption) ?_ (fun _ => ?_)
    | with_reducible refine nI0 ?_ ?_
    | with_reducible refine nAa ?_
    | with_reducible refine nB ?_ ?_
    | exact id
theorem n_J1_indexOfChar_4cfef {p1 : Nat} {p2 : Int32} {p3 : Int32} {p4 : Int32} {S : PS} {Q Q' : Int32 → PS → Prop} (hg : Gd b v S) (hQ : ∀ r S1, Gd b v S1 → Q r S1 → Q' r S1) : wp_J1_indexOfChar_4cfef p1 p2 p3 p4 S Q → wp_J1_indexOfChar_4cfef p1 p2 p3 p4 S Q' := by
  unfold wp_J1_indexOfChar_4cfef
  repeat' first
    | exact hQ _ _ (by assumption)
    | exact fun h => h (by assumption)
    | with_reducible refine nSI (by assumption) (by decide) (fun _ _ => ?_)
    | with_reducible refine nSL (by assumption) (fun _ _ => ?_)
    | with_reducible refine nSR (by assumption) (fun _ _ => ?_)
    | with_reducible refine nWI (by assumption) (fun _ _ => ?_)
    | with_reducible refine nWL (by assumption) (fun _ _ => ?_)
    | with_reducible refine nV (fun _ => ?_)
    | with_reducible refine nE (fun _ => ?_)
    | with_reducible refine nj0 (b := b) (v := v) (fun _ _ _ => ?_) (fun _ => ?_)
    | with_reducible refine nj1 (b := b) (v := v) (fun _ _ _ _ => ?_) (fun _ => ?_)
    | with_reducible refine nj2 (b := b) (v := v) (fun _ _ _ _ _ => ?_) (fun _ => ?_)
    | with_reducible refine nj3 (b := b) (v := v) (fun _ _ _ _ _ _ => ?_) (fun _ => ?_)
    | with_reducible refine nIz (by assumption) ?_ (fun _ => ?_)
    | with_reducible refine nI0 ?_ ?_
    | with_reducible refine nAa ?_
    | with_reducible refine nB ?_ ?_
    | exact id
theorem n_J1_indexOf_4cfef {p1 : Nat} {p2 : Int32} {p3 : Int32} {p4 : Int32} {S : PS} {Q Q' : Int32 → PS → Prop} (hg : Gd b v S) (hQ : ∀ r S1, Gd b v S1 → Q r S1 → Q' r S1) : wp_J1_indexOf_4cfef p1 p2 p3 p4 S Q → wp_J1_indexOf_4cfef p1 p2 p3 p4 S Q' := by
  unfold wp_J1_indexOf_4cfef
  repeat' first
    | exact hQ _ _ (by assumption)
    | exact fun h => h (by assumption)
    | with_reducible refine n_J1_canEncode_9a6ad (by assumption) (fun _ _ _ => ?_)
    | with_reducible refine n_J1_indexOfChar_4cfef (by assumption) (fun _ _ _ => ?_)
    | with_reducible refine nSI (by assumption) (by decide) (fun _ _ => ?_)
    | with_reducible refine nSL (by assumption) (fun _ _ => ?_)
    | with_reducible refine nSR (by assumption) (fun _ _ => ?_)
    | with_reducible refine nWI (by assumption) (fun _ _ => ?_)
    | with_reducible refine nWL (by assumption) (fun _ _ => ?_)
    | with_reducible refine nV (fun _ => ?_)
    | with_reducible refine nE (fun _ => ?_)
    | with_reducible refine nj0 (b := b) (v := v) (fun _ _ _ => ?_) (fun _ => ?_)
    | with_reducible refine nj1 (b := b) (v := v) (fun _ _ _ _ => ?_) (fun _ => ?_)
    | with_reducible refine nj2 (b := b) (v := v) (fun _ _ _ _ _ => ?_) (fun _ => ?_)
    | with_reducible refine nj3 (b := b) (v := v) (fun _ _ _ _ _ _ => ?_) (fun _ => ?_)
    | with_reducible refine nIz (by assumption) ?_ (fun _ => ?_)
    | with_reducible refine nI0 ?_ ?_
    | with_reducible refine nAa ?_
    | with_reducible refine nB ?_ ?_
    | exact id
theorem n_J0_indexOf_7cf53 {a : Nat} {p1 : Int32} {p2 : Int32} {S : PS} {Q Q' : Int32 → PS → Prop} (hg : Gd b v S) (hQ : ∀ r S1, Gd b v S1 → Q r S1 → Q' r S1) : wp_J0_indexOf_7cf53 a p1 p2 S Q → wp_J0_indexOf_7cf53 a p1 p2 S Q' := by
  unfold wp_J0_indexOf_7cf53
  repeat' first
    | exact hQ _ _ (by assumption)
    | exact fun h => h (by assumption)
    | with_reducible refine n_J0_isLatin1_aae02 (by assumption) (fun _ _ _ => ?_)
    | with_reducible refine n_J0_length_8abf5 (by assumption) (fun _ _ _ => ?_)
    | with_reducible refine n_J1_indexOf_4cfef (by assumption) (fun _ _ _ => ?_)
    | with_reducible refine nSI (by assumption) (by decide) (fun _ _ => ?_)
    | with_reducible refine nSL (by assumption) (fun _ _ => ?_)
    | with_reducible refine nSR (by assumption) (fun _ _ => ?_)
    | with_reducible refine nWI (by assumption) (fun _ _ => ?_)
    | with_reducible refine nWL (by assumption) (fun _ _ => ?_)
    | with_reducible refine nV (fun _ => ?_)
    | with_reducible refine nE (fun _ => ?_)
    | with_reducible refine nj0 (b := b) (v := v) (fun _ _ _ => ?_) (fun _ => ?_)
    | with_reducible refine nj1 (b := b) (v := v) (fun _ _ _ _ => ?_) (fun _ => ?_)
    | with_reducible refine nj2 (b := b) (v := v) (fun _ _ _ _ _ => ?_) (fun _ => ?_)
    | with_reducible refine nj3 (b := b) (v := v) (fun _ _ _ _ _ _ => ?_) (fun _ => ?_)
    | with_reducible refine nIz (by assumption) ?_ (fun _ => ?_)
    | with_reducible refine nI0 ?_ ?_
    | with_reducible refine nAa ?_
    | with_reducible refine nB ?_ ?_
    | exact id
theorem n_J0_indexOf_0f7a4 {a : Nat} {p1 : Int32} {S : PS} {Q Q' : Int32 → PS → Prop} (hg : Gd b v S) (hQ : ∀ r S1, Gd b v S1 → Q r S1 → Q' r S1) : wp_J0_indexOf_0f7a4 a p1 S Q → wp_J0_indexOf_0f7a4 a p1 S Q' := by
  unfold wp_J0_indexOf_0f7a4
  repeat' first
    | exact hQ _ _ (by assumption)
    | exact fun h => h (by assumption)
    | with_reducible refine n_J0_indexOf_7cf53 (by assumption) (fun _ _ _ => ?_)
    | with_reducible refine nSI (by assumption) (by decide) (fun _ _ => ?_)
    | with_reducible refine nSL (by assumption) (fun _ _ => ?_)
    | with_reducible refine nSR (by assumption) (fun _ _ => ?_)
    | with_reducible refine nWI (by assumption) (fun _ _ => ?_)
    | with_reducible refine nWL (by assumption) (fun _ _ => ?_)
    | with_reducible refine nV (fun _ => ?_)
    | with_reducible refine nE (fun _ => ?_)
    | with_reducible refine nj0 (b := b) (v := v) (fun _ _ _ => ?_) (fun _ => ?_)
    | with_reducible refine nj1 (b := b) (v := v) (fun _ _ _ _ => ?_) (fun _ => ?_)
    | with_reducible refine nj2 (b := b) (v := v) (fun _ _ _ _ _ => ?_) (fun _ => ?_)
    | with_reducible refine nj3 (b := b) (v := v) (fun _ _ _ _ _ _ => ?_) (fun _ => ?_)
    | with_reducible refine nIz (by assumption) ?_ (fun _ => ?_)
    | with_reducible refine nI0 ?_ ?_
    | with_reducible refine nAa ?_
    | with_reducible refine nB ?_ ?_
    | exact id
theorem n_X6_open {a : Nat} {p1 : Int32} {S : PS} {Q Q' : Int32 → PS → Prop} (hg : Gd b v S) (hQ : ∀ r S1, Gd b v S1 → Q r S1 → Q' r S1) : wp_X6_open a p1 S Q → wp_X6_open a p1 S Q' := by
  unfold wp_X6_open
  repeat' first
    | exact hQ _ _ (by assumption)
    | exact fun h => h (by assumption)
    | with_reducible refine nSI (by assumption) (by decide) (fun _ _ => ?_)
    | with_reducible refine nSL (by assumption) (fun _ _ => ?_)
    | with_reducible refine nSR (by assumption) (fun _ _ => ?_)
    | with_reducible refine nWI (by assumption) (fun _ _ => ?_)
    | with_reducible refine nWL (by assumption) (fun _ _ => ?_)
    | with_reducible refine nV (fun _ => ?_)
    | with_reducible refine nE (fun _ => ?_)
    | with_reducible refine nj0 (b := b) (v := v) (fun _ _ _ => ?_) (fun _ => ?_)
    | with_reducible refine nj1 (b := b) (v := v) (fun _ _ _ _ => ?_) (fun _ => ?_)
    | with_reducible refine nj2 (b := b) (v := v) (fun _ _ _ _ _ => ?_) (fun _ => ?_)
    | with_reducible refine nj3 (b := b) (v := v) (fun _ _ _ _ _ _ => ?_) (fun _ => ?_)
    | with_reducible refine nIz (by assumption) ?_ (fun _ => ?_)
    | with_reducible refine nI0 ?_ ?_
    | with_reducible refine nAa ?_
    | with_reducible refine nB ?_ ?_
    | exact id
theorem n_X6_holds {a : Nat} {p1 : Int32} {S : PS} {Q Q' : Int32 → PS → Prop} (hg : Gd b v S) (hQ : ∀ r S1, Gd b v S1 → Q r S1 → Q' r S1) : wp_X6_holds a p1 S Q → wp_X6_holds a p1 S Q' := by
  unfold wp_X6_holds
  repeat' first
    | exact hQ _ _ (by assumption)
    | exact fun h => h (by assumption)
    | with_reducible refine nSI (by assumption) (by decide) (fun _ _ => ?_)
    | with_reducible refine nSL (by assumption) (fun _ _ => ?_)
    | with_reducible refine nSR (by assumption) (fun _ _ => ?_)
    | with_reducible refine nWI (by assumption) (fun _ _ => ?_)
    | with_reducible refine nWL (by assumption) (fun _ _ => ?_)
    | with_reducible refine nV (fun _ => ?_)
    | with_reducible refine nE (fun _ => ?_)
    | with_reducible refine nj0 (b := b) (v := v) (fun _ _ _ => ?_) (fun _ => ?_)
    | with_reducible refine nj1 (b := b) (v := v) (fun _ _ _ _ => ?_) (fun _ => ?_)
    | with_reducible refine nj2 (b := b) (v := v) (fun _ _ _ _ _ => ?_) (fun _ => ?_)
    | with_reducible refine nj3 (b := b) (v := v) (fun _ _ _ _ _ _ => ?_) (fun _ => ?_)
    | with_reducible refine nIz (by assumption) ?_ (fun _ => ?_)
    | with_reducible refine nI0 ?_ ?_
    | with_reducible refine nAa ?_
    | with_reducible refine nB ?_ ?_
    | exact id
theorem n_X6_close {a : Nat} {p1 : Int32} {S : PS} {Q Q' : PS → Prop} (hg : Gd b v S) (hQ : ∀ S1, Gd b v S1 → Q S1 → Q' S1) : wp_X6_close a p1 S Q → wp_X6_close a p1 S Q' := by
  unfold wp_X6_close
  repeat' first
    | exact hQ _ (by assumption)
    | exact fun h => h (by assumption)
    | with_reducible refine n_X6_holds (by assumption) (fun _ _ _ => ?_)
    | with_reducible refine nSI (by assumption) (by decide) (fun _ _ => ?_)
    | with_reducible refine nSL (by assumption) (fun _ _ => ?_)
    | with_reducible refine nSR (by assumption) (fun _ _ => ?_)
    | with_reducible refine nWI (by assumption) (fun _ _ => ?_)
    | with_reducible refine nWL (by assumption) (fun _ _ => ?_)
    | with_reducible refine nV (fun _ => ?_)
    | with_reducible refine nE (fun _ => ?_)
    | with_reducible refine nj0 (b := b) (v := v) (fun _ _ _ => ?_) (fun _ => ?_)
    | with_reducible refine nj1 (b := b) (v := v) (fun _ _ _ _ => ?_) (fun _ => ?_)
    | with_reducible refine nj2 (b := b) (v := v) (fun _ _ _ _ _ => ?_) (fun _ => ?_)
    | with_reducible refine nj3 (b := b) (v := v) (fun _ _ _ _ _ _ => ?_) (fun _ => ?_)
    | with_reducible refine nIz (by assumption) ?_ (fun _ => ?_)
    | with_reducible refine nI0 ?_ ?_
    | with_reducible refine nAa ?_
    | with_reducible refine nB ?_ ?_
    | exact id
theorem n_X7_refuse {a : Nat} {S : PS} {Q Q' : Int32 → PS → Prop} (hg : Gd b v S) (hQ : ∀ r S1, (r ≠ 0 → Gd b v S1) → Q r S1 → Q' r S1) : wp_X7_refuse a S Q → wp_X7_refuse a S Q' := by
  unfold wp_X7_refuse
  repeat' first
    | exact hQ _ _ (fun _ => by assumption)
    | exact hQ _ _ (fun h => absurd rfl h)
    | exact hQ _ _ (by assumption)
    | exact fun h => h (by assumption)
    | with_reducible refine n_X0_tell (by assumption) (fun _ _ _ => ?_)
    | with_reducible refine nSI (by assumption) (by decide) (fun _ _ => ?_)
    | with_reducible refine nSL (by assumption) (fun _ _ => ?_)
    | with_reducible refine nSR (by assumption) (fun _ _ => ?_)
    | with_reducible refine nWI (by assumption) (fun _ _ => ?_)
    | with_reducible refine nWL (by assumption) (fun _ _ => ?_)
    | with_reducible refine nV (fun _ => ?_)
    | with_reducible refine nE (fun _ => ?_)
    | with_reducible refine nj0 (b := b) (v := v) (fun _ _ _ => ?_) (fun _ => ?_)
    | with_reducible refine nj1 (b := b) (v := v) (fun _ _ _ _ => ?_) (fun _ => ?_)
    | with_reducible refine nj2 (b := b) (v := v) (fun _ _ _ _ _ => ?_) (fun _ => ?_)
    | with_reducible refine nj3 (b := b) (v := v) (fun _ _ _ _ _ _ => ?_) (fun _ => ?_)
    | with_reducible refine nIz (by assumption) ?_ (fun _ => ?_)
    | with_reducible refine nI0 ?_ ?_
    | with_reducible refine nAa ?_
    | with_reducible refine nB ?_ ?_
    | exact id
theorem n_X7_isNameLetter {p1 : Int32} {S : PS} {Q Q' : Int32 → PS → Prop} (hg : Gd b v S) (hQ : ∀ r S1, Gd b v S1 → Q r S1 → Q' r S1) : wp_X7_isNameLetter p1 S Q → wp_X7_isNameLetter p1 S Q' := by
  unfold wp_X7_isNameLetter
  repeat' first
    | exact hQ _ _ (by assumption)
    | exact fun h => h (by assumption)
    | with_reducible refine nSI (by assumption) (by decide) (fun _ _ => ?_)
    | with_reducible refine nSL (by assumption) (fun _ _ => ?_)
    | with_reducible refine nSR (by assumption) (fun _ _ => ?_)
    | with_reducible refine nWI (by assumption) (fun _ _ => ?_)
    | with_reducible refine nWL (by assumption) (fun _ _ => ?_)
    | with_reducible refine nV (fun _ => ?_)
    | with_reducible refine nE (fun _ => ?_)
    | with_reducible refine nj0 (b := b) (v := v) (fun _ _ _ => ?_) (fun _ => ?_)
    | with_reducible refine nj1 (b := b) (v := v) (fun _ _ _ _ => ?_) (fun _ => ?_)
    | with_reducible refine nj2 (b := b) (v := v) (fun _ _ _ _ _ => ?_) (fun _ => ?_)
    | with_reducible refine nj3 (b := b) (v := v) (fun _ _ _ _ _ _ => ?_) (fun _ => ?_)
    | with_reducible refine nIz (by assumption) ?_ (fun _ => ?_)
    | with_reducible refine nI0 ?_ ?_
    | with_reducible refine nAa ?_
    | with_reducible refine nB ?_ ?_
    | exact id
theorem n_X7_findName {a : Nat} {S : PS} {Q Q' : Int32 → PS → Prop} (hg : Gd b v S) (hQ : ∀ r S1, (r ≠ 0 → Gd b v S1) → Q r S1 → Q' r S1) : wp_X7_findName a S Q → wp_X7_findName a S Q' := by
  unfold wp_X7_findName
  repeat' first
    | exact hQ _ _ (fun _ => by assumption)
    | exact hQ _ _ (fun h => absurd rfl h)
    | exact hQ _ _ (by assumption)
    | exact fun h => h (by assumption)
    | with_reducible refine n_X7_skipBlanks (by assumption) (fun _ _ => ?_)
    | with_reducible refine n_X7_refuse (by assumption) (fun _ _ _ => ?_)
    | with_reducible refine n_X7_next (by assumption) (fun _ _ _ => ?_)
    | with_reducible refine n_X7_isNameLetter (by assumption) (fun _ _ _ => ?_)
    | with_reducible refine nSI (by assumption) (by decide) (fun _ _ => ?_)
    | with_reducible refine nSL (by assumption) (fun _ _ => ?_)
    | with_reducible refine nSR (by assumption) (fun _ _ => ?_)
    | with_reducible refine nWI (by assumption) (fun _ _ => ?_)
    | with_reducible refine nWL (by assumption) (fun _ _ => ?_)
    | with_reducible refine nV (fun _ => ?_)
    | with_reducible refine nE (fun _ => ?_)
    | with_reducible refine nj0 (b := b) (v := v) (fun _ _ _ => ?_) (fun _ => ?_)
    | with_reducible refine nj1 (b := b) (v := v) (fun _ _ _ _ => ?_) (fun _ => ?_)
    | with_reducible refine nj2 (b := b) (v := v) (fun _ _ _ _ _ => ?_) (fun _ => ?_)
    | with_reducible refine nj3 (b := b) (v := v) (fun _ _ _ _ _ _ => ?_) (fun _ => ?_)
    | with_reducible refine nIz (by assumption) ?_ (fun _ => ?_)
    | with_reducible refine nI0 ?_ ?_
    | with_reducible refine nAa ?_
    | with_reducible refine nB ?_ ?_
    | exact id
theorem n_X7_indexOfParameter {a : Nat} {S : PS} {Q Q' : Int32 → PS → Prop} (hg : Gd b v S) (hQ : ∀ r S1, Gd b v S1 → Q r S1 → Q' r S1) : wp_X7_indexOfParameter a S Q → wp_X7_indexOfParameter a S Q' := by
  unfold wp_X7_indexOfParameter
  repeat' first
    | exact hQ _ _ (by assumption)
    | exact fun h => h (by assumption)
    | with_reducible refine nSI (by assumption) (by decide) (fun _ _ => ?_)
    | with_reducible refine nSL (by assumption) (fun _ _ => ?_)
    | with_reducible refine nSR (by assumption) (fun _ _ => ?_)
    | with_reducible refine nWI (by assumption) (fun _ _ => ?_)
    | with_reducible refine nWL (by assumption) (fun _ _ => ?_)
    | with_reducible refine nV (fun _ => ?_)
    | with_reducible refine nE (fun _ => ?_)
    | with_reducible refine nj0 (b := b) (v := v) (fun _ _ _ => ?_) (fun _ => ?_)
    | with_reducible refine nj1 (b := b) (v := v) (fun _ _ _ _ => ?_) (fun _ => ?_)
    | with_reducible refine nj2 (b := b) (v := v) (fun _ _ _ _ _ => ?_) (fun _ => ?_)
    | with_reducible refine nj3 (b := b) (v := v) (fun _ _ _ _ _ _ => ?_) (fun _ => ?_)
    | with_reducible refine nIz (by assumption) ?_ (fun _ => ?_)
    | with_reducible refine nI0 ?_ ?_
    | with_reducible refine nAa ?_
    | with_reducible refine nB ?_ ?_
    | exact id
theorem n_X6_indexOfName {a : Nat} {p1 : Int32} {S : PS} {Q Q' : Int32 → PS → Prop} (hg : Gd b v S) (hQ : ∀ r S1, Gd b v S1 → Q r S1 → Q' r S1) : wp_X6_indexOfName a p1 S Q → wp_X6_indexOfName a p1 S Q' := by
  unfold wp_X6_indexOfName
  repeat' first
    | exact hQ _ _ (by assumption)
    | exact fun h => h (by assumption)
    | with_reducible refine nSI (by assumption) (by decide) (fun _ _ => ?_)
    | with_reducible refine nSL (by assumption) (fun _ _ => ?_)
    | with_reducible refine nSR (by assumption) (fun _ _ => ?_)
    | with_reducible refine nWI (by assumption) (fun _ _ => ?_)
    | with_reducible refine nWL (by assumption) (fun _ _ => ?_)
    | with_reducible refine nV (fun _ => ?_)
    | with_reducible refine nE (fun _ => ?_)
    | with_reducible refine nj0 (b := b) (v := v) (fun _ _ _ => ?_) (fun _ => ?_)
    | with_reducible refine nj1 (b := b) (v := v) (fun _ _ _ _ => ?_) (fun _ => ?_)
    | with_reducible refine nj2 (b := b) (v := v) (fun _ _ _ _ _ => ?_) (fun _ => ?_)
    | with_reducible refine nj3 (b := b) (v := v) (fun _ _ _ _ _ _ => ?_) (fun _ => ?_)
    | with_reducible refine nIz (by assumption) ?_ (fun _ => ?_)
    | with_reducible refine nI0 ?_ ?_
    | with_reducible refine nAa ?_
    | with_reducible refine nB ?_ ?_
    | exact id
theorem n_X6_setNumbers {a : Nat} {p1 : Int32} {p2 : Int32} {p3 : Int32} {S : PS} {Q Q' : PS → Prop} (hg : Gd b v S) (hQ : ∀ S1, Gd b v S1 → Q S1 → Q' S1) : wp_X6_setNumbers a p1 p2 p3 S Q → wp_X6_setNumbers a p1 p2 p3 S Q' := by
  unfold wp_X6_setNumbers
  repeat' first
    | exact hQ _ (by assumption)
    | exact fun h => h (by assumption)
    | with_reducible refine n_X6_holds (by assumption) (fun _ _ _ => ?_)
    | with_reducible refine nSI (by assumption) (by decide) (fun _ _ => ?_)
    | with_reducible refine nSL (by assumption) (fun _ _ => ?_)
    | with_reducible refine nSR (by assumption) (fun _ _ => ?_)
    | with_reducible refine nWI (by assumption) (fun _ _ => ?_)
    | with_reducible refine nWL (by assumption) (fun _ _ => ?_)
    | with_reducible refine nV (fun _ => ?_)
    | with_reducible refine nE (fun _ => ?_)
    | with_reducible refine nj0 (b := b) (v := v) (fun _ _ _ => ?_) (fun _ => ?_)
    | with_reducible refine nj1 (b := b) (v := v) (fun _ _ _ _ => ?_) (fun _ => ?_)
    | with_reducible refine nj2 (b := b) (v := v) (fun _ _ _ _ _ => ?_) (fun _ => ?_)
    | with_reducible refine nj3 (b := b) (v := v) (fun _ _ _ _ _ _ => ?_) (fun _ => ?_)
    | with_reducible refine nIz (by assumption) ?_ (fun _ => ?_)
    | with_reducible refine nI0 ?_ ?_
    | with_reducible refine nAa ?_
    | with_reducible refine nB ?_ ?_
    | exact id
theorem n_X6_parametersOf {a : Nat} {p1 : Int32} {S : PS} {Q Q' : Int32 → PS → Prop} (hg : Gd b v S) (hQ : ∀ r S1, Gd b v S1 → Q r S1 → Q' r S1) : wp_X6_parametersOf a p1 S Q → wp_X6_parametersOf a p1 S Q' := by
  unfold wp_X6_parametersOf
  repeat' first
    | exact hQ _ _ (by assumption)
    | exact fun h => h (by assumption)
    | with_reducible refine nSI (by assumption) (by decide) (fun _ _ => ?_)
    | with_reducible refine nSL (by assumption) (fun _ _ => ?_)
    | with_reducible refine nSR (by assumption) (fun _ _ => ?_)
    | with_reducible refine nWI (by assumption) (fun _ _ => ?_)
    | with_reducible refine nWL (by assumption) (fun _ _ => ?_)
    | with_reducible refine nV (fun _ => ?_)
    | with_reducible refine nE (fun _ => ?_)
    | with_reducible refine nj0 (b := b) (v := v) (fun _ _ _ => ?_) (fun _ => ?_)
    | with_reducible refine nj1 (b := b) (v := v) (fun _ _ _ _ => ?_) (fun _ => ?_)
    | with_reducible refine nj2 (b := b) (v := v) (fun _ _ _ _ _ => ?_) (fun _ => ?_)
    | with_reducible refine nj3 (b := b) (v := v) (fun _ _ _ _ _ _ => ?_) (fun _ => ?_)
    | with_reducible refine nIz (by assumption) ?_ (fun _ => ?_)
    | with_reducible refine nI0 ?_ ?_
    | with_reducible refine nAa ?_
    | with_reducible refine nB ?_ ?_
    | exact id
theorem n_X7_take {a : Nat} {p1 : Int32} {S : PS} {Q Q' : Int32 → PS → Prop} (hg : Gd b v S) (hQ : ∀ r S1, Gd b v S1 → Q r S1 → Q' r S1) : wp_X7_take a p1 S Q → wp_X7_take a p1 S Q' := by
  unfold wp_X7_take
  repeat' first
    | exact hQ _ _ (by assumption)
    | exact fun h => h (by assumption)
    | with_reducible refine n_X7_next (by assumption) (fun _ _ _ => ?_)
    | with_reducible refine nSI (by assumption) (by decide) (fun _ _ => ?_)
    | with_reducible refine nSL (by assumption) (fun _ _ => ?_)
    | with_reducible refine nSR (by assumption) (fun _ _ => ?_)
    | with_reducible refine nWI (by assumption) (fun _ _ => ?_)
    | with_reducible refine nWL (by assumption) (fun _ _ => ?_)
    | with_reducible refine nV (fun _ => ?_)
    | with_reducible refine nE (fun _ => ?_)
    | with_reducible refine nj0 (b := b) (v := v) (fun _ _ _ => ?_) (fun _ => ?_)
    | with_reducible refine nj1 (b := b) (v := v) (fun _ _ _ _ => ?_) (fun _ => ?_)
    | with_reducible refine nj2 (b := b) (v := v) (fun _ _ _ _ _ => ?_) (fun _ => ?_)
    | with_reducible refine nj3 (b := b) (v := v) (fun _ _ _ _ _ _ => ?_) (fun _ => ?_)
    | with_reducible refine nIz (by assumption) ?_ (fun _ => ?_)
    | with_reducible refine nI0 ?_ ?_
    | with_reducible refine nAa ?_
    | with_reducible refine nB ?_ ?_
    | exact id
theorem n_X7_must {a : Nat} {p1 : Int32} {S : PS} {Q Q' : Int32 → PS → Prop} (hg : Gd b v S) (hQ : ∀ r S1, (r ≠ 0 → Gd b v S1) → Q r S1 → Q' r S1) : wp_X7_must a p1 S Q → wp_X7_must a p1 S Q' := by
  unfold wp_X7_must
  repeat' first
    | exact hQ _ _ (fun _ => by assumption)
    | exact hQ _ _ (fun h => absurd rfl h)
    | exact hQ _ _ (by assumption)
    | exact fun h => h (by assumption)
    | with_reducible refine n_X7_take (by assumption) (fun _ _ _ => ?_)
    | with_reducible refine n_X7_refuse (by assumption) (fun _ _ _ => ?_)
    | with_reducible refine nSI (by assumption) (by decide) (fun _ _ => ?_)
    | with_reducible refine nSL (by assumption) (fun _ _ => ?_)
    | with_reducible refine nSR (by assumption) (fun _ _ => ?_)
    | with_reducible refine nWI (by assumption) (fun _ _ => ?_)
    | with_reducible refine nWL (by assumption) (fun _ _ => ?_)
    | with_reducible refine nV (fun _ => ?_)
    | with_reducible refine nE (fun _ => ?_)
    | with_reducible refine nj0 (b := b) (v := v) (fun _ _ _ => ?_) (fun _ => ?_)
    | with_reducible refine nj1 (b := b) (v := v) (fun _ _ _ _ => ?_) (fun _ => ?_)
    | with_reducible refine nj2 (b := b) (v := v) (fun _ _ _ _ _ => ?_) (fun _ => ?_)
    | with_reducible refine nj3 (b := b) (v := v) (fun _ _ _ _ _ _ => ?_) (fun _ => ?_)
    | with_reducible refine nIz (by assumption) ?_ (fun _ => ?_)
    | with_reducible refine nI0 ?_ ?_
    | with_reducible refine nAa ?_
    | with_reducible refine nB ?_ ?_
    | exact id
theorem n_X7_block {M : Nat → PS → (Int32 → PS → Prop) → Prop} {a : Nat} {S : PS} {Q Q' : Int32 → PS → Prop} (hM : ∀ {a : Nat} {S : PS} {Q Q' : Int32 → PS → Prop}, Gd b v S → (∀ r S1, (r ≠ 0 → Gd b v S1) → Q r S1 → Q' r S1) → M a S Q → M a S Q') (hg : Gd b v S) (hQ : ∀ r S1, (r ≠ 0 → Gd b v S1) → Q r S1 → Q' r S1) : wp_X7_block M a S Q → wp_X7_block M a S Q' := by
  unfold wp_X7_block
  repeat' first
    | exact hQ _ _ (fun _ => by assumption)
    | exact hQ _ _ (fun h => absurd rfl h)
    | exact hQ _ _ (by assumption)
    | exact fun h => h (by assumption)
    | with_reducible refine n_X7_skipBlanks (by assumption) (fun _ _ => ?_)
    | with_reducible refine n_X7_next (by assumption) (fun _ _ _ => ?_)
    | with_reducible refine n_X7_must (by assumption) (fun _ _ _ => ?_)
    | with_reducible refine n_X0_tell (by assumption) (fun _ _ _ => ?_)
    | with_reducible refine n_X7_refuse (by assumption) (fun _ _ _ => ?_)
    | with_reducible refine hM (by assumption) (fun _ _ _ => ?_)
    | with_reducible refine nSI (by assumption) (by decide) (fun _ _ => ?_)
    | with_reducible refine nSL (by assumption) (fun _ _ => ?_)
    | with_reducible refine nSR (by assumption) (fun _ _ => ?_)
    | with_reducible refine nWI (by assumption) (fun _ _ => ?_)
    | with_reducible refine nWL (by assumption) (fun _ _ => ?_)
    | with_reducible refine nV (fun _ => ?_)
    | with_reducible refine nE (fun _ => ?_)
    | with_reducible refine nj0 (b := b) (v := v) (fun _ _ _ => ?_) (fun _ => ?_)
    | with_reducible refine nj1 (b := b) (v := v) (fun _ _ _ _ => ?_) (fun _ => ?_)
    | with_reducible refine nj2 (b := b) (v := v) (fun _ _ _ _ _ => ?_) (fun _ => ?_)
    | with_reducible refine nj3 (b := b) (v := v) (fun _ _ _ _ _ _ => ?_) (fun _ => ?_)
    | with_reducible refine nIz (by assumption) ?_ (fun _ => ?_)
    | with_reducible refine nI0 ?_ ?_
    | with_reducible refine nAa ?_
    | with_reducible refine nB ?_ ?_
    | exact id
theorem n_X7_use {M : Nat → PS → (Int32 → PS → Prop) → Prop} {a : Nat} {p1 : Int32} {S : PS} {Q Q' : Int32 → PS → Prop} (hM : ∀ {a : Nat} {S : PS} {Q Q' : Int32 → PS → Prop}, Gd b v S → (∀ r S1, (r ≠ 0 → Gd b v S1) → Q r S1 → Q' r S1) → M a S Q → M a S Q') (hg : Gd b v S) (hQ : ∀ r S1, (r ≠ 0 → Gd b v S1) → Q r S1 → Q' r S1) : wp_X7_use M a p1 S Q → wp_X7_use M a p1 S Q' := by
  unfold wp_X7_use
  repeat' first
    | exact hQ _ _ (fun _ => by assumption)
    | exact hQ _ _ (fun h => absurd rfl h)
    | exact hQ _ _ (by assumption)
    | exact fun h => h (by assumption)
    | with_reducible refine n_X7_findName (by assumption) (fun _ _ _ => ?_)
    | with_reducible refine n_X7_indexOfParameter (by assumption) (fun _ _ _ => ?_)
    | with_reducible refine n_X6_indexOfName (by assumption) (fun _ _ _ => ?_)
    | with_reducible refine n_X0_tell (by assumption) (fun _ _ _ => ?_)
    | with_reducible refine n_X6_setNumbers (by assumption) (fun _ _ => ?_)
    | with_reducible refine n_X6_parametersOf (by assumption) (fun _ _ _ => ?_)
    | with_reducible refine n_X6_open (by assumption) (fun _ _ _ => ?_)
    | with_reducible refine n_X7_block hM (by assumption) (fun _ _ _ => ?_)
    | with_reducible refine n_X6_close (by assumption) (fun _ _ => ?_)
    | with_reducible refine hM (by assumption) (fun _ _ _ => ?_)
    | with_reducible refine nSI (by assumption) (by decide) (fun _ _ => ?_)
    | with_reducible refine nSL (by assumption) (fun _ _ => ?_)
    | with_reducible refine nSR (by assumption) (fun _ _ => ?_)
    | with_reducible refine nWI (by assumption) (fun _ _ => ?_)
    | with_reducible refine nWL (by assumption) (fun _ _ => ?_)
    | with_reducible refine nV (fun _ => ?_)
    | with_reducible refine nE (fun _ => ?_)
    | with_reducible refine nj0 (b := b) (v := v) (fun _ _ _ => ?_) (fun _ => ?_)
    | with_reducible refine nj1 (b := b) (v := v) (fun _ _ _ _ => ?_) (fun _ => ?_)
    | with_reducible refine nj2 (b := b) (v := v) (fun _ _ _ _ _ => ?_) (fun _ => ?_)
    | with_reducible refine nj3 (b := b) (v := v) (fun _ _ _ _ _ _ => ?_) (fun _ => ?_)
    | with_reducible refine nIz (by assumption) ?_ (fun _ => ?_)
    | with_reducible refine nI0 ?_ ?_
    | with_reducible refine nAa ?_
    | with_reducible refine nB ?_ ?_
    | exact id
theorem n_X7_newName {a : Nat} {p1 : Int32} {p2 : Int32} {S : PS} {Q Q' : Int32 → PS → Prop} (hg : Gd b v S) (hQ : ∀ r S1, (r ≠ 0 → Gd b v S1) → Q r S1 → Q' r S1) : wp_X7_newName a p1 p2 S Q → wp_X7_newName a p1 p2 S Q' := by
  unfold wp_X7_newName
  repeat' first
    | exact hQ _ _ (fun _ => by assumption)
    | exact hQ _ _ (fun h => absurd rfl h)
    | exact hQ _ _ (by assumption)
    | exact fun h => h (by assumption)
    | with_reducible refine n_X0_tell (by assumption) (fun _ _ _ => ?_)
    | with_reducible refine n_X6_indexOfName (by assumption) (fun _ _ _ => ?_)
    | with_reducible refine n_X7_indexOfParameter (by assumption) (fun _ _ _ => ?_)
    | with_reducible refine nSI (by assumption) (by decide) (fun _ _ => ?_)
    | with_reducible refine nSL (by assumption) (fun _ _ => ?_)
    | with_reducible refine nSR (by assumption) (fun _ _ => ?_)
    | with_reducible refine nWI (by assumption) (fun _ _ => ?_)
    | with_reducible refine nWL (by assumption) (fun _ _ => ?_)
    | with_reducible refine nV (fun _ => ?_)
    | with_reducible refine nE (fun _ => ?_)
    | with_reducible refine nj0 (b := b) (v := v) (fun _ _ _ => ?_) (fun _ => ?_)
    | with_reducible refine nj1 (b := b) (v := v) (fun _ _ _ _ => ?_) (fun _ => ?_)
    | with_reducible refine nj2 (b := b) (v := v) (fun _ _ _ _ _ => ?_) (fun _ => ?_)
    | with_reducible refine nj3 (b := b) (v := v) (fun _ _ _ _ _ _ => ?_) (fun _ => ?_)
    | with_reducible refine nIz (by assumption) ?_ (fun _ => ?_)
    | with_reducible refine nI0 ?_ ?_
    | with_reducible refine nAa ?_
    | with_reducible refine nB ?_ ?_
    | exact id
theorem n_X7_findParameters {a : Nat} {p1 : Int32} {S : PS} {Q Q' : Int32 → PS → Prop} (hg : Gd b v S) (hQ : ∀ r S1, (r ≠ 0 → Gd b v S1) → Q r S1 → Q' r S1) : wp_X7_findParameters a p1 S Q → wp_X7_findParameters a p1 S Q' := by
  unfold wp_X7_findParameters
  repeat' first
    | exact hQ _ _ (fun _ => by assumption)
    | exact hQ _ _ (fun h => absurd rfl h)
    | exact hQ _ _ (by assumption)
    | exact fun h => h (by assumption)
    | with_reducible refine n_X7_refuse (by assumption) (fun _ _ _ => ?_)
    | with_reducible refine n_X7_skipBlanks (by assumption) (fun _ _ => ?_)
    | with_reducible refine n_X7_next (by assumption) (fun _ _ _ => ?_)
    | with_reducible refine n_X7_isNameLetter (by assumption) (fun _ _ _ => ?_)
    | with_reducible refine n_X7_findName (by assumption) (fun _ _ _ => ?_)
    | with_reducible refine n_X7_newName (by assumption) (fun _ _ _ => ?_)
    | with_reducible refine nSI (by assumption) (by decide) (fun _ _ => ?_)
    | with_reducible refine nSL (by assumption) (fun _ _ => ?_)
    | with_reducible refine nSR (by assumption) (fun _ _ => ?_)
    | with_reducible refine nWI (by assumption) (fun _ _ => ?_)
    | with_reducible refine nWL (by assumption) (fun _ _ => ?_)
    | with_reducible refine nV (fun _ => ?_)
    | with_reducible refine nE (fun _ => ?_)
    | with_reducible refine nj0 (b := b) (v := v) (fun _ _ _ => ?_) (fun _ => ?_)
    | with_reducible refine nj1 (b := b) (v := v) (fun _ _ _ _ => ?_) (fun _ => ?_)
    | with_reducible refine nj2 (b := b) (v := v) (fun _ _ _ _ _ => ?_) (fun _ => ?_)
    | with_reducible refine nj3 (b := b) (v := v) (fun _ _ _ _ _ _ => ?_) (fun _ => ?_)
    | with_reducible refine nIz (by assumption) ?_ (fun _ => ?_)
    | with_reducible refine nI0 ?_ ?_
    | with_reducible refine nAa ?_
    | with_reducible refine nB ?_ ?_
    | exact id
theorem n_X6_addName {a : Nat} {p1 : Int32} {p2 : Int32} {p3 : Int32} {S : PS} {Q Q' : PS → Prop} (hg : Gd b v S) (hQ : ∀ S1, Gd b v S1 → Q S1 → Q' S1) : wp_X6_addName a p1 p2 p3 S Q → wp_X6_addName a p1 p2 p3 S Q' := by
  unfold wp_X6_addName
  repeat' first
    | exact hQ _ (by assumption)
    | exact fun h => h (by assumption)
    | with_reducible refine nSI (by assumption) (by decide) (fun _ _ => ?_)
    | with_reducible refine nSL (by assumption) (fun _ _ => ?_)
    | with_reducible refine nSR (by assumption) (fun _ _ => ?_)
    | with_reducible refine nWI (by assumption) (fun _ _ => ?_)
    | with_reducible refine nWL (by assumption) (fun _ _ => ?_)
    | with_reducible refine nV (fun _ => ?_)
    | with_reducible refine nE (fun _ => ?_)
    | with_reducible refine nj0 (b := b) (v := v) (fun _ _ _ => ?_) (fun _ => ?_)
    | with_reducible refine nj1 (b := b) (v := v) (fun _ _ _ _ => ?_) (fun _ => ?_)
    | with_reducible refine nj2 (b := b) (v := v) (fun _ _ _ _ _ => ?_) (fun _ => ?_)
    | with_reducible refine nj3 (b := b) (v := v) (fun _ _ _ _ _ _ => ?_) (fun _ => ?_)
    | with_reducible refine nIz (by assumption) ?_ (fun _ => ?_)
    | with_reducible refine nI0 ?_ ?_
    | with_reducible refine nAa ?_
    | with_reducible refine nB ?_ ?_
    | exact id
theorem n_X7_naming {M : Nat → PS → (Int32 → PS → Prop) → Prop} {a : Nat} {p1 : Int32} {S : PS} {Q Q' : Int32 → PS → Prop} (hM : ∀ {a : Nat} {S : PS} {Q Q' : Int32 → PS → Prop}, Gd b v S → (∀ r S1, (r ≠ 0 → Gd b v S1) → Q r S1 → Q' r S1) → M a S Q → M a S Q') (hg : Gd b v S) (hQ : ∀ r S1, (r ≠ 0 → Gd b v S1) → Q r S1 → Q' r S1) : wp_X7_naming M a p1 S Q → wp_X7_naming M a p1 S Q' := by
  unfold wp_X7_naming
  repeat' first
    | exact hQ _ _ (fun _ => by assumption)
    | exact hQ _ _ (fun h => absurd rfl h)
    | exact hQ _ _ (by assumption)
    | exact fun h => h (by assumption)
    | with_reducible refine n_X7_findName (by assumption) (fun _ _ _ => ?_)
    | with_reducible refine n_X7_newName (by assumption) (fun _ _ _ => ?_)
    | with_reducible refine n_X7_findParameters (by assumption) (fun _ _ _ => ?_)
    | with_reducible refine n_X7_block hM (by assumption) (fun _ _ _ => ?_)
    | with_reducible refine n_X6_addName (by assumption) (fun _ _ => ?_)
    | with_reducible refine n_X0_tell (by assumption) (fun _ _ _ => ?_)
    | with_reducible refine n_X7_refuse (by assumption) (fun _ _ _ => ?_)
    | with_reducible refine hM (by assumption) (fun _ _ _ => ?_)
    | with_reducible refine nSI (by assumption) (by decide) (fun _ _ => ?_)
    | with_reducible refine nSL (by assumption) (fun _ _ => ?_)
    | with_reducible refine nSR (by assumption) (fun _ _ => ?_)
    | with_reducible refine nWI (by assumption) (fun _ _ => ?_)
    | with_reducible refine nWL (by assumption) (fun _ _ => ?_)
    | with_reducible refine nV (fun _ => ?_)
    | with_reducible refine nE (fun _ => ?_)
    | with_reducible refine nj0 (b := b) (v := v) (fun _ _ _ => ?_) (fun _ => ?_)
    | with_reducible refine nj1 (b := b) (v := v) (fun _ _ _ _ => ?_) (fun _ => ?_)
    | with_reducible refine nj2 (b := b) (v := v) (fun _ _ _ _ _ => ?_) (fun _ => ?_)
    | with_reducible refine nj3 (b := b) (v := v) (fun _ _ _ _ _ _ => ?_) (fun _ => ?_)
    | with_reducible refine nIz (by assumption) ?_ (fun _ => ?_)
    | with_reducible refine nI0 ?_ ?_
    | with_reducible refine nAa ?_
    | with_reducible refine nB ?_ ?_
    | exact id
theorem n_X7_relative {M : Nat → PS → (Int32 → PS → Prop) → Prop} {a : Nat} {S : PS} {Q Q' : Int32 → PS → Prop} (hM : ∀ {a : Nat} {S : PS} {Q Q' : Int32 → PS → Prop}, Gd b v S → (∀ r S1, (r ≠ 0 → Gd b v S1) → Q r S1 → Q' r S1) → M a S Q → M a S Q') (hg : Gd b v S) (hQ : ∀ r S1, (r ≠ 0 → Gd b v S1) → Q r S1 → Q' r S1) : wp_X7_relative M a S Q → wp_X7_relative M a S Q' := by
  unfold wp_X7_relative
  repeat' first
    | exact hQ _ _ (fun _ => by assumption)
    | exact hQ _ _ (fun h => absurd rfl h)
    | exact hQ _ _ (by assumption)
    | exact fun h => h (by assumption)
    | with_reducible refine n_X7_block hM (by assumption) (fun _ _ _ => ?_)
    | with_reducible refine hM (by assumption) (fun _ _ _ => ?_)
    | with_reducible refine nSI (by assumption) (by decide) (fun _ _ => ?_)
    | with_reducible refine nSL (by assumption) (fun _ _ => ?_)
    | with_reducible refine nSR (by assumption) (fun _ _ => ?_)
    | with_reducible refine nWI (by assumption) (fun _ _ => ?_)
    | with_reducible refine nWL (by assumption) (fun _ _ => ?_)
    | with_reducible refine nV (fun _ => ?_)
    | with_reducible refine nE (fun _ => ?_)
    | with_reducible refine nj0 (b := b) (v := v) (fun _ _ _ => ?_) (fun _ => ?_)
    | with_reducible refine nj1 (b := b) (v := v) (fun _ _ _ _ => ?_) (fun _ => ?_)
    | with_reducible refine nj2 (b := b) (v := v) (fun _ _ _ _ _ => ?_) (fun _ => ?_)
    | with_reducible refine nj3 (b := b) (v := v) (fun _ _ _ _ _ _ => ?_) (fun _ => ?_)
    | with_reducible refine nIz (by assumption) ?_ (fun _ => ?_)
    | with_reducible refine nI0 ?_ ?_
    | with_reducible refine nAa ?_
    | with_reducible refine nB ?_ ?_
    | exact id
theorem n_X7_refuseNumber {a : Nat} {S : PS} {Q Q' : Int32 → PS → Prop} (hg : Gd b v S) (hQ : ∀ r S1, (r ≠ 0 → Gd b v S1) → Q r S1 → Q' r S1) : wp_X7_refuseNumber a S Q → wp_X7_refuseNumber a S Q' := by
  unfold wp_X7_refuseNumber
  repeat' first
    | exact hQ _ _ (fun _ => by assumption)
    | exact hQ _ _ (fun h => absurd rfl h)
    | exact hQ _ _ (by assumption)
    | exact fun h => h (by assumption)
    | with_reducible refine n_X0_tell (by assumption) (fun _ _ _ => ?_)
    | with_reducible refine nSI (by assumption) (by decide) (fun _ _ => ?_)
    | with_reducible refine nSL (by assumption) (fun _ _ => ?_)
    | with_reducible refine nSR (by assumption) (fun _ _ => ?_)
    | with_reducible refine nWI (by assumption) (fun _ _ => ?_)
    | with_reducible refine nWL (by assumption) (fun _ _ => ?_)
    | with_reducible refine nV (fun _ => ?_)
    | with_reducible refine nE (fun _ => ?_)
    | with_reducible refine nj0 (b := b) (v := v) (fun _ _ _ => ?_) (fun _ => ?_)
    | with_reducible refine nj1 (b := b) (v := v) (fun _ _ _ _ => ?_) (fun _ => ?_)
    | with_reducible refine nj2 (b := b) (v := v) (fun _ _ _ _ _ => ?_) (fun _ => ?_)
    | with_reducible refine nj3 (b := b) (v := v) (fun _ _ _ _ _ _ => ?_) (fun _ => ?_)
    | with_reducible refine nIz (by assumption) ?_ (fun _ => ?_)
    | with_reducible refine nI0 ?_ ?_
    | with_reducible refine nAa ?_
    | with_reducible refine nB ?_ ?_
    | exact id
theorem n_X7_isDigit {p1 : Int32} {S : PS} {Q Q' : Int32 → PS → Prop} (hg : Gd b v S) (hQ : ∀ r S1, Gd b v S1 → Q r S1 → Q' r S1) : wp_X7_isDigit p1 S Q → wp_X7_isDigit p1 S Q' := by
  unfold wp_X7_isDigit
  repeat' first
    | exact hQ _ _ (by assumption)
    | exact fun h => h (by assumption)
    | with_reducible refine nSI (by assumption) (by decide) (fun _ _ => ?_)
    | with_reducible refine nSL (by assumption) (fun _ _ => ?_)
    | with_reducible refine nSR (by assumption) (fun _ _ => ?_)
    | with_reducible refine nWI (by assumption) (fun _ _ => ?_)
    | with_reducible refine nWL (by assumption) (fun _ _ => ?_)
    | with_reducible refine nV (fun _ => ?_)
    | with_reducible refine nE (fun _ => ?_)
    | with_reducible refine nj0 (b := b) (v := v) (fun _ _ _ => ?_) (fun _ => ?_)
    | with_reducible refine nj1 (b := b) (v := v) (fun _ _ _ _ => ?_) (fun _ => ?_)
    | with_reducible refine nj2 (b := b) (v := v) (fun _ _ _ _ _ => ?_) (fun _ => ?_)
    | with_reducible refine nj3 (b := b) (v := v) (fun _ _ _ _ _ _ => ?_) (fun _ => ?_)
    | with_reducible refine nIz (by assumption) ?_ (fun _ => ?_)
    | with_reducible refine nI0 ?_ ?_
    | with_reducible refine nAa ?_
    | with_reducible refine nB ?_ ?_
    | exact id
theorem n_X7_digits {a : Nat} {p1 : Int32} {S : PS} {Q Q' : Int32 → PS → Prop} (hg : Gd b v S) (hQ : ∀ r S1, (r ≠ 0 → Gd b v S1) → Q r S1 → Q' r S1) : wp_X7_digits a p1 S Q → wp_X7_digits a p1 S Q' := by
  unfold wp_X7_digits
  repeat' first
    | exact hQ _ _ (fun _ => by assumption)
    | exact hQ _ _ (fun h => absurd rfl h)
    | exact hQ _ _ (by assumption)
    | exact fun h => h (by assumption)
    | with_reducible refine n_X7_refuse (by assumption) (fun _ _ _ => ?_)
    | with_reducible refine n_X7_refuseNumber (by assumption) (fun _ _ _ => ?_)
    | with_reducible refine n_X7_next (by assumption) (fun _ _ _ => ?_)
    | with_reducible refine n_X7_isDigit (by assumption) (fun _ _ _ => ?_)
    | with_reducible refine nSI (by assumption) (by decide) (fun _ _ => ?_)
    | with_reducible refine nSL (by assumption) (fun _ _ => ?_)
    | with_reducible refine nSR (by assumption) (fun _ _ => ?_)
    | with_reducible refine nWI (by assumption) (fun _ _ => ?_)
    | with_reducible refine nWL (by assumption) (fun _ _ => ?_)
    | with_reducible refine nV (fun _ => ?_)
    | with_reducible refine nE (fun _ => ?_)
    | with_reducible refine nj0 (b := b) (v := v) (fun _ _ _ => ?_) (fun _ => ?_)
    | with_reducible refine nj1 (b := b) (v := v) (fun _ _ _ _ => ?_) (fun _ => ?_)
    | with_reducible refine nj2 (b := b) (v := v) (fun _ _ _ _ _ => ?_) (fun _ => ?_)
    | with_reducible refine nj3 (b := b) (v := v) (fun _ _ _ _ _ _ => ?_) (fun _ => ?_)
    | with_reducible refine nIz (by assumption) ?_ (fun _ => ?_)
    | with_reducible refine nI0 ?_ ?_
    | with_reducible refine nAa ?_
    | with_reducible refine nB ?_ ?_
    | exact id
theorem n_X7_inRange {a : Nat} {p1 : Int64} {p2 : Int64} {S : PS} {Q Q' : Int32 → PS → Prop} (hg : Gd b v S) (hQ : ∀ r S1, (r ≠ 0 → Gd b v S1) → Q r S1 → Q' r S1) : wp_X7_inRange a p1 p2 S Q → wp_X7_inRange a p1 p2 S Q' := by
  unfold wp_X7_inRange
  repeat' first
    | exact hQ _ _ (fun _ => by assumption)
    | exact hQ _ _ (fun h => absurd rfl h)
    | exact hQ _ _ (by assumption)
    | exact fun h => h (by assumption)
    | with_reducible refine n_X7_refuseNumber (by assumption) (fun _ _ _ => ?_)
    | with_reducible refine nSI (by assumption) (by decide) (fun _ _ => ?_)
    | with_reducible refine nSL (by assumption) (fun _ _ => ?_)
    | with_reducible refine nSR (by assumption) (fun _ _ => ?_)
    | with_reducible refine nWI (by assumption) (fun _ _ => ?_)
    | with_reducible refine nWL (by assumption) (fun _ _ => ?_)
    | with_reducible refine nV (fun _ => ?_)
    | with_reducible refine nE (fun _ => ?_)
    | with_reducible refine nj0 (b := b) (v := v) (fun _ _ _ => ?_) (fun _ => ?_)
    | with_reducible refine nj1 (b := b) (v := v) (fun _ _ _ _ => ?_) (fun _ => ?_)
    | with_reducible refine nj2 (b := b) (v := v) (fun _ _ _ _ _ => ?_) (fun _ => ?_)
    | with_reducible refine nj3 (b := b) (v := v) (fun _ _ _ _ _ _ => ?_) (fun _ => ?_)
    | with_reducible refine nIz (by assumption) ?_ (fun _ => ?_)
    | with_reducible refine nI0 ?_ ?_
    | with_reducible refine nAa ?_
    | with_reducible refine nB ?_ ?_
    | exact id
theorem n_X7_number {a : Nat} {p1 : Int32} {p2 : Int32} {S : PS} {Q Q' : Int32 → PS → Prop} (hg : Gd b v S) (hQ : ∀ r S1, (r ≠ 0 → Gd b v S1) → Q r S1 → Q' r S1) : wp_X7_number a p1 p2 S Q → wp_X7_number a p1 p2 S Q' := by
  unfold wp_X7_number
  repeat' first
    | exact hQ _ _ (fun _ => by assumption)
    | exact hQ _ _ (fun h => absurd rfl h)
    | exact hQ _ _ (by assumption)
    | exact fun h => h (by assumption)
    | with_reducible refine n_X7_skipBlanks (by assumption) (fun _ _ => ?_)
    | with_reducible refine n_X7_digits (by assumption) (fun _ _ _ => ?_)
    | with_reducible refine n_X7_inRange (by assumption) (fun _ _ _ => ?_)
    | with_reducible refine nSI (by assumption) (by decide) (fun _ _ => ?_)
    | with_reducible refine nSL (by assumption) (fun _ _ => ?_)
    | with_reducible refine nSR (by assumption) (fun _ _ => ?_)
    | with_reducible refine nWI (by assumption) (fun _ _ => ?_)
    | with_reducible refine nWL (by assumption) (fun _ _ => ?_)
    | with_reducible refine nV (fun _ => ?_)
    | with_reducible refine nE (fun _ => ?_)
    | with_reducible refine nj0 (b := b) (v := v) (fun _ _ _ => ?_) (fun _ => ?_)
    | with_reducible refine nj1 (b := b) (v := v) (fun _ _ _ _ => ?_) (fun _ => ?_)
    | with_reducible refine nj2 (b := b) (v := v) (fun _ _ _ _ _ => ?_) (fun _ => ?_)
    | with_reducible refine nj3 (b := b) (v := v) (fun _ _ _ _ _ _ => ?_) (fun _ => ?_)
    | with_reducible refine nIz (by assumption) ?_ (fun _ => ?_)
    | with_reducible refine nI0 ?_ ?_
    | with_reducible refine nAa ?_
    | with_reducible refine nB ?_ ?_
    | exact id
theorem n_X7_mustBehindBlanks {a : Nat} {p1 : Int32} {S : PS} {Q Q' : Int32 → PS → Prop} (hg : Gd b v S) (hQ : ∀ r S1, (r ≠ 0 → Gd b v S1) → Q r S1 → Q' r S1) : wp_X7_mustBehindBlanks a p1 S Q → wp_X7_mustBehindBlanks a p1 S Q' := by
  unfold wp_X7_mustBehindBlanks
  repeat' first
    | exact hQ _ _ (fun _ => by assumption)
    | exact hQ _ _ (fun h => absurd rfl h)
    | exact hQ _ _ (by assumption)
    | exact fun h => h (by assumption)
    | with_reducible refine n_X7_skipBlanks (by assumption) (fun _ _ => ?_)
    | with_reducible refine n_X7_must (by assumption) (fun _ _ _ => ?_)
    | with_reducible refine nSI (by assumption) (by decide) (fun _ _ => ?_)
    | with_reducible refine nSL (by assumption) (fun _ _ => ?_)
    | with_reducible refine nSR (by assumption) (fun _ _ => ?_)
    | with_reducible refine nWI (by assumption) (fun _ _ => ?_)
    | with_reducible refine nWL (by assumption) (fun _ _ => ?_)
    | with_reducible refine nV (fun _ => ?_)
    | with_reducible refine nE (fun _ => ?_)
    | with_reducible refine nj0 (b := b) (v := v) (fun _ _ _ => ?_) (fun _ => ?_)
    | with_reducible refine nj1 (b := b) (v := v) (fun _ _ _ _ => ?_) (fun _ => ?_)
    | with_reducible refine nj2 (b := b) (v := v) (fun _ _ _ _ _ => ?_) (fun _ => ?_)
    | with_reducible refine nj3 (b := b) (v := v) (fun _ _ _ _ _ _ => ?_) (fun _ => ?_)
    | with_reducible refine nIz (by assumption) ?_ (fun _ => ?_)
    | with_reducible refine nI0 ?_ ?_
    | with_reducible refine nAa ?_
    | with_reducible refine nB ?_ ?_
    | exact id
theorem n_X7_powerOfTwo {a : Nat} {S : PS} {Q Q' : Int32 → PS → Prop} (hg : Gd b v S) (hQ : ∀ r S1, (r ≠ 0 → Gd b v S1) → Q r S1 → Q' r S1) : wp_X7_powerOfTwo a S Q → wp_X7_powerOfTwo a S Q' := by
  unfold wp_X7_powerOfTwo
  repeat' first
    | exact hQ _ _ (fun _ => by assumption)
    | exact hQ _ _ (fun h => absurd rfl h)
    | exact hQ _ _ (by assumption)
    | exact fun h => h (by assumption)
    | with_reducible refine n_X7_refuseNumber (by assumption) (fun _ _ _ => ?_)
    | with_reducible refine nSI (by assumption) (by decide) (fun _ _ => ?_)
    | with_reducible refine nSL (by assumption) (fun _ _ => ?_)
    | with_reducible refine nSR (by assumption) (fun _ _ => ?_)
    | with_reducible refine nWI (by assumption) (fun _ _ => ?_)
    | with_reducible refine nWL (by assumption) (fun _ _ => ?_)
    | with_reducible refine nV (fun _ => ?_)
    | with_reducible refine nE (fun _ => ?_)
    | with_reducible refine nj0 (b := b) (v := v) (fun _ _ _ => ?_) (fun _ => ?_)
    | with_reducible refine nj1 (b := b) (v := v) (fun _ _ _ _ => ?_) (fun _ => ?_)
    | with_reducible refine nj2 (b := b) (v := v) (fun _ _ _ _ _ => ?_) (fun _ => ?_)
    | with_reducible refine nj3 (b := b) (v := v) (fun _ _ _ _ _ _ => ?_) (fun _ => ?_)
    | with_reducible refine nIz (by assumption) ?_ (fun _ => ?_)
    | with_reducible refine nI0 ?_ ?_
    | with_reducible refine nAa ?_
    | with_reducible refine nB ?_ ?_
    | exact id
theorem n_X7_meter {a : Nat} {p1 : Int32} {S : PS} {Q Q' : Int32 → PS → Prop} (hg : Gd b v S) (hQ : ∀ r S1, (r ≠ 0 → Gd b v S1) → Q r S1 → Q' r S1) : wp_X7_meter a p1 S Q → wp_X7_meter a p1 S Q' := by
  unfold wp_X7_meter
  repeat' first
    | exact hQ _ _ (fun _ => by assumption)
    | exact hQ _ _ (fun h => absurd rfl h)
    | exact hQ _ _ (by assumption)
    | exact fun h => h (by assumption)
    | with_reducible refine n_X7_number (by assumption) (fun _ _ _ => ?_)
    | with_reducible refine n_X7_mustBehindBlanks (by assumption) (fun _ _ _ => ?_)
    | with_reducible refine n_X7_powerOfTwo (by assumption) (fun _ _ _ => ?_)
    | with_reducible refine n_X6_setNumbers (by assumption) (fun _ _ => ?_)
    | with_reducible refine nSI (by assumption) (by decide) (fun _ _ => ?_)
    | with_reducible refine nSL (by assumption) (fun _ _ => ?_)
    | with_reducible refine nSR (by assumption) (fun _ _ => ?_)
    | with_reducible refine nWI (by assumption) (fun _ _ => ?_)
    | with_reducible refine nWL (by assumption) (fun _ _ => ?_)
    | with_reducible refine nV (fun _ => ?_)
    | with_reducible refine nE (fun _ => ?_)
    | with_reducible refine nj0 (b := b) (v := v) (fun _ _ _ => ?_) (fun _ => ?_)
    | with_reducible refine nj1 (b := b) (v := v) (fun _ _ _ _ => ?_) (fun _ => ?_)
    | with_reducible refine nj2 (b := b) (v := v) (fun _ _ _ _ _ => ?_) (fun _ => ?_)
    | with_reducible refine nj3 (b := b) (v := v) (fun _ _ _ _ _ _ => ?_) (fun _ => ?_)
    | with_reducible refine nIz (by assumption) ?_ (fun _ => ?_)
    | with_reducible refine nI0 ?_ ?_
    | with_reducible refine nAa ?_
    | with_reducible refine nB ?_ ?_
    | exact id
theorem n_X7_rounds {M : Nat → PS → (Int32 → PS → Prop) → Prop} {a : Nat} {p1 : Int32} {S : PS} {Q Q' : Int32 → PS → Prop} (hM : ∀ {a : Nat} {S : PS} {Q Q' : Int32 → PS → Prop}, Gd b v S → (∀ r S1, (r ≠ 0 → Gd b v S1) → Q r S1 → Q' r S1) → M a S Q → M a S Q') (hg : Gd b v S) (hQ : ∀ r S1, (r ≠ 0 → Gd b v S1) → Q r S1 → Q' r S1) : wp_X7_rounds M a p1 S Q → wp_X7_rounds M a p1 S Q' := by
  unfold wp_X7_rounds
  repeat' first
    | exact hQ _ _ (fun _ => by assumption)
    | exact hQ _ _ (fun h => absurd rfl h)
    | exact hQ _ _ (by assumption)
    | exact fun h => h (by assumption)
    | with_reducible refine n_X7_number (by assumption) (fun _ _ _ => ?_)
    | with_reducible refine n_X6_setNumbers (by assumption) (fun _ _ => ?_)
    | with_reducible refine n_X7_block hM (by assumption) (fun _ _ _ => ?_)
    | with_reducible refine hM (by assumption) (fun _ _ _ => ?_)
    | with_reducible refine nSI (by assumption) (by decide) (fun _ _ => ?_)
    | with_reducible refine nSL (by assumption) (fun _ _ => ?_)
    | with_reducible refine nSR (by assumption) (fun _ _ => ?_)
    | with_reducible refine nWI (by assumption) (fun _ _ => ?_)
    | with_reducible refine nWL (by assumption) (fun _ _ => ?_)
    | with_reducible refine nV (fun _ => ?_)
    | with_reducible refine nE (fun _ => ?_)
    | with_reducible refine nj0 (b := b) (v := v) (fun _ _ _ => ?_) (fun _ => ?_)
    | with_reducible refine nj1 (b := b) (v := v) (fun _ _ _ _ => ?_) (fun _ => ?_)
    | with_reducible refine nj2 (b := b) (v := v) (fun _ _ _ _ _ => ?_) (fun _ => ?_)
    | with_reducible refine nj3 (b := b) (v := v) (fun _ _ _ _ _ _ => ?_) (fun _ => ?_)
    | with_reducible refine nIz (by assumption) ?_ (fun _ => ?_)
    | with_reducible refine nI0 ?_ ?_
    | with_reducible refine nAa ?_
    | with_reducible refine nB ?_ ?_
    | exact id
theorem n_X7_tuplet {M : Nat → PS → (Int32 → PS → Prop) → Prop} {a : Nat} {p1 : Int32} {S : PS} {Q Q' : Int32 → PS → Prop} (hM : ∀ {a : Nat} {S : PS} {Q Q' : Int32 → PS → Prop}, Gd b v S → (∀ r S1, (r ≠ 0 → Gd b v S1) → Q r S1 → Q' r S1) → M a S Q → M a S Q') (hg : Gd b v S) (hQ : ∀ r S1, (r ≠ 0 → Gd b v S1) → Q r S1 → Q' r S1) : wp_X7_tuplet M a p1 S Q → wp_X7_tuplet M a p1 S Q' := by
  unfold wp_X7_tuplet
  repeat' first
    | exact hQ _ _ (fun _ => by assumption)
    | exact hQ _ _ (fun h => absurd rfl h)
    | exact hQ _ _ (by assumption)
    | exact fun h => h (by assumption)
    | with_reducible refine n_X7_number (by assumption) (fun _ _ _ => ?_)
    | with_reducible refine n_X7_mustBehindBlanks (by assumption) (fun _ _ _ => ?_)
    | with_reducible refine n_X6_setNumbers (by assumption) (fun _ _ => ?_)
    | with_reducible refine n_X7_block hM (by assumption) (fun _ _ _ => ?_)
    | with_reducible refine hM (by assumption) (fun _ _ _ => ?_)
    | with_reducible refine nSI (by assumption) (by decide) (fun _ _ => ?_)
    | with_reducible refine nSL (by assumption) (fun _ _ => ?_)
    | with_reducible refine nSR (by assumption) (fun _ _ => ?_)
    | with_reducible refine nWI (by assumption) (fun _ _ => ?_)
    | with_reducible refine nWL (by assumption) (fun _ _ => ?_)
    | with_reducible refine nV (fun _ => ?_)
    | with_reducible refine nE (fun _ => ?_)
    | with_reducible refine nj0 (b := b) (v := v) (fun _ _ _ => ?_) (fun _ => ?_)
    | with_reducible refine nj1 (b := b) (v := v) (fun _ _ _ _ => ?_) (fun _ => ?_)
    | with_reducible refine nj2 (b := b) (v := v) (fun _ _ _ _ _ => ?_) (fun _ => ?_)
    | with_reducible refine nj3 (b := b) (v := v) (fun _ _ _ _ _ _ => ?_) (fun _ => ?_)
    | with_reducible refine nIz (by assumption) ?_ (fun _ => ?_)
    | with_reducible refine nI0 ?_ ?_
    | with_reducible refine nAa ?_
    | with_reducible refine nB ?_ ?_
    | exact id
theorem n_X7_skipSpaces {a : Nat} {S : PS} {Q Q' : PS → Prop} (hg : Gd b v S) (hQ : ∀ S1, Gd b v S1 → Q S1 → Q' S1) : wp_X7_skipSpaces a S Q → wp_X7_skipSpaces a S Q' := by
  unfold wp_X7_skipSpaces
  repeat' first
    | exact hQ _ (by assumption)
    | exact fun h => h (by assumption)
    | with_reducible refine n_X7_next (by assumption) (fun _ _ _ => ?_)
    | with_reducible refine nSI (by assumption) (by decide) (fun _ _ => ?_)
    | with_reducible refine nSL (by assumption) (fun _ _ => ?_)
    | with_reducible refine nSR (by assumption) (fun _ _ => ?_)
    | with_reducible refine nWI (by assumption) (fun _ _ => ?_)
    | with_reducible refine nWL (by assumption) (fun _ _ => ?_)
    | with_reducible refine nV (fun _ => ?_)
    | with_reducible refine nE (fun _ => ?_)
    | with_reducible refine nj0 (b := b) (v := v) (fun _ _ _ => ?_) (fun _ => ?_)
    | with_reducible refine nj1 (b := b) (v := v) (fun _ _ _ _ => ?_) (fun _ => ?_)
    | with_reducible refine nj2 (b := b) (v := v) (fun _ _ _ _ _ => ?_) (fun _ => ?_)
    | with_reducible refine nj3 (b := b) (v := v) (fun _ _ _ _ _ _ => ?_) (fun _ => ?_)
    | with_reducible refine nIz (by assumption) ?_ (fun _ => ?_)
    | with_reducible refine nI0 ?_ ?_
    | with_reducible refine nAa ?_
    | with_reducible refine nB ?_ ?_
    | exact id
theorem n_X9_make {p1 : Int32} {p2 : Int32} {S : PS} {Q Q' : Int32 → PS → Prop} (hg : Gd b v S) (hQ : ∀ r S1, Gd b v S1 → Q r S1 → Q' r S1) : wp_X9_make p1 p2 S Q → wp_X9_make p1 p2 S Q' := by
  unfold wp_X9_make
  repeat' first
    | exact hQ _ _ (by assumption)
    | exact fun h => h (by assumption)
    | with_reducible refine nSI (by assumption) (by decide) (fun _ _ => ?_)
    | with_reducible refine nSL (by assumption) (fun _ _ => ?_)
    | with_reducible refine nSR (by assumption) (fun _ _ => ?_)
    | with_reducible refine nWI (by assumption) (fun _ _ => ?_)
    | with_reducible refine nWL (by assumption) (fun _ _ => ?_)
    | with_reducible refine nV (fun _ => ?_)
    | with_reducible refine nE (fun _ => ?_)
    | with_reducible refine nj0 (b := b) (v := v) (fun _ _ _ => ?_) (fun _ => ?_)
    | with_reducible refine nj1 (b := b) (v := v) (fun _ _ _ _ => ?_) (fun _ => ?_)
    | with_reducible refine nj2 (b := b) (v := v) (fun _ _ _ _ _ => ?_) (fun _ => ?_)
    | with_reducible refine nj3 (b := b) (v := v) (fun _ _ _ _ _ _ => ?_) (fun _ => ?_)
    | with_reducible refine nIz (by assumption) ?_ (fun _ => ?_)
    | with_reducible refine nI0 ?_ ?_
    | with_reducible refine nAa ?_
    | with_reducible refine nB ?_ ?_
    | exact id
theorem n_X6_addPart {a : Nat} {p1 : Int32} {S : PS} {Q Q' : PS → Prop} (hg : Gd b v S) (hQ : ∀ S1, Gd b v S1 → Q S1 → Q' S1) : wp_X6_addPart a p1 S Q → wp_X6_addPart a p1 S Q' := by
  unfold wp_X6_addPart
  repeat' first
    | exact hQ _ (by assumption)
    | exact fun h => h (by assumption)
    | with_reducible refine nSI (by assumption) (by decide) (fun _ _ => ?_)
    | with_reducible refine nSL (by assumption) (fun _ _ => ?_)
    | with_reducible refine nSR (by assumption) (fun _ _ => ?_)
    | with_reducible refine nWI (by assumption) (fun _ _ => ?_)
    | with_reducible refine nWL (by assumption) (fun _ _ => ?_)
    | with_reducible refine nV (fun _ => ?_)
    | with_reducible refine nE (fun _ => ?_)
    | with_reducible refine nj0 (b := b) (v := v) (fun _ _ _ => ?_) (fun _ => ?_)
    | with_reducible refine nj1 (b := b) (v := v) (fun _ _ _ _ => ?_) (fun _ => ?_)
    | with_reducible refine nj2 (b := b) (v := v) (fun _ _ _ _ _ => ?_) (fun _ => ?_)
    | with_reducible refine nj3 (b := b) (v := v) (fun _ _ _ _ _ _ => ?_) (fun _ => ?_)
    | with_reducible refine nIz (by assumption) ?_ (fun _ => ?_)
    | with_reducible refine nI0 ?_ ?_
    | with_reducible refine nAa ?_
    | with_reducible refine nB ?_ ?_
    | exact id
theorem n_X6_byteAt {a : Nat} {p1 : Int32} {S : PS} {Q Q' : Int32 → PS → Prop} (hg : Gd b v S) (hQ : ∀ r S1, Gd b v S1 → Q r S1 → Q' r S1) : wp_X6_byteAt a p1 S Q → wp_X6_byteAt a p1 S Q' := by
  unfold wp_X6_byteAt
  repeat' first
    | exact hQ _ _ (by assumption)
    | exact fun h => h (by assumption)
    | with_reducible refine nSI (by assumption) (by decide) (fun _ _ => ?_)
    | with_reducible refine nSL (by assumption) (fun _ _ => ?_)
    | with_reducible refine nSR (by assumption) (fun _ _ => ?_)
    | with_reducible refine nWI (by assumption) (fun _ _ => ?_)
    | with_reducible refine nWL (by assumption) (fun _ _ => ?_)
    | with_reducible refine nV (fun _ => ?_)
    | with_reducible refine nE (fun _ => ?_)
    | with_reducible refine nj0 (b := b) (v := v) (fun _ _ _ => ?_) (fun _ => ?_)
    | with_reducible refine nj1 (b := b) (v := v) (fun _ _ _ _ => ?_) (fun _ => ?_)
    | with_reducible refine nj2 (b := b) (v := v) (fun _ _ _ _ _ => ?_) (fun _ => ?_)
    | with_reducible refine nj3 (b := b) (v := v) (fun _ _ _ _ _ _ => ?_) (fun _ => ?_)
    | with_reducible refine nIz (by assumption) ?_ (fun _ => ?_)
    | with_reducible refine nI0 ?_ ?_
    | with_reducible refine nAa ?_
    | with_reducible refine nB ?_ ?_
    | exact id
theorem n_X7_isSyllableByte {p1 : Int32} {S : PS} {Q Q' : Int32 → PS → Prop} (hg : Gd b v S) (hQ : ∀ r S1, Gd b v S1 → Q r S1 → Q' r S1) : wp_X7_isSyllableByte p1 S Q → wp_X7_isSyllableByte p1 S Q' := by
  unfold wp_X7_isSyllableByte
  repeat' first
    | exact hQ _ _ (by assumption)
    | exact fun h => h (by assumption)
    | with_reducible refine nSI (by assumption) (by decide) (fun _ _ => ?_)
    | with_reducible refine nSL (by assumption) (fun _ _ => ?_)
    | with_reducible refine nSR (by assumption) (fun _ _ => ?_)
    | with_reducible refine nWI (by assumption) (fun _ _ => ?_)
    | with_reducible refine nWL (by assumption) (fun _ _ => ?_)
    | with_reducible refine nV (fun _ => ?_)
    | with_reducible refine nE (fun _ => ?_)
    | with_reducible refine nj0 (b := b) (v := v) (fun _ _ _ => ?_) (fun _ => ?_)
    | with_reducible refine nj1 (b := b) (v := v) (fun _ _ _ _ => ?_) (fun _ => ?_)
    | with_reducible refine nj2 (b := b) (v := v) (fun _ _ _ _ _ => ?_) (fun _ => ?_)
    | with_reducible refine nj3 (b := b) (v := v) (fun _ _ _ _ _ _ => ?_) (fun _ => ?_)
    | with_reducible refine nIz (by assumption) ?_ (fun _ => ?_)
    | with_reducible refine nI0 ?_ ?_
    | with_reducible refine nAa ?_
    | with_reducible refine nB ?_ ?_
    | exact id
theorem n_X7_syllable {a : Nat} {S : PS} {Q Q' : Int32 → PS → Prop} (hg : Gd b v S) (hQ : ∀ r S1, (r ≠ 0 → Gd b v S1) → Q r S1 → Q' r S1) : wp_X7_syllable a S Q → wp_X7_syllable a S Q' := by
  unfold wp_X7_syllable
  repeat' first
    | exact hQ _ _ (fun _ => by assumption)
    | exact hQ _ _ (fun h => absurd rfl h)
    | exact hQ _ _ (by assumption)
    | exact fun h => h (by assumption)
    | with_reducible refine n_X7_refuse (by assumption) (fun _ _ _ => ?_)
    | with_reducible refine n_X9_make (by assumption) (fun _ _ _ => ?_)
    | with_reducible refine n_X6_addPart (by assumption) (fun _ _ => ?_)
    | with_reducible refine n_X6_byteAt (by assumption) (fun _ _ _ => ?_)
    | with_reducible refine n_X0_tell (by assumption) (fun _ _ _ => ?_)
    | with_reducible refine n_X7_next (by assumption) (fun _ _ _ => ?_)
    | with_reducible refine n_X7_isSyllableByte (by assumption) (fun _ _ _ => ?_)
    | with_reducible refine nSI (by assumption) (by decide) (fun _ _ => ?_)
    | with_reducible refine nSL (by assumption) (fun _ _ => ?_)
    | with_reducible refine nSR (by assumption) (fun _ _ => ?_)
    | with_reducible refine nWI (by assumption) (fun _ _ => ?_)
    | with_reducible refine nWL (by assumption) (fun _ _ => ?_)
    | with_reducible refine nV (fun _ => ?_)
    | with_reducible refine nE (fun _ => ?_)
    | with_reducible refine nj0 (b := b) (v := v) (fun _ _ _ => ?_) (fun _ => ?_)
    | with_reducible refine nj1 (b := b) (v := v) (fun _ _ _ _ => ?_) (fun _ => ?_)
    | with_reducible refine nj2 (b := b) (v := v) (fun _ _ _ _ _ => ?_) (fun _ => ?_)
    | with_reducible refine nj3 (b := b) (v := v) (fun _ _ _ _ _ _ => ?_) (fun _ => ?_)
    | with_reducible refine nIz (by assumption) ?_ (fun _ => ?_)
    | with_reducible refine nI0 ?_ ?_
    | with_reducible refine nAa ?_
    | with_reducible refine nB ?_ ?_
    | exact id
theorem n_X7_words {a : Nat} {p1 : Int32} {S : PS} {Q Q' : Int32 → PS → Prop} (hg : Gd b v S) (hQ : ∀ r S1, (r ≠ 0 → Gd b v S1) → Q r S1 → Q' r S1) : wp_X7_words a p1 S Q → wp_X7_words a p1 S Q' := by
  unfold wp_X7_words
  repeat' first
    | exact hQ _ _ (fun _ => by assumption)
    | exact hQ _ _ (fun h => absurd rfl h)
    | exact hQ _ _ (by assumption)
    | exact fun h => h (by assumption)
    | with_reducible refine n_X7_number (by assumption) (fun _ _ _ => ?_)
    | with_reducible refine n_X7_mustBehindBlanks (by assumption) (fun _ _ _ => ?_)
    | with_reducible refine n_X7_refuse (by assumption) (fun _ _ _ => ?_)
    | with_reducible refine n_X7_skipSpaces (by assumption) (fun _ _ => ?_)
    | with_reducible refine n_X7_take (by assumption) (fun _ _ _ => ?_)
    | with_reducible refine n_X7_syllable (by assumption) (fun _ _ _ => ?_)
    | with_reducible refine n_X6_setNumbers (by assumption) (fun _ _ => ?_)
    | with_reducible refine nSI (by assumption) (by decide) (fun _ _ => ?_)
    | with_reducible refine nSL (by assumption) (fun _ _ => ?_)
    | with_reducible refine nSR (by assumption) (fun _ _ => ?_)
    | with_reducible refine nWI (by assumption) (fun _ _ => ?_)
    | with_reducible refine nWL (by assumption) (fun _ _ => ?_)
    | with_reducible refine nV (fun _ => ?_)
    | with_reducible refine nE (fun _ => ?_)
    | with_reducible refine nj0 (b := b) (v := v) (fun _ _ _ => ?_) (fun _ => ?_)
    | with_reducible refine nj1 (b := b) (v := v) (fun _ _ _ _ => ?_) (fun _ => ?_)
    | with_reducible refine nj2 (b := b) (v := v) (fun _ _ _ _ _ => ?_) (fun _ => ?_)
    | with_reducible refine nj3 (b := b) (v := v) (fun _ _ _ _ _ _ => ?_) (fun _ => ?_)
    | with_reducible refine nIz (by assumption) ?_ (fun _ => ?_)
    | with_reducible refine nI0 ?_ ?_
    | with_reducible refine nAa ?_
    | with_reducible refine nB ?_ ?_
    | exact id
theorem n_X7_signed {a : Nat} {S : PS} {Q Q' : Int32 → PS → Prop} (hg : Gd b v S) (hQ : ∀ r S1, (r ≠ 0 → Gd b v S1) → Q r S1 → Q' r S1) : wp_X7_signed a S Q → wp_X7_signed a S Q' := by
  unfold wp_X7_signed
  repeat' first
    | exact hQ _ _ (fun _ => by assumption)
    | exact hQ _ _ (fun h => absurd rfl h)
    | exact hQ _ _ (by assumption)
    | exact fun h => h (by assumption)
    | with_reducible refine n_X7_skipBlanks (by assumption) (fun _ _ => ?_)
    | with_reducible refine n_X7_take (by assumption) (fun _ _ _ => ?_)
    | with_reducible refine n_X7_digits (by assumption) (fun _ _ _ => ?_)
    | with_reducible refine nSI (by assumption) (by decide) (fun _ _ => ?_)
    | with_reducible refine nSL (by assumption) (fun _ _ => ?_)
    | with_reducible refine nSR (by assumption) (fun _ _ => ?_)
    | with_reducible refine nWI (by assumption) (fun _ _ => ?_)
    | with_reducible refine nWL (by assumption) (fun _ _ => ?_)
    | with_reducible refine nV (fun _ => ?_)
    | with_reducible refine nE (fun _ => ?_)
    | with_reducible refine nj0 (b := b) (v := v) (fun _ _ _ => ?_) (fun _ => ?_)
    | with_reducible refine nj1 (b := b) (v := v) (fun _ _ _ _ => ?_) (fun _ => ?_)
    | with_reducible refine nj2 (b := b) (v := v) (fun _ _ _ _ _ => ?_) (fun _ => ?_)
    | with_reducible refine nj3 (b := b) (v := v) (fun _ _ _ _ _ _ => ?_) (fun _ => ?_)
    | with_reducible refine nIz (by assumption) ?_ (fun _ => ?_)
    | with_reducible refine nI0 ?_ ?_
    | with_reducible refine nAa ?_
    | with_reducible refine nB ?_ ?_
    | exact id
theorem n_X7_moving {M : Nat → PS → (Int32 → PS → Prop) → Prop} {a : Nat} {p1 : Int32} {S : PS} {Q Q' : Int32 → PS → Prop} (hM : ∀ {a : Nat} {S : PS} {Q Q' : Int32 → PS → Prop}, Gd b v S → (∀ r S1, (r ≠ 0 → Gd b v S1) → Q r S1 → Q' r S1) → M a S Q → M a S Q') (hg : Gd b v S) (hQ : ∀ r S1, (r ≠ 0 → Gd b v S1) → Q r S1 → Q' r S1) : wp_X7_moving M a p1 S Q → wp_X7_moving M a p1 S Q' := by
  unfold wp_X7_moving
  repeat' first
    | exact hQ _ _ (fun _ => by assumption)
    | exact hQ _ _ (fun h => absurd rfl h)
    | exact hQ _ _ (by assumption)
    | exact fun h => h (by assumption)
    | with_reducible refine n_X7_signed (by assumption) (fun _ _ _ => ?_)
    | with_reducible refine n_X6_setNumbers (by assumption) (fun _ _ => ?_)
    | with_reducible refine n_X7_block hM (by assumption) (fun _ _ _ => ?_)
    | with_reducible refine hM (by assumption) (fun _ _ _ => ?_)
    | with_reducible refine nSI (by assumption) (by decide) (fun _ _ => ?_)
    | with_reducible refine nSL (by assumption) (fun _ _ => ?_)
    | with_reducible refine nSR (by assumption) (fun _ _ => ?_)
    | with_reducible refine nWI (by assumption) (fun _ _ => ?_)
    | with_reducible refine nWL (by assumption) (fun _ _ => ?_)
    | with_reducible refine nV (fun _ => ?_)
    | with_reducible refine nE (fun _ => ?_)
    | with_reducible refine nj0 (b := b) (v := v) (fun _ _ _ => ?_) (fun _ => ?_)
    | with_reducible refine nj1 (b := b) (v := v) (fun _ _ _ _ => ?_) (fun _ => ?_)
    | with_reducible refine nj2 (b := b) (v := v) (fun _ _ _ _ _ => ?_) (fun _ => ?_)
    | with_reducible refine nj3 (b := b) (v := v) (fun _ _ _ _ _ _ => ?_) (fun _ => ?_)
    | with_reducible refine nIz (by assumption) ?_ (fun _ => ?_)
    | with_reducible refine nI0 ?_ ?_
    | with_reducible refine nAa ?_
    | with_reducible refine nB ?_ ?_
    | exact id
theorem n_X7_voices {M : Nat → PS → (Int32 → PS → Prop) → Prop} {a : Nat} {S : PS} {Q Q' : Int32 → PS → Prop} (hM : ∀ {a : Nat} {S : PS} {Q Q' : Int32 → PS → Prop}, Gd b v S → (∀ r S1, (r ≠ 0 → Gd b v S1) → Q r S1 → Q' r S1) → M a S Q → M a S Q') (hg : Gd b v S) (hQ : ∀ r S1, (r ≠ 0 → Gd b v S1) → Q r S1 → Q' r S1) : wp_X7_voices M a S Q → wp_X7_voices M a S Q' := by
  unfold wp_X7_voices
  repeat' first
    | exact hQ _ _ (fun _ => by assumption)
    | exact hQ _ _ (fun h => absurd rfl h)
    | exact hQ _ _ (by assumption)
    | exact fun h => h (by assumption)
    | with_reducible refine n_X7_refuse (by assumption) (fun _ _ _ => ?_)
    | with_reducible refine n_X6_open (by assumption) (fun _ _ _ => ?_)
    | with_reducible refine n_X6_close (by assumption) (fun _ _ => ?_)
    | with_reducible refine n_X7_take (by assumption) (fun _ _ _ => ?_)
    | with_reducible refine n_X7_next (by assumption) (fun _ _ _ => ?_)
    | with_reducible refine n_X0_tell (by assumption) (fun _ _ _ => ?_)
    | with_reducible refine hM (by assumption) (fun _ _ _ => ?_)
    | with_reducible refine nSI (by assumption) (by decide) (fun _ _ => ?_)
    | with_reducible refine nSL (by assumption) (fun _ _ => ?_)
    | with_reducible refine nSR (by assumption) (fun _ _ => ?_)
    | with_reducible refine nWI (by assumption) (fun _ _ => ?_)
    | with_reducible refine nWL (by assumption) (fun _ _ => ?_)
    | with_reducible refine nV (fun _ => ?_)
    | with_reducible refine nE (fun _ => ?_)
    | with_reducible refine nj0 (b := b) (v := v) (fun _ _ _ => ?_) (fun _ => ?_)
    | with_reducible refine nj1 (b := b) (v := v) (fun _ _ _ _ => ?_) (fun _ => ?_)
    | with_reducible refine nj2 (b := b) (v := v) (fun _ _ _ _ _ => ?_) (fun _ => ?_)
    | with_reducible refine nj3 (b := b) (v := v) (fun _ _ _ _ _ _ => ?_) (fun _ => ?_)
    | with_reducible refine nIz (by assumption) ?_ (fun _ => ?_)
    | with_reducible refine nI0 ?_ ?_
    | with_reducible refine nAa ?_
    | with_reducible refine nB ?_ ?_
    | exact id
theorem n_X7_marks {a : Nat} {p1 : Int32} {p2 : Int32} {S : PS} {Q Q' : Int32 → PS → Prop} (hg : Gd b v S) (hQ : ∀ r S1, Gd b v S1 → Q r S1 → Q' r S1) : wp_X7_marks a p1 p2 S Q → wp_X7_marks a p1 p2 S Q' := by
  unfold wp_X7_marks
  repeat' first
    | exact hQ _ _ (by assumption)
    | exact fun h => h (by assumption)
    | with_reducible refine n_X7_next (by assumption) (fun _ _ _ => ?_)
    | with_reducible refine nSI (by assumption) (by decide) (fun _ _ => ?_)
    | with_reducible refine nSL (by assumption) (fun _ _ => ?_)
    | with_reducible refine nSR (by assumption) (fun _ _ => ?_)
    | with_reducible refine nWI (by assumption) (fun _ _ => ?_)
    | with_reducible refine nWL (by assumption) (fun _ _ => ?_)
    | with_reducible refine nV (fun _ => ?_)
    | with_reducible refine nE (fun _ => ?_)
    | with_reducible refine nj0 (b := b) (v := v) (fun _ _ _ => ?_) (fun _ => ?_)
    | with_reducible refine nj1 (b := b) (v := v) (fun _ _ _ _ => ?_) (fun _ => ?_)
    | with_reducible refine nj2 (b := b) (v := v) (fun _ _ _ _ _ => ?_) (fun _ => ?_)
    | with_reducible refine nj3 (b := b) (v := v) (fun _ _ _ _ _ _ => ?_) (fun _ => ?_)
    | with_reducible refine nIz (by assumption) ?_ (fun _ => ?_)
    | with_reducible refine nI0 ?_ ?_
    | with_reducible refine nAa ?_
    | with_reducible refine nB ?_ ?_
    | exact id
theorem n_X6_setTicks {a : Nat} {p1 : Int32} {p2 : Int64} {S : PS} {Q Q' : PS → Prop} (hg : Gd b v S) (hQ : ∀ S1, Gd b v S1 → Q S1 → Q' S1) : wp_X6_setTicks a p1 p2 S Q → wp_X6_setTicks a p1 p2 S Q' := by
  unfold wp_X6_setTicks
  repeat' first
    | exact hQ _ (by assumption)
    | exact fun h => h (by assumption)
    | with_reducible refine n_X6_holds (by assumption) (fun _ _ _ => ?_)
    | with_reducible refine nSI (by assumption) (by decide) (fun _ _ => ?_)
    | with_reducible refine nSL (by assumption) (fun _ _ => ?_)
    | with_reducible refine nSR (by assumption) (fun _ _ => ?_)
    | with_reducible refine nWI (by assumption) (fun _ _ => ?_)
    | with_reducible refine nWL (by assumption) (fun _ _ => ?_)
    | with_reducible refine nV (fun _ => ?_)
    | with_reducible refine nE (fun _ => ?_)
    | with_reducible refine nj0 (b := b) (v := v) (fun _ _ _ => ?_) (fun _ => ?_)
    | with_reducible refine nj1 (b := b) (v := v) (fun _ _ _ _ => ?_) (fun _ => ?_)
    | with_reducible refine nj2 (b := b) (v := v) (fun _ _ _ _ _ => ?_) (fun _ => ?_)
    | with_reducible refine nj3 (b := b) (v := v) (fun _ _ _ _ _ _ => ?_) (fun _ => ?_)
    | with_reducible refine nIz (by assumption) ?_ (fun _ => ?_)
    | with_reducible refine nI0 ?_ ?_
    | with_reducible refine nAa ?_
    | with_reducible refine nB ?_ ?_
    | exact id
theorem n_X7_length {a : Nat} {p1 : Int32} {S : PS} {Q Q' : Int32 → PS → Prop} (hg : Gd b v S) (hQ : ∀ r S1, (r ≠ 0 → Gd b v S1) → Q r S1 → Q' r S1) : wp_X7_length a p1 S Q → wp_X7_length a p1 S Q' := by
  unfold wp_X7_length
  repeat' first
    | exact hQ _ _ (fun _ => by assumption)
    | exact hQ _ _ (fun h => absurd rfl h)
    | exact hQ _ _ (by assumption)
    | exact fun h => h (by assumption)
    | with_reducible refine n_X7_take (by assumption) (fun _ _ _ => ?_)
    | with_reducible refine n_X7_next (by assumption) (fun _ _ _ => ?_)
    | with_reducible refine n_X7_isDigit (by assumption) (fun _ _ _ => ?_)
    | with_reducible refine n_X7_digits (by assumption) (fun _ _ _ => ?_)
    | with_reducible refine n_X7_inRange (by assumption) (fun _ _ _ => ?_)
    | with_reducible refine n_X7_powerOfTwo (by assumption) (fun _ _ _ => ?_)
    | with_reducible refine n_X7_marks (by assumption) (fun _ _ _ => ?_)
    | with_reducible refine n_X6_setTicks (by assumption) (fun _ _ => ?_)
    | with_reducible refine nSI (by assumption) (by decide) (fun _ _ => ?_)
    | with_reducible refine nSL (by assumption) (fun _ _ => ?_)
    | with_reducible refine nSR (by assumption) (fun _ _ => ?_)
    | with_reducible refine nWI (by assumption) (fun _ _ => ?_)
    | with_reducible refine nWL (by assumption) (fun _ _ => ?_)
    | with_reducible refine nV (fun _ => ?_)
    | with_reducible refine nE (fun _ => ?_)
    | with_reducible refine nj0 (b := b) (v := v) (fun _ _ _ => ?_) (fun _ => ?_)
    | with_reducible refine nj1 (b := b) (v := v) (fun _ _ _ _ => ?_) (fun _ => ?_)
    | with_reducible refine nj2 (b := b) (v := v) (fun _ _ _ _ _ => ?_) (fun _ => ?_)
    | with_reducible refine nj3 (b := b) (v := v) (fun _ _ _ _ _ _ => ?_) (fun _ => ?_)
    | with_reducible refine nIz (by assumption) ?_ (fun _ => ?_)
    | with_reducible refine nI0 ?_ ?_
    | with_reducible refine nAa ?_
    | with_reducible refine nB ?_ ?_
    | exact id
theorem n_X7_isPitchLetter {p1 : Int32} {S : PS} {Q Q' : Int32 → PS → Prop} (hg : Gd b v S) (hQ : ∀ r S1, Gd b v S1 → Q r S1 → Q' r S1) : wp_X7_isPitchLetter p1 S Q → wp_X7_isPitchLetter p1 S Q' := by
  unfold wp_X7_isPitchLetter
  repeat' first
    | exact hQ _ _ (by assumption)
    | exact fun h => h (by assumption)
    | with_reducible refine nSI (by assumption) (by decide) (fun _ _ => ?_)
    | with_reducible refine nSL (by assumption) (fun _ _ => ?_)
    | with_reducible refine nSR (by assumption) (fun _ _ => ?_)
    | with_reducible refine nWI (by assumption) (fun _ _ => ?_)
    | with_reducible refine nWL (by assumption) (fun _ _ => ?_)
    | with_reducible refine nV (fun _ => ?_)
    | with_reducible refine nE (fun _ => ?_)
    | with_reducible refine nj0 (b := b) (v := v) (fun _ _ _ => ?_) (fun _ => ?_)
    | with_reducible refine nj1 (b := b) (v := v) (fun _ _ _ _ => ?_) (fun _ => ?_)
    | with_reducible refine nj2 (b := b) (v := v) (fun _ _ _ _ _ => ?_) (fun _ => ?_)
    | with_reducible refine nj3 (b := b) (v := v) (fun _ _ _ _ _ _ => ?_) (fun _ => ?_)
    | with_reducible refine nIz (by assumption) ?_ (fun _ => ?_)
    | with_reducible refine nI0 ?_ ?_
    | with_reducible refine nAa ?_
    | with_reducible refine nB ?_ ?_
    | exact id
theorem n_X10_make {p1 : Int32} {p2 : Int32} {p3 : Int32} {S : PS} {Q Q' : Int32 → PS → Prop} (hg : Gd b v S) (hQ : ∀ r S1, Gd b v S1 → Q r S1 → Q' r S1) : wp_X10_make p1 p2 p3 S Q → wp_X10_make p1 p2 p3 S Q' := by
  unfold wp_X10_make
  repeat' first
    | exact hQ _ _ (by assumption)
    | exact fun h => h (by assumption)
    | with_reducible refine nSI (by assumption) (by decide) (fun _ _ => ?_)
    | with_reducible refine nSL (by assumption) (fun _ _ => ?_)
    | with_reducible refine nSR (by assumption) (fun _ _ => ?_)
    | with_reducible refine nWI (by assumption) (fun _ _ => ?_)
    | with_reducible refine nWL (by assumption) (fun _ _ => ?_)
    | with_reducible refine nV (fun _ => ?_)
    | with_reducible refine nE (fun _ => ?_)
    | with_reducible refine nj0 (b := b) (v := v) (fun _ _ _ => ?_) (fun _ => ?_)
    | with_reducible refine nj1 (b := b) (v := v) (fun _ _ _ _ => ?_) (fun _ => ?_)
    | with_reducible refine nj2 (b := b) (v := v) (fun _ _ _ _ _ => ?_) (fun _ => ?_)
    | with_reducible refine nj3 (b := b) (v := v) (fun _ _ _ _ _ _ => ?_) (fun _ => ?_)
    | with_reducible refine nIz (by assumption) ?_ (fun _ => ?_)
    | with_reducible refine nI0 ?_ ?_
    | with_reducible refine nAa ?_
    | with_reducible refine nB ?_ ?_
    | exact id
theorem n_X7_written {a : Nat} {S : PS} {Q Q' : Int32 → PS → Prop} (hg : Gd b v S) (hQ : ∀ r S1, (r ≠ 0 → Gd b v S1) → Q r S1 → Q' r S1) : wp_X7_written a S Q → wp_X7_written a S Q' := by
  unfold wp_X7_written
  repeat' first
    | exact hQ _ _ (fun _ => by assumption)
    | exact hQ _ _ (fun h => absurd rfl h)
    | exact hQ _ _ (by assumption)
    | exact fun h => h (by assumption)
    | with_reducible refine n_X7_next (by assumption) (fun _ _ _ => ?_)
    | with_reducible refine n_X7_isPitchLetter (by assumption) (fun _ _ _ => ?_)
    | with_reducible refine n_X7_refuse (by assumption) (fun _ _ _ => ?_)
    | with_reducible refine n_X7_marks (by assumption) (fun _ _ _ => ?_)
    | with_reducible refine n_X10_make (by assumption) (fun _ _ _ => ?_)
    | with_reducible refine n_X6_addPart (by assumption) (fun _ _ => ?_)
    | with_reducible refine nSI (by assumption) (by decide) (fun _ _ => ?_)
    | with_reducible refine nSL (by assumption) (fun _ _ => ?_)
    | with_reducible refine nSR (by assumption) (fun _ _ => ?_)
    | with_reducible refine nWI (by assumption) (fun _ _ => ?_)
    | with_reducible refine nWL (by assumption) (fun _ _ => ?_)
    | with_reducible refine nV (fun _ => ?_)
    | with_reducible refine nE (fun _ => ?_)
    | with_reducible refine nj0 (b := b) (v := v) (fun _ _ _ => ?_) (fun _ => ?_)
    | with_reducible refine nj1 (b := b) (v := v) (fun _ _ _ _ => ?_) (fun _ => ?_)
    | with_reducible refine nj2 (b := b) (v := v) (fun _ _ _ _ _ => ?_) (fun _ => ?_)
    | with_reducible refine nj3 (b := b) (v := v) (fun _ _ _ _ _ _ => ?_) (fun _ => ?_)
    | with_reducible refine nIz (by assumption) ?_ (fun _ => ?_)
    | with_reducible refine nI0 ?_ ?_
    | with_reducible refine nAa ?_
    | with_reducible refine nB ?_ ?_
    | exact id
theorem n_X7_chord {a : Nat} {S : PS} {Q Q' : Int32 → PS → Prop} (hg : Gd b v S) (hQ : ∀ r S1, (r ≠ 0 → Gd b v S1) → Q r S1 → Q' r S1) : wp_X7_chord a S Q → wp_X7_chord a S Q' := by
  unfold wp_X7_chord
  repeat' first
    | exact hQ _ _ (fun _ => by assumption)
    | exact hQ _ _ (fun h => absurd rfl h)
    | exact hQ _ _ (by assumption)
    | exact fun h => h (by assumption)
    | with_reducible refine n_X7_refuse (by assumption) (fun _ _ _ => ?_)
    | with_reducible refine n_X7_skipBlanks (by assumption) (fun _ _ => ?_)
    | with_reducible refine n_X7_written (by assumption) (fun _ _ _ => ?_)
    | with_reducible refine n_X7_next (by assumption) (fun _ _ _ => ?_)
    | with_reducible refine n_X7_isPitchLetter (by assumption) (fun _ _ _ => ?_)
    | with_reducible refine n_X0_tell (by assumption) (fun _ _ _ => ?_)
    | with_reducible refine n_X7_take (by assumption) (fun _ _ _ => ?_)
    | with_reducible refine nSI (by assumption) (by decide) (fun _ _ => ?_)
    | with_reducible refine nSL (by assumption) (fun _ _ => ?_)
    | with_reducible refine nSR (by assumption) (fun _ _ => ?_)
    | with_reducible refine nWI (by assumption) (fun _ _ => ?_)
    | with_reducible refine nWL (by assumption) (fun _ _ => ?_)
    | with_reducible refine nV (fun _ => ?_)
    | with_reducible refine nE (fun _ => ?_)
    | with_reducible refine nj0 (b := b) (v := v) (fun _ _ _ => ?_) (fun _ => ?_)
    | with_reducible refine nj1 (b := b) (v := v) (fun _ _ _ _ => ?_) (fun _ => ?_)
    | with_reducible refine nj2 (b := b) (v := v) (fun _ _ _ _ _ => ?_) (fun _ => ?_)
    | with_reducible refine nj3 (b := b) (v := v) (fun _ _ _ _ _ _ => ?_) (fun _ => ?_)
    | with_reducible refine nIz (by assumption) ?_ (fun _ => ?_)
    | with_reducible refine nI0 ?_ ?_
    | with_reducible refine nAa ?_
    | with_reducible refine nB ?_ ?_
    | exact id
theorem n_X7_sound {a : Nat} {p1 : Int32} {S : PS} {Q Q' : Int32 → PS → Prop} (hg : Gd b v S) (hQ : ∀ r S1, (r ≠ 0 → Gd b v S1) → Q r S1 → Q' r S1) : wp_X7_sound a p1 S Q → wp_X7_sound a p1 S Q' := by
  unfold wp_X7_sound
  repeat' first
    | exact hQ _ _ (fun _ => by assumption)
    | exact hQ _ _ (fun h => absurd rfl h)
    | exact hQ _ _ (by assumption)
    | exact fun h => h (by assumption)
    | with_reducible refine n_X7_take (by assumption) (fun _ _ _ => ?_)
    | with_reducible refine n_X7_length (by assumption) (fun _ _ _ => ?_)
    | with_reducible refine n_X6_setNumbers (by assumption) (fun _ _ => ?_)
    | with_reducible refine n_X7_written (by assumption) (fun _ _ _ => ?_)
    | with_reducible refine n_X7_chord (by assumption) (fun _ _ _ => ?_)
    | with_reducible refine nSI (by assumption) (by decide) (fun _ _ => ?_)
    | with_reducible refine nSL (by assumption) (fun _ _ => ?_)
    | with_reducible refine nSR (by assumption) (fun _ _ => ?_)
    | with_reducible refine nWI (by assumption) (fun _ _ => ?_)
    | with_reducible refine nWL (by assumption) (fun _ _ => ?_)
    | with_reducible refine nV (fun _ => ?_)
    | with_reducible refine nE (fun _ => ?_)
    | with_reducible refine nj0 (b := b) (v := v) (fun _ _ _ => ?_) (fun _ => ?_)
    | with_reducible refine nj1 (b := b) (v := v) (fun _ _ _ _ => ?_) (fun _ => ?_)
    | with_reducible refine nj2 (b := b) (v := v) (fun _ _ _ _ _ => ?_) (fun _ => ?_)
    | with_reducible refine nj3 (b := b) (v := v) (fun _ _ _ _ _ _ => ?_) (fun _ => ?_)
    | with_reducible refine nIz (by assumption) ?_ (fun _ => ?_)
    | with_reducible refine nI0 ?_ ?_
    | with_reducible refine nAa ?_
    | with_reducible refine nB ?_ ?_
    | exact id
theorem n_X7_music : ∀ d, ∀ {a : Nat} {S : PS} {Q Q' : Int32 → PS → Prop}, Gd b v S → (∀ r S1, (r ≠ 0 → Gd b v S1) → Q r S1 → Q' r S1) → wp_X7_music d a S Q → wp_X7_music d a S Q' := by
  intro d
  induction d with
  | zero => intro a S Q Q' _ _ h; exact h.elim
  | succ d ih =>
    intro a S Q Q' hg hQ
    unfold wp_X7_music
    refine nj1 (b := b) (v := v) (fun _ _ _ _ => ?_) (fun _ h => h hg)
    repeat' first
      | exact hQ _ _ (fun _ => by assumption)
      | exact hQ _ _ (fun h => absurd rfl h)
      | exact hQ _ _ (by assumption)
      | exact fun h => h (by assumption)
      | exact fun h => h (fun _ => by assumption)
      | with_reducible refine n_X7_skipBlanks (by assumption) (fun _ _ => ?_)
      | with_reducible refine n_X7_next (by assumption) (fun _ _ _ => ?_)
      | with_reducible refine n_J0_indexOf_0f7a4 (by assumption) (fun _ _ _ => ?_)
      | with_reducible refine n_X6_open (by assumption) (fun _ _ _ => ?_)
      | with_reducible refine n_X6_close (by assumption) (fun _ _ => ?_)
      | with_reducible refine n_X7_use (fun g q => ih g q) (by assumption) (fun _ _ _ => ?_)
      | with_reducible refine n_X7_naming (fun g q => ih g q) (by assumption) (fun _ _ _ => ?_)
      | with_reducible refine n_X7_relative (fun g q => ih g q) (by assumption) (fun _ _ _ => ?_)
      | with_reducible refine n_X7_meter (by assumption) (fun _ _ _ => ?_)
      | with_reducible refine n_X7_rounds (fun g q => ih g q) (by assumption) (fun _ _ _ => ?_)
      | with_reducible refine n_X7_tuplet (fun g q => ih g q) (by assumption) (fun _ _ _ => ?_)
      | with_reducible refine n_X7_words (by assumption) (fun _ _ _ => ?_)
      | with_reducible refine n_X7_moving (fun g q => ih g q) (by assumption) (fun _ _ _ => ?_)
      | with_reducible refine n_X7_voices (fun g q => ih g q) (by assumption) (fun _ _ _ => ?_)
      | with_reducible refine n_X7_take (by assumption) (fun _ _ _ => ?_)
      | with_reducible refine n_X7_sound (by assumption) (fun _ _ _ => ?_)
      | with_reducible refine nSI (by assumption) (by decide) (fun _ _ => ?_)
      | with_reducible refine nSL (by assumption) (fun _ _ => ?_)
      | with_reducible refine nSR (by assumption) (fun _ _ => ?_)
      | with_reducible refine nWI (by assumption) (fun _ _ => ?_)
      | with_reducible refine nWL (by assumption) (fun _ _ => ?_)
      | with_reducible refine nV (fun _ => ?_)
      | with_reducible refine nE (fun _ => ?_)
      | with_reducible refine njc (b := b) (v := v) (fun _ _ _ _ => ?_) (fun _ => ?_)
      | with_reducible refine nj0 (b := b) (v := v) (fun _ _ _ => ?_) (fun _ => ?_)
      | with_reducible refine nj1 (b := b) (v := v) (fun _ _ _ _ => ?_) (fun _ => ?_)
      | with_reducible refine nj2 (b := b) (v := v) (fun _ _ _ _ _ => ?_) (fun _ => ?_)
      | with_reducible refine nj3 (b := b) (v := v) (fun _ _ _ _ _ _ => ?_) (fun _ => ?_)
      | with_reducible refine nIz (by assumption) ?_ (fun _ => ?_)
      | with_reducible refine nI0 ?_ ?_
      | with_reducible refine nAa ?_
      | with_reducible refine nB ?_ ?_
      | exact id
theorem n_X7_readText {a : Nat} {S : PS} {Q Q' : Int32 → PS → Prop} (hg : Gd b v S) (hQ : ∀ r S1, (r ≠ 0 → Gd b v S1) → Q r S1 → Q' r S1) : wp_X7_readText a S Q → wp_X7_readText a S Q' := by
  unfold wp_X7_readText
  repeat' first
    | exact hQ _ _ (fun _ => by assumption)
    | exact hQ _ _ (fun h => absurd rfl h)
    | exact hQ _ _ (by assumption)
    | exact fun h => h (by assumption)
    | with_reducible refine n_X7_music _ (by assumption) (fun _ _ _ => ?_)
    | with_reducible refine n_X7_next (by assumption) (fun _ _ _ => ?_)
    | with_reducible refine n_X7_refuse (by assumption) (fun _ _ _ => ?_)
    | with_reducible refine nSI (by assumption) (by decide) (fun _ _ => ?_)
    | with_reducible refine nSL (by assumption) (fun _ _ => ?_)
    | with_reducible refine nSR (by assumption) (fun _ _ => ?_)
    | with_reducible refine nWI (by assumption) (fun _ _ => ?_)
    | with_reducible refine nWL (by assumption) (fun _ _ => ?_)
    | with_reducible refine nV (fun _ => ?_)
    | with_reducible refine nE (fun _ => ?_)
    | with_reducible refine nj0 (b := b) (v := v) (fun _ _ _ => ?_) (fun _ => ?_)
    | with_reducible refine nj1 (b := b) (v := v) (fun _ _ _ _ => ?_) (fun _ => ?_)
    | with_reducible refine nj2 (b := b) (v := v) (fun _ _ _ _ _ => ?_) (fun _ => ?_)
    | with_reducible refine nj3 (b := b) (v := v) (fun _ _ _ _ _ _ => ?_) (fun _ => ?_)
    | with_reducible refine nIz (by assumption) ?_ (fun _ => ?_)
    | with_reducible refine nI0 ?_ ?_
    | with_reducible refine nAa ?_
    | with_reducible refine nB ?_ ?_
    | exact id
end
