/-- what a cell outside is: the same as before -/
def Same (S0 S : PS) (b : Nat) : Prop := (∀ j, fI S j b = fI S0 j b ∧ fL S j b = fL S0 j b ∧ fR S j b = fR S0 j b) ∧ ∀ r i, aI S r b i = aI S0 r b i ∧ aL S r b i = aL S0 r b i ∧ aR S r b i = aR S0 r b i
/-- an array that was made since S0: of its role and length, all 0 -/
def Zero (S0 S : PS) (q r N : Nat) : Prop := q ∉ pL S0 ∧ Rf S q r ∧ aN S q = N ∧ ∀ r1 i, aI S r1 q i = 0 ∧ aL S r1 q i = 0 ∧ aR S r1 q i = none
/-- S comes out of S0: old cells but a are as they were -/
def From (S0 S : PS) (a : Nat) : Prop := Ext S0 S ∧ ∀ b, b ∈ pL S0 → b ≠ a → Same S0 S b
theorem From.rf {S0 : PS} {a : Nat} : From S0 S0 a := ⟨Ext.rf, fun b _ _ => ⟨fun j => ⟨rfl, rfl, rfl⟩, fun r i => ⟨rfl, rfl, rfl⟩⟩⟩
theorem From.sI {S0 S : PS} {a j : Nat} {v : Int32} (h : From S0 S a) : From S0 (sI S j a v) a := ⟨h.1.tr Ext.sI, fun b hb hne => ⟨fun i => ⟨by rw [fI_sI, if_neg (fun q => hne q.2)]; exact ((h.2 b hb hne).1 i).1, ((h.2 b hb hne).1 i).2⟩, (h.2 b hb hne).2⟩⟩
theorem From.sL {S0 S : PS} {a j : Nat} {v : Int64} (h : From S0 S a) : From S0 (sL S j a v) a := ⟨h.1.tr Ext.sL, fun b hb hne => ⟨fun i => ⟨((h.2 b hb hne).1 i).1, by rw [fL_sL, if_neg (fun q => hne q.2)]; exact ((h.2 b hb hne).1 i).2.1, ((h.2 b hb hne).1 i).2.2⟩, (h.2 b hb hne).2⟩⟩
theorem From.sR {S0 S : PS} {a j : Nat} {v : Option Nat} (h : From S0 S a) : From S0 (sR S j a v) a := ⟨h.1.tr Ext.sR, fun b hb hne => ⟨fun i => ⟨((h.2 b hb hne).1 i).1, ((h.2 b hb hne).1 i).2.1, by rw [fR_sR, if_neg (fun q => hne q.2)]; exact ((h.2 b hb hne).1 i).2.2⟩, (h.2 b hb hne).2⟩⟩
theorem From.mkA {S0 S : PS} {a r q N : Nat} (h : From S0 S a) (hq : q ∉ pL S) : From S0 (nA S r q N) a := by
  refine ⟨h.1.tr (Ext.mkA hq), fun b hb hne => ⟨(h.2 b hb hne).1, fun r1 i => ?_⟩⟩
  have hbq : b ≠ q := fun e => hq (e ▸ (h.1 b hb).1)
  rw [aI_nA, aL_nA, aR_nA, if_neg hbq, if_neg hbq, if_neg hbq]
  exact (h.2 b hb hne).2 r1 i
theorem From.fresh {S0 S : PS} {a q : Nat} (h : From S0 S a) (hq : q ∉ pL S) : q ∉ pL S0 := fun e => hq (h.1 q e).1
theorem Zero.mkA {S0 S : PS} {a r q N : Nat} (h : From S0 S a) (hq : q ∉ pL S) : Zero S0 (nA S r q N) q r N := ⟨h.fresh hq, Rf.mkA, if_pos rfl, fun r1 i => ⟨if_pos rfl, if_pos rfl, if_pos rfl⟩⟩
theorem Zero.sI {S0 S : PS} {a j q r N : Nat} {v : Int32} (h : Zero S0 S q r N) : Zero S0 (sI S j a v) q r N := h
theorem Zero.sL {S0 S : PS} {a j q r N : Nat} {v : Int64} (h : Zero S0 S q r N) : Zero S0 (sL S j a v) q r N := h
theorem Zero.sR {S0 S : PS} {a j q r N : Nat} {v : Option Nat} (h : Zero S0 S q r N) : Zero S0 (sR S j a v) q r N := h
theorem Zero.keepA {S0 S : PS} {q r N q1 r1 N1 : Nat} (h : Zero S0 S q r N) (hq : q1 ∉ pL S) : Zero S0 (nA S r1 q1 N1) q r N := by
  have hne : q ≠ q1 := fun e => hq (e ▸ h.2.1.1)
  refine ⟨h.1, h.2.1.tr (Ext.mkA hq), by rw [aN_nA, if_neg hne]; exact h.2.2.1, fun r2 i => ?_⟩
  rw [aI_nA, aL_nA, aR_nA, if_neg hne, if_neg hne, if_neg hne]
  exact h.2.2.2 r2 i
/-- the object a of class k, its array fields from lo up to n made (role fG, length sz) -/
def Built (S0 S : PS) (a k lo n : Nat) (sz : Nat → Nat) : Prop := Rf S a k ∧ From S0 S a ∧ ∀ j, lo ≤ j → j < n → fT j = 2 → ∃ q, fR S j a = some q ∧ Zero S0 S q (fG j) (sz j)
theorem Built.rf {S0 : PS} {a k lo : Nat} {sz : Nat → Nat} (h : Rf S0 a k) : Built S0 S0 a k lo lo sz := ⟨h, From.rf, fun j h1 h2 => absurd h1 (by omega)⟩
theorem Built.skip {S0 S : PS} {a k lo n : Nat} {sz : Nat → Nat} (h : Built S0 S a k lo n sz) (hn : fT n ≠ 2) : Built S0 S a k lo (n + 1) sz := ⟨h.1, h.2.1, fun j h1 h2 h3 => h.2.2 j h1 (by rcases Nat.lt_or_ge j n with q | q; exact q; exact absurd (by rw [← show j = n by omega]; exact h3) hn) h3⟩
theorem Built.sI {S0 S : PS} {a k lo n j : Nat} {sz : Nat → Nat} {v : Int32} (h : Built S0 S a k lo n sz) : Built S0 (sI S j a v) a k lo n sz := ⟨h.1, h.2.1.sI, h.2.2⟩
theorem Built.sL {S0 S : PS} {a k lo n j : Nat} {sz : Nat → Nat} {v : Int64} (h : Built S0 S a k lo n sz) : Built S0 (sL S j a v) a k lo n sz := ⟨h.1, h.2.1.sL, h.2.2⟩
theorem Built.arr {S0 S : PS} {a k lo n r N q : Nat} {sz : Nat → Nat} (h : Built S0 S a k lo n sz) (hq : q ∉ pL S) (hr : fG n = r) (hN : sz n = N) : Built S0 (sR (nA S r q N) n a (some q)) a k lo (n + 1) sz := by
  refine ⟨h.1.tr (Ext.mkA hq), (h.2.1.mkA hq).sR, fun j h1 h2 h3 => ?_⟩
  rw [fR_sR]
  by_cases hj : j = n
  · rw [if_pos ⟨hj, rfl⟩]
    subst hj
    subst hr
    subst hN
    exact ⟨q, rfl, (Zero.mkA h.2.1 hq).sR⟩
  · rw [if_neg (fun e => hj e.1)]
    obtain ⟨z, hz1, hz2⟩ := h.2.2 j h1 (by omega) h3
    exact ⟨z, hz1, (hz2.keepA hq).sR⟩
