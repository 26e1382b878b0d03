/-! Performing: what both hold; how the stack of open blocks is told. -/
section
/-- how many of X 1 .. X k have p -/
def cp (p : Nat → Bool) (X : Nat → Nat) : Nat → Nat
  | 0 => 0
  | k + 1 => cp p X k + (if p (X (k + 1)) = true then 1 else 0)
def pf (w : Nat → Nat) (X : Nat → Nat) : Nat → Nat
  | 0 => 1
  | k + 1 => pf w X k * w (X (k + 1))
def sf (w : Nat → Int) (X : Nat → Nat) : Nat → Int
  | 0 => 0
  | k + 1 => sf w X k + w (X (k + 1))
theorem cp_cg {p : Nat → Bool} {X Y : Nat → Nat} : ∀ {k : Nat}, (∀ i, 1 ≤ i → i ≤ k → Y i = X i) → cp p Y k = cp p X k := by
  intro k
  induction k with
  | zero => intro _; rfl
  | succ k ih => intro h; rw [cp, cp, ih (fun i a b => h i a (by omega)), h (k + 1) (by omega) (by omega)]
theorem pf_cg {p : Nat → Nat} {X Y : Nat → Nat} : ∀ {k : Nat}, (∀ i, 1 ≤ i → i ≤ k → Y i = X i) → pf p Y k = pf p X k := by
  intro k
  induction k with
  | zero => intro _; rfl
  | succ k ih => intro h; rw [pf, pf, ih (fun i a b => h i a (by omega)), h (k + 1) (by omega) (by omega)]
theorem sf_cg {p : Nat → Int} {X Y : Nat → Nat} : ∀ {k : Nat}, (∀ i, 1 ≤ i → i ≤ k → Y i = X i) → sf p Y k = sf p X k := by
  intro k
  induction k with
  | zero => intro _; rfl
  | succ k ih => intro h; rw [sf, sf, ih (fun i a b => h i a (by omega)), h (k + 1) (by omega) (by omega)]
theorem cp_uq {p : Nat → Bool} {X : Nat → Nat} {k d x : Nat} (h : k < d) : cp p (uq X d x) k = cp p X k := cp_cg (fun i _ b => uq_ne (by omega))
theorem pf_uq {p : Nat → Nat} {X : Nat → Nat} {k d x : Nat} (h : k < d) : pf p (uq X d x) k = pf p X k := pf_cg (fun i _ b => uq_ne (by omega))
theorem sf_uq {p : Nat → Int} {X : Nat → Nat} {k d x : Nat} (h : k < d) : sf p (uq X d x) k = sf p X k := sf_cg (fun i _ b => uq_ne (by omega))
theorem cp_pu {p : Nat → Bool} {X : Nat → Nat} {d x : Nat} (h : 1 ≤ d) : cp p (uq X d x) d = cp p X (d - 1) + (if p x = true then 1 else 0) := by
  obtain ⟨k, rfl⟩ : ∃ k, d = k + 1 := ⟨d - 1, by omega⟩
  rw [cp, cp_uq (by omega), uq_at, Nat.add_sub_cancel]
theorem pf_pu {p : Nat → Nat} {X : Nat → Nat} {d x : Nat} (h : 1 ≤ d) : pf p (uq X d x) d = pf p X (d - 1) * p x := by
  obtain ⟨k, rfl⟩ : ∃ k, d = k + 1 := ⟨d - 1, by omega⟩
  rw [pf, pf_uq (by omega), uq_at, Nat.add_sub_cancel]
theorem sf_pu {p : Nat → Int} {X : Nat → Nat} {d x : Nat} (h : 1 ≤ d) : sf p (uq X d x) d = sf p X (d - 1) + p x := by
  obtain ⟨k, rfl⟩ : ∃ k, d = k + 1 := ⟨d - 1, by omega⟩
  rw [sf, sf_uq (by omega), uq_at, Nat.add_sub_cancel]
theorem cp_po {p : Nat → Bool} {X : Nat → Nat} {d : Nat} (h : 1 ≤ d) : cp p X d = cp p X (d - 1) + (if p (X d) = true then 1 else 0) := by
  obtain ⟨k, rfl⟩ : ∃ k, d = k + 1 := ⟨d - 1, by omega⟩
  rw [cp, Nat.add_sub_cancel]
theorem pf_po {p : Nat → Nat} {X : Nat → Nat} {d : Nat} (h : 1 ≤ d) : pf p X d = pf p X (d - 1) * p (X d) := by
  obtain ⟨k, rfl⟩ : ∃ k, d = k + 1 := ⟨d - 1, by omega⟩
  rw [pf, Nat.add_sub_cancel]
theorem sf_po {p : Nat → Int} {X : Nat → Nat} {d : Nat} (h : 1 ≤ d) : sf p X d = sf p X (d - 1) + p (X d) := by
  obtain ⟨k, rfl⟩ : ∃ k, d = k + 1 := ⟨d - 1, by omega⟩
  rw [sf, Nat.add_sub_cancel]
theorem cp_le {p : Nat → Bool} {X : Nat → Nat} : ∀ k, cp p X k ≤ k := by
  intro k
  induction k with
  | zero => exact Nat.le_refl 0
  | succ k ih => rw [cp]; split <;> omega
theorem cp_mono {p : Nat → Bool} {X : Nat → Nat} {i k : Nat} (h : i ≤ k) : cp p X i ≤ cp p X k := by
  induction k with
  | zero => have : i = 0 := by omega
            subst this; exact Nat.le_refl _
  | succ k ih =>
    by_cases e : i = k + 1
    · subst e; exact Nat.le_refl _
    · rw [cp]; have := ih (by omega); split <;> omega
def pk (ks : Nat → Nat) (s : Nat) (x : Nat) : Bool := decide (ks x = s)
theorem pk_t {ks : Nat → Nat} {s x : Nat} (h : ks x = s) : pk ks s x = true := decide_eq_true h
theorem pk_f {ks : Nat → Nat} {s x : Nat} (h : ks x ≠ s) : pk ks s x = false := decide_eq_false h
/-- a use of a name -/
def pn (S0 : PS) (A ks : Nat → Nat) (x : Nat) : Bool := decide (ks x = 10 ∧ aI S0 19 (A 19) (x - 1) = 0)
def wu (S0 : PS) (A ks : Nat → Nat) (x : Nat) : Nat := if ks x = 5 then (aI S0 19 (A 19) (x - 1)).toInt.toNat else 1
def wd5 (S0 : PS) (A ks : Nat → Nat) (x : Nat) : Nat := if ks x = 5 then (aI S0 18 (A 18) (x - 1)).toInt.toNat else 1
def wm (S0 : PS) (A ks : Nat → Nat) (r : Nat) (x : Nat) : Int := if ks x = 6 then (aI S0 r (A r) (x - 1)).toInt else 0
/-- an entry, or a holder, as a number -/
def hz (x : Nat) : Int32 := if x = 0 then -1 else nI (x - 1)
/-- a holder as the reference tells it -/
def hw (S0 : PS) (A ks X : Nat → Nat) (h : Nat) : Int32 := if h = 0 then -1 else nI (cp (pn S0 A ks) X (h - 2))
/-- the level of a list -/
def ll (ks par lv : Nat → Nat) (y : Nat) : Nat := if y = 0 then 0 else lv y + stp ks par y
/-- old cells but those of W are as they were -/
def Kws (W : Nat → Prop) (S S1 : PS) : Prop := Ext S S1 ∧ ∀ b, b ∈ pL S → ¬ W b → Same S S1 b
theorem Same.rf {S : PS} {b : Nat} : Same S S b := ⟨fun _ => ⟨rfl, rfl, rfl⟩, fun _ _ => ⟨rfl, rfl, rfl⟩⟩
theorem Same.tr {S S1 S2 : PS} {b : Nat} (h : Same S S1 b) (g : Same S1 S2 b) : Same S S2 b := ⟨fun j => ⟨(g.1 j).1.trans (h.1 j).1, (g.1 j).2.1.trans (h.1 j).2.1, (g.1 j).2.2.trans (h.1 j).2.2⟩, fun r i => ⟨(g.2 r i).1.trans (h.2 r i).1, (g.2 r i).2.1.trans (h.2 r i).2.1, (g.2 r i).2.2.trans (h.2 r i).2.2⟩⟩
theorem Kws.rf {W : Nat → Prop} {S : PS} : Kws W S S := ⟨Ext.rf, fun _ _ _ => Same.rf⟩
theorem Kws.tr {W : Nat → Prop} {S S1 S2 : PS} (h : Kws W S S1) (g : Kws W S1 S2) : Kws W S S2 := ⟨h.1.tr g.1, fun b hb hw => (h.2 b hb hw).tr (g.2 b (h.1 b hb).1 hw)⟩
section
variable {W : Nat → Prop} {S0 S : PS} {a j r i : Nat}
theorem Kws.sI {v : Int32} (h : Kws W S0 S) (ha : W a ∨ a ∉ pL S0) : Kws W S0 (sI S j a v) := by
  refine ⟨h.1.tr Ext.sI, fun b hb hw => ?_⟩
  have hne : b ≠ a := fun e => by subst e; rcases ha with z | z; exact hw z; exact z hb
  exact ⟨fun i => ⟨by rw [fI_sI, if_neg (fun q => hne q.2)]; exact ((h.2 b hb hw).1 i).1, ((h.2 b hb hw).1 i).2⟩, (h.2 b hb hw).2⟩
theorem Kws.sL {v : Int64} (h : Kws W S0 S) (ha : W a ∨ a ∉ pL S0) : Kws W S0 (sL S j a v) := by
  refine ⟨h.1.tr Ext.sL, fun b hb hw => ?_⟩
  have hne : b ≠ a := fun e => by subst e; rcases ha with z | z; exact hw z; exact z hb
  exact ⟨fun i => ⟨((h.2 b hb hw).1 i).1, by rw [fL_sL, if_neg (fun q => hne q.2)]; exact ((h.2 b hb hw).1 i).2.1, ((h.2 b hb hw).1 i).2.2⟩, (h.2 b hb hw).2⟩
theorem Kws.sR {v : Option Nat} (h : Kws W S0 S) (ha : W a ∨ a ∉ pL S0) : Kws W S0 (sR S j a v) := by
  refine ⟨h.1.tr Ext.sR, fun b hb hw => ?_⟩
  have hne : b ≠ a := fun e => by subst e; rcases ha with z | z; exact hw z; exact z hb
  exact ⟨fun i => ⟨((h.2 b hb hw).1 i).1, ((h.2 b hb hw).1 i).2.1, by rw [fR_sR, if_neg (fun q => hne q.2)]; exact ((h.2 b hb hw).1 i).2.2⟩, (h.2 b hb hw).2⟩
theorem Kws.wI {v : Int32} (h : Kws W S0 S) (ha : W a ∨ a ∉ pL S0) : Kws W S0 (wI S r a i v) := by
  refine ⟨h.1.tr Ext.wI, fun b hb hw => ?_⟩
  have hne : b ≠ a := fun e => by subst e; rcases ha with z | z; exact hw z; exact z hb
  exact ⟨(h.2 b hb hw).1, fun r1 i1 => ⟨by rw [aI_wI, if_neg (fun q => hne q.2.1)]; exact ((h.2 b hb hw).2 r1 i1).1, ((h.2 b hb hw).2 r1 i1).2⟩⟩
theorem Kws.wL {v : Int64} (h : Kws W S0 S) (ha : W a ∨ a ∉ pL S0) : Kws W S0 (wL S r a i v) := by
  refine ⟨h.1.tr Ext.wL, fun b hb hw => ?_⟩
  have hne : b ≠ a := fun e => by subst e; rcases ha with z | z; exact hw z; exact z hb
  exact ⟨(h.2 b hb hw).1, fun r1 i1 => ⟨((h.2 b hb hw).2 r1 i1).1, by rw [aL_wL, if_neg (fun q => hne q.2.1)]; exact ((h.2 b hb hw).2 r1 i1).2.1, ((h.2 b hb hw).2 r1 i1).2.2⟩⟩
theorem Kws.wR {v : Option Nat} (h : Kws W S0 S) (ha : W a ∨ a ∉ pL S0) : Kws W S0 (wR S r a i v) := by
  refine ⟨h.1.tr Ext.wR, fun b hb hw => ?_⟩
  have hne : b ≠ a := fun e => by subst e; rcases ha with z | z; exact hw z; exact z hb
  exact ⟨(h.2 b hb hw).1, fun r1 i1 => ⟨((h.2 b hb hw).2 r1 i1).1, ((h.2 b hb hw).2 r1 i1).2.1, by rw [aR_wR, if_neg (fun q => hne q.2.1)]; exact ((h.2 b hb hw).2 r1 i1).2.2⟩⟩
theorem Kws.mkO {k q : Nat} (h : Kws W S0 S) (hq : q ∉ pL S) : Kws W S0 (nO S k q) := by
  refine ⟨h.1.tr (Ext.mkO hq), fun b hb hw => ?_⟩
  have hne : b ≠ q := fun e => hq (e ▸ (h.1 b hb).1)
  exact ⟨fun i => ⟨by rw [fI_nO, if_neg hne]; exact ((h.2 b hb hw).1 i).1, by rw [fL_nO, if_neg hne]; exact ((h.2 b hb hw).1 i).2.1, by rw [fR_nO, if_neg hne]; exact ((h.2 b hb hw).1 i).2.2⟩, (h.2 b hb hw).2⟩
end
/-! what is written in performing -/
def pwr (r : Nat) : Bool := decide (r = 2 ∨ r = 3 ∨ r = 7 ∨ 10 ≤ r ∧ r ≤ 13 ∨ 28 ≤ r ∧ r ≤ 38)
def PW (A : Nat → Nat) (S0 : PS) (b : Nat) : Prop := (∃ r, pwr r = true ∧ b = A r) ∨ pK S0 b = 1
/-- and in telling a fault -/
def PWb (A : Nat → Nat) (S0 : PS) (b : Nat) : Prop := PW A S0 b ∨ b = A 0
theorem Kws.mono {W W' : Nat → Prop} {S S1 : PS} (h : Kws W S S1) (f : ∀ b, W b → W' b) : Kws W' S S1 := ⟨h.1, fun b hb hw => h.2 b hb (fun z => hw (f b z))⟩
theorem kws_bad {A : Nat → Nat} {S0 S : PS} {k p : Int32} (h : Kws (PW A S0) S0 S) : Kws (PWb A S0) S0 (sI (sI S 0 (A 0) k) 1 (A 0) p) :=
  ((Kws.mono (W' := PWb A S0) h (fun _ z => Or.inl z)).sI (Or.inl (Or.inr rfl))).sI (Or.inl (Or.inr rfl))
theorem PW.at {A : Nat → Nat} {S0 : PS} {r : Nat} (h : pwr r = true) : PW A S0 (A r) ∨ A r ∉ pL S0 := Or.inl (Or.inl ⟨r, h, rfl⟩)
theorem PW.fr {A : Nat → Nat} {S0 S : PS} {a : Nat} (h : Ext S0 S) (ha : Rf S a 1) : PW A S0 a ∨ a ∉ pL S0 := by
  by_cases c : a ∈ pL S0
  · exact Or.inl (Or.inr (by rw [← (h a c).2.1]; exact ha.2))
  · exact Or.inr c
/-- the class's cells -/
def adr (r : Nat) : Bool := decide (r = 0 ∨ r = 2 ∨ r = 3 ∨ r = 5 ∨ r = 6 ∨ r = 7 ∨ 10 ≤ r ∧ r ≤ 13 ∨ 16 ≤ r ∧ r ≤ 38)
def Ad (S : PS) (A : Nat → Nat) : Prop := ∀ r, adr r = true → Rf S (A r) r
theorem Ad.ext {S S1 : PS} {A : Nat → Nat} (h : Ad S A) (g : Ext S S1) : Ad S1 A := fun r hr => (h r hr).tr g
theorem Ad.ne {S : PS} {A : Nat → Nat} (h : Ad S A) {r s : Nat} (hr : adr r = true) (hs : adr s = true) (hn : r ≠ s) : A r ≠ A s := fun e => hn (by rw [← (h r hr).2, ← (h s hs).2, e])
theorem PW.not {A : Nat → Nat} {S0 : PS} {r : Nat} (h : Ad S0 A) (hr : adr r = true) (hw : pwr r = false) (h1 : r ≠ 1) : ¬ PW A S0 (A r) := by
  rintro (⟨s, hs, e⟩ | e)
  · have : r = s := by
      have hs2 : adr s = true := by unfold pwr at hs; unfold adr; simp only [decide_eq_true_eq] at hs ⊢; omega
      rw [← (h r hr).2, ← (h s hs2).2, e]
    subst this; rw [hw] at hs; cases hs
  · rw [(h r hr).2] at e; exact h1 e
theorem Kws.at {A : Nat → Nat} {S0 S : PS} {r : Nat} (hk : Kws (PW A S0) S0 S) (h : Ad S0 A) (hr : adr r = true) (hw : pwr r = false) (h1 : r ≠ 1) : Same S0 S (A r) := hk.2 _ (h r hr).1 (PW.not h hr hw h1)
theorem Same.fI {S S1 : PS} {b j : Nat} (h : Same S S1 b) : fI S1 j b = fI S j b := (h.1 j).1
theorem Same.fL {S S1 : PS} {b j : Nat} (h : Same S S1 b) : fL S1 j b = fL S j b := (h.1 j).2.1
theorem Same.fR {S S1 : PS} {b j : Nat} (h : Same S S1 b) : fR S1 j b = fR S j b := (h.1 j).2.2
theorem Same.aI {S S1 : PS} {b r : Nat} (h : Same S S1 b) : aI S1 r b = aI S r b := by funext i; exact (h.2 r i).1
theorem Same.aL {S S1 : PS} {b r : Nat} (h : Same S S1 b) : aL S1 r b = aL S r b := by funext i; exact (h.2 r i).2.1
theorem Same.aR {S S1 : PS} {b r : Nat} (h : Same S S1 b) : aR S1 r b = aR S r b := by funext i; exact (h.2 r i).2.2
end
