/-! The pure layer begins: numbers, what a run keeps, scanning of a text. -/
theorem nI_le_iff {a b : Nat} (ha : a < 2 ^ 31) (hb : b < 2 ^ 31) : nI a ≤ nI b ↔ a ≤ b := by
  rw [Int32.le_iff_toInt_le, nI_toInt ha, nI_toInt hb]; omega
theorem nI_lt_iff {a b : Nat} (ha : a < 2 ^ 31) (hb : b < 2 ^ 31) : nI a < nI b ↔ a < b := by
  rw [Int32.lt_iff_toInt_lt, nI_toInt ha, nI_toInt hb]; omega
theorem nI_sub {a b : Nat} (h : b ≤ a) : nI a - nI b = nI (a - b) := by
  have h1 : nI a = nI (a - b) + nI b := by rw [nI_add, Nat.sub_add_cancel h]
  rw [h1, Int32.add_sub_cancel]
theorem nI_ne_neg {a : Nat} (ha : a < 2 ^ 31) : nI a ≠ -1 := by
  intro h
  have h1 := congrArg Int32.toInt h
  rw [nI_toInt ha] at h1
  have h2 : (-1 : Int32).toInt = -1 := by decide
  omega
/-- the part of a state that only new cells change -/
def St (S : PS) : List Nat × (Nat → Nat) × (Nat → Nat → Option Nat) × (Nat → Nat) × (Nat → Nat → Nat → Option Nat) := (pL S, pK S, fR S, aN S, aR S)
theorem St_sI (S : PS) (j a : Nat) (v : Int32) : St (sI S j a v) = St S := rfl
theorem St_sL (S : PS) (j a : Nat) (v : Int64) : St (sL S j a v) = St S := rfl
theorem St_wI (S : PS) (r a i : Nat) (v : Int32) : St (wI S r a i v) = St S := rfl
theorem St_wL (S : PS) (r a i : Nat) (v : Int64) : St (wL S r a i v) = St S := rfl
theorem St.fR {S S1 : PS} (h : St S1 = St S) : fR S1 = fR S := congrArg (fun x => x.2.2.1) h
theorem St.aN {S S1 : PS} (h : St S1 = St S) : aN S1 = aN S := congrArg (fun x => x.2.2.2.1) h
theorem St.pL {S S1 : PS} (h : St S1 = St S) : pL S1 = pL S := congrArg (fun x => x.1) h
theorem St.pK {S S1 : PS} (h : St S1 = St S) : pK S1 = pK S := congrArg (fun x => x.2.1) h
theorem St.aR {S S1 : PS} (h : St S1 = St S) : aR S1 = aR S := congrArg (fun x => x.2.2.2.2) h
/-- only fields J and arrays of roles R have changed, and no cell is new -/
def Keep (J R : Nat → Bool) (S S1 : PS) : Prop := St S1 = St S ∧ (∀ j, J j = false → fI S1 j = fI S j ∧ fL S1 j = fL S j) ∧ ∀ r, R r = false → aI S1 r = aI S r ∧ aL S1 r = aL S r
theorem Keep.rf {J R : Nat → Bool} {S : PS} : Keep J R S S := ⟨rfl, fun _ _ => ⟨rfl, rfl⟩, fun _ _ => ⟨rfl, rfl⟩⟩
theorem Keep.tr {J R : Nat → Bool} {S S1 S2 : PS} (h : Keep J R S S1) (g : Keep J R S1 S2) : Keep J R S S2 := ⟨g.1.trans h.1, fun j hj => ⟨(g.2.1 j hj).1.trans (h.2.1 j hj).1, (g.2.1 j hj).2.trans (h.2.1 j hj).2⟩, fun r hr => ⟨(g.2.2 r hr).1.trans (h.2.2 r hr).1, (g.2.2 r hr).2.trans (h.2.2 r hr).2⟩⟩
theorem Keep.sI {J R : Nat → Bool} {S S1 : PS} {j a : Nat} {v : Int32} (h : Keep J R S S1) (hj : J j = true) : Keep J R S (sI S1 j a v) := h.tr ⟨rfl, fun i hi => ⟨by (funext b; rw [fI_sI, if_neg]; rintro ⟨rfl, -⟩; rw [hj] at hi; cases hi), rfl⟩, fun _ _ => ⟨rfl, rfl⟩⟩
theorem Keep.sL {J R : Nat → Bool} {S S1 : PS} {j a : Nat} {v : Int64} (h : Keep J R S S1) (hj : J j = true) : Keep J R S (sL S1 j a v) := h.tr ⟨rfl, fun i hi => ⟨rfl, by funext b; rw [fL_sL, if_neg]; rintro ⟨rfl, -⟩; rw [hj] at hi; cases hi⟩, fun _ _ => ⟨rfl, rfl⟩⟩
theorem Keep.wI {J R : Nat → Bool} {S S1 : PS} {r a i : Nat} {v : Int32} (h : Keep J R S S1) (hr : R r = true) : Keep J R S (wI S1 r a i v) := h.tr ⟨rfl, fun _ _ => ⟨rfl, rfl⟩, fun q hq => ⟨by (funext b k; rw [aI_wI, if_neg]; rintro ⟨rfl, -⟩; rw [hr] at hq; cases hq), rfl⟩⟩
theorem Keep.wL {J R : Nat → Bool} {S S1 : PS} {r a i : Nat} {v : Int64} (h : Keep J R S S1) (hr : R r = true) : Keep J R S (wL S1 r a i v) := h.tr ⟨rfl, fun _ _ => ⟨rfl, rfl⟩, fun q hq => ⟨rfl, by funext b k; rw [aL_wL, if_neg]; rintro ⟨rfl, -⟩; rw [hr] at hq; cases hq⟩⟩
theorem Keep.mono {J R J1 R1 : Nat → Bool} {S S1 : PS} (h : Keep J R S S1) (hJ : ∀ j, J1 j = false → J j = false) (hR : ∀ r, R1 r = false → R r = false) : Keep J1 R1 S S1 := ⟨h.1, fun j hj => h.2.1 j (hJ j hj), fun r hr => h.2.2 r (hR r hr)⟩
/-- a field set twice -/
theorem sI_sI (S : PS) (j a : Nat) (v w : Int32) : sI (sI S j a v) j a w = sI S j a w := by
  have : up2 (up2 S.2.2.1 j a v) j a w = up2 S.2.2.1 j a w := by
    funext i b; unfold up2; by_cases h : i = j ∧ b = a
    · rw [if_pos h, if_pos h]
    · rw [if_neg h, if_neg h, if_neg h]
  show (S.1, S.2.1, up2 (up2 S.2.2.1 j a v) j a w, S.2.2.2) = _
  rw [this]; rfl
theorem sI_self {S : PS} {j a : Nat} {v : Int32} (h : fI S j a = v) : sI S j a v = S := by
  have : up2 S.2.2.1 j a v = S.2.2.1 := by
    funext i b; unfold up2; by_cases h1 : i = j ∧ b = a
    · rw [if_pos h1]; obtain ⟨rfl, rfl⟩ := h1; exact h.symm
    · rw [if_neg h1]
  show (S.1, S.2.1, up2 S.2.2.1 j a v, S.2.2.2) = _
  rw [this]
/-! scanning -/
def scn (f : Int32 → Bool) (B : Nat → Int32) : Nat → Nat → Nat
  | 0, p => p
  | k + 1, p => if f (B p) = true then scn f B k (p + 1) else p
def sc (f : Int32 → Bool) (B : Nat → Int32) (p : Nat) : Nat := scn f B (1500 - p) p
theorem sc_stop {f : Int32 → Bool} {B : Nat → Int32} {p : Nat} (h : f (B p) = false) : sc f B p = p := by
  unfold sc
  cases hk : 1500 - p with
  | zero => rfl
  | succ k => rw [scn, if_neg (by rw [h]; decide)]
theorem sc_go {f : Int32 → Bool} {B : Nat → Int32} {p : Nat} (h : f (B p) = true) (hp : p < 1500) : sc f B p = sc f B (p + 1) := by
  unfold sc
  obtain ⟨k, hk⟩ : ∃ k, 1500 - p = k + 1 := ⟨1500 - p - 1, by omega⟩
  have hk1 : 1500 - (p + 1) = k := by omega
  rw [hk, hk1, scn, if_pos h]
theorem scn_ge {f : Int32 → Bool} {B : Nat → Int32} : ∀ k p, p ≤ scn f B k p := by
  intro k
  induction k with
  | zero => intro p; exact Nat.le_refl p
  | succ k ih =>
    intro p; rw [scn]
    split
    · exact Nat.le_trans (Nat.le_succ p) (ih (p + 1))
    · exact Nat.le_refl p
theorem sc_ge {f : Int32 → Bool} {B : Nat → Int32} {p : Nat} : p ≤ sc f B p := scn_ge _ _
theorem scn_in {f : Int32 → Bool} {B : Nat → Int32} : ∀ k p q, p ≤ q → q < scn f B k p → f (B q) = true := by
  intro k
  induction k with
  | zero => intro p q h1 h2; rw [scn] at h2; omega
  | succ k ih =>
    intro p q h1 h2; rw [scn] at h2
    split at h2
    · rename_i h
      by_cases e : q = p
      · rw [e]; exact h
      · exact ih (p + 1) q (by omega) h2
    · omega
theorem sc_in {f : Int32 → Bool} {B : Nat → Int32} {p q : Nat} (h1 : p ≤ q) (h2 : q < sc f B p) : f (B q) = true := scn_in _ _ _ h1 h2
/-- a text: its bytes up to n, -1 from there on -/
def Tx (B : Nat → Int32) (n : Nat) : Prop := n ≤ 1500 ∧ (∀ q, n ≤ q → B q = -1) ∧ ∀ q, q < n → 0 ≤ (B q).toInt ∧ (B q).toInt ≤ 255
theorem sc_le {f : Int32 → Bool} {B : Nat → Int32} {p n : Nat} (hB : Tx B n) (hf : f (-1) = false) (hp : p ≤ n) : sc f B p ≤ n := by
  rcases Nat.lt_or_ge n (sc f B p) with h | h
  · have := sc_in (f := f) (B := B) (q := n) hp h
    rw [hB.2.1 n (Nat.le_refl n), hf] at this; cases this
  · exact h
theorem scn_end {f : Int32 → Bool} {B : Nat → Int32} {n : Nat} (hB : Tx B n) (hf : f (-1) = false) : ∀ k p, n ≤ p + k → f (B (scn f B k p)) = false := by
  intro k
  induction k with
  | zero => intro p h; rw [scn, hB.2.1 p (by omega)]; exact hf
  | succ k ih =>
    intro p h; rw [scn]
    split
    · exact ih (p + 1) (by omega)
    · rename_i h1; exact Bool.eq_false_iff.mpr h1
theorem sc_end {f : Int32 → Bool} {B : Nat → Int32} {n p : Nat} (hB : Tx B n) (hf : f (-1) = false) : f (B (sc f B p)) = false := scn_end hB hf _ _ (by have := hB.1; omega)
theorem Tx.lt {B : Nat → Int32} {n p : Nat} (hB : Tx B n) {c : Int32} (h : B p = c) (hc : c ≠ -1) : p < n := by
  rcases Nat.lt_or_ge p n with q | q
  · exact q
  · exact absurd (h.symm.trans (hB.2.1 p q)) hc
/-- blanks: spaces, newlines, remarks -/
def bks (B : Nat → Int32) : Nat → Bool → Nat → Nat
  | 0, _, p => p
  | k + 1, m, p => if B p = -1 then p else if B p = 37 then bks B k true (p + 1) else if B p = 10 then bks B k false (p + 1) else if B p = 32 then bks B k m (p + 1) else if m = true then bks B k true (p + 1) else p
def bl (B : Nat → Int32) (p : Nat) : Nat := bks B (1500 - p) false p
theorem bks_ge {B : Nat → Int32} : ∀ k m p, p ≤ bks B k m p := by
  intro k
  induction k with
  | zero => intro m p; exact Nat.le_refl p
  | succ k ih =>
    intro m p; rw [bks]
    have h1 := ih true (p + 1)
    have h2 := ih false (p + 1)
    have h3 := ih m (p + 1)
    repeat' split
    all_goals omega
theorem bl_ge {B : Nat → Int32} {p : Nat} : p ≤ bl B p := bks_ge _ _ _
theorem bks_le {B : Nat → Int32} {n : Nat} (hB : Tx B n) : ∀ k m p, p ≤ n → bks B k m p ≤ n := by
  intro k
  induction k with
  | zero => intro m p h; exact h
  | succ k ih =>
    intro m p h; rw [bks]
    have hp : B p ≠ -1 → p + 1 ≤ n := fun h1 => by
      rcases Nat.lt_or_ge p n with q | q
      · exact q
      · exact absurd (hB.2.1 p q) h1
    split
    · exact h
    · rename_i h1
      have h2 := hp h1
      repeat' split
      · exact ih _ _ h2
      · exact ih _ _ h2
      · exact ih _ _ h2
      · exact ih _ _ h2
      · exact h
theorem bl_le {B : Nat → Int32} {n p : Nat} (hB : Tx B n) (hp : p ≤ n) : bl B p ≤ n := bks_le hB _ _ _ hp
theorem bks_end {B : Nat → Int32} {n : Nat} (hB : Tx B n) : ∀ k m p, n ≤ p + k → B (bks B k m p) ≠ 37 ∧ B (bks B k m p) ≠ 10 ∧ B (bks B k m p) ≠ 32 := by
  intro k
  induction k with
  | zero =>
    intro m p h; rw [bks, hB.2.1 p (by omega)]; decide
  | succ k ih =>
    intro m p h; rw [bks]
    have h1 := fun m => ih m (p + 1) (by omega)
    split
    · rename_i h2; rw [h2]; decide
    · repeat' split
      · exact h1 _
      · exact h1 _
      · exact h1 _
      · exact h1 _
      · exact ⟨by assumption, by assumption, by assumption⟩
theorem bl_end {B : Nat → Int32} {n p : Nat} (hB : Tx B n) : B (bl B p) ≠ 37 ∧ B (bl B p) ≠ 10 ∧ B (bl B p) ≠ 32 := bks_end hB _ _ _ (by have := hB.1; omega)
theorem bl_self {B : Nat → Int32} {p : Nat} (h : B p ≠ 37 ∧ B p ≠ 10 ∧ B p ≠ 32) : bl B p = p := by
  unfold bl
  cases 1500 - p with
  | zero => rfl
  | succ k =>
    rw [bks, if_neg h.1, if_neg h.2.1, if_neg h.2.2]
    split
    · rfl
    · rfl
theorem bl_bl {B : Nat → Int32} {n p : Nat} (hB : Tx B n) : bl B (bl B p) = bl B p := bl_self (bl_end hB)
