/-! The reference's items: a new item, its link, tones. -/
section
variable {S : PS} {A : Nat → Nat} {B : Nat → Int32} {n p T : Nat}
def jJ (j : Nat) : Bool := decide (j = 113)
def rJ (r : Nat) : Bool := decide (42 ≤ r ∧ r ≤ 49)
/-- a new item T of sort s at pl -/
def NI (S S1 : PS) (A : Nat → Nat) (T : Nat) (s pl : Int32) : Prop := Keep jJ rJ S S1 ∧ fI S1 113 (A 9) = nI (T + 1) ∧ aI S1 42 (A 42) = uq (aI S 42 (A 42)) T s ∧ aI S1 43 (A 43) = uq (aI S 43 (A 43)) T pl ∧ aI S1 44 (A 44) = uq (aI S 44 (A 44)) T 0 ∧ aI S1 45 (A 45) = uq (aI S 45 (A 45)) T 0 ∧ aI S1 46 (A 46) = uq (aI S 46 (A 46)) T (-1) ∧ aI S1 47 (A 47) = uq (aI S 47 (A 47)) T (-1) ∧ aL S1 48 (A 48) = uq (aL S 48 (A 48)) T 0 ∧ aI S1 49 (A 49) = uq (aI S 49 (A 49)) T 0
theorem r_item {Q : Int32 → PS → Prop} {s pl : Int32} (h : LayM S A) (hT : fI S 113 (A 9) = nI T) (hb : T < 3100) (hQ : ∀ S1, NI S S1 A T s pl → Q (nI T) S1) : wp_X12_item (A 9) s pl S Q := by
  unfold wp_X12_item
  intro v1 hv1
  rw [hT] at hv1
  subst hv1
  rintro _ rfl
  refine ⟨_, h.f105, ?_, ?_⟩
  · show vp_in (nI T) (aN S (A 42)); rw [h.n42]; exact vp_in_nI hb (by omega)
  rintro _ rfl
  refine ⟨_, h.f106, ?_, ?_⟩
  · show vp_in (nI T) (aN S (A 43)); rw [h.n43]; exact vp_in_nI hb (by omega)
  rintro _ rfl
  refine ⟨_, h.f107, ?_, ?_⟩
  · show vp_in (nI T) (aN S (A 44)); rw [h.n44]; exact vp_in_nI hb (by omega)
  rintro _ rfl
  refine ⟨_, h.f108, ?_, ?_⟩
  · show vp_in (nI T) (aN S (A 45)); rw [h.n45]; exact vp_in_nI hb (by omega)
  rintro _ rfl
  refine ⟨_, h.f109, ?_, ?_⟩
  · show vp_in (nI T) (aN S (A 46)); rw [h.n46]; exact vp_in_nI hb (by omega)
  rintro _ rfl
  refine ⟨_, h.f110, ?_, ?_⟩
  · show vp_in (nI T) (aN S (A 47)); rw [h.n47]; exact vp_in_nI hb (by omega)
  rintro _ rfl
  refine ⟨_, h.f111, ?_, ?_⟩
  · show vp_in (nI T) (aN S (A 48)); rw [h.n48]; exact vp_in_nI hb (by omega)
  rintro _ rfl
  refine ⟨_, h.f112, ?_, ?_⟩
  · show vp_in (nI T) (aN S (A 49)); rw [h.n49]; exact vp_in_nI hb (by omega)
  rintro _ rfl
  rw [nI_clamp (by omega), hT, nI_1]
  refine hQ _ ⟨((((((((Keep.rf.sI rfl).wI rfl).wI rfl).wI rfl).wI rfl).wI rfl).wI rfl).wL rfl).wI rfl, ?_, ?_, ?_, ?_, ?_, ?_, ?_, ?_, ?_⟩
  all_goals simp only [fI_s, fI_sn, fL_s, fL_sn, aI_w, aI_wn, aL_w, aL_wn, fI_sL, fI_wI, fI_wL, fL_sI, fL_wI, fL_wL, aI_sI, aI_sL, aI_wL, aL_sI, aL_sL, aL_wI, fR_sI, fR_sL, fR_wI, fR_wL, aN_sI, aN_sL, aN_wI, aN_wL, ne_eq, Nat.reduceEqDiff, not_false_eq_true]
  rfl
/-- how a list grows by T: m holds its first, lst is its last so far -/
def Lnk (T m : Nat) (lst : Int32) (inn nxt inn1 nxt1 : Nat → Int32) : Prop := (∀ i, i ≠ T → i ≠ m → inn1 i = inn i) ∧ inn1 T = -1 ∧ (∀ i, i ≠ T → i < T → nI i ≠ lst → nxt1 i = nxt i) ∧ nxt1 T = -1 ∧ (lst = -1 → inn1 m = nI T) ∧ (lst ≠ -1 → inn1 m = inn m ∧ ∀ l, lst = nI l → l < T → nxt1 l = nI T)
theorem Tre.lnk {N x : Nat} {g ow bh par : Nat → Nat} {pe : Nat → Bool} {inn nxt inn1 nxt1 : Nat → Int32} {lst : Int32} (h : Tre N T g ow bh par pe inn nxt) (hx : Top N g bh par x lst) (hN : N < 4000) (hT : T < 5000) (hl : Lnk T (ow x) lst inn nxt inn1 nxt1) :
    Tre (N + 1) (T + 1) (uq g (N + 1) T) (uq ow (N + 1) T) (uq bh (N + 1) 5000) (uq par (N + 1) x) (uq pe (N + 1) false) inn1 nxt1 ∧ Top (N + 1) (uq g (N + 1) T) (uq bh (N + 1) 5000) (uq par (N + 1) x) (N + 1) (-1) :=
  h.add hx hN hT false hl.1 hl.2.1 hl.2.2.1 hl.2.2.2.1 (fun _ => hl.2.2.2.2) (fun e => by cases e)
def jH (_ : Nat) : Bool := false
def rH (r : Nat) : Bool := decide (r = 46 ∨ r = 47 ∨ r = 64)
/-- the item v is hung into the list of the open music op -/
theorem r_hang {Q : PS → Prop} {op m : Nat} {lst : Int32} (h : LayM S A) (ho : fI S 134 (A 9) = nI (op + 1)) (hop : op ≤ 8) (hm : aI S 63 (A 63) op = nI m) (hmT : m < T) (hl : aI S 64 (A 64) op = lst) (hlst : lst = -1 ∨ ∃ l, l < T ∧ lst = nI l) (hT : T < 3100)
    (h46 : aI S 46 (A 46) T = -1) (h47 : aI S 47 (A 47) T = -1)
    (hQ : ∀ S1, Keep jH rH S S1 → Lnk T m lst (aI S 46 (A 46)) (aI S 47 (A 47)) (aI S1 46 (A 46)) (aI S1 47 (A 47)) → aI S1 64 (A 64) = uq (aI S 64 (A 64)) op (nI T) → Q S1) : wp_X12_hang (A 9) (nI T) S Q := by
  unfold wp_X12_hang
  intro v1 hv1
  rw [ho, nI_pred] at hv1
  subst hv1
  have io : ∀ {r k : Nat}, op < k → k < 2 ^ 31 → vp_in (nI op) k := fun a b => vp_in_nI a b
  refine ⟨_, h.f133, by rw [h.n64]; exact vp_in_nI (by omega) (by omega), ?_⟩
  intro K hK
  rw [nI_clamp (by omega), hl]
  have fin : ∀ S1, Keep jH rH S S1 → aI S1 64 = aI S 64 → Lnk T m lst (aI S 46 (A 46)) (aI S 47 (A 47)) (aI S1 46 (A 46)) (aI S1 47 (A 47)) → K S1 := by
    intro S1 k1 e1 l1
    apply hK
    have h1 := h.st k1.1
    refine ⟨_, h1.f133, by rw [h1.n64]; exact vp_in_nI (by omega) (by omega), ?_⟩
    rw [nI_clamp (by omega)]
    rintro _ rfl
    refine hQ _ (k1.wI rfl) (by simp only [fI_s, fI_sn, fL_s, fL_sn, aI_w, aI_wn, aL_w, aL_wn, fI_sL, fI_wI, fI_wL, fL_sI, fL_wI, fL_wL, aI_sI, aI_sL, aI_wL, aL_sI, aL_sL, aL_wI, fR_sI, fR_sL, fR_wI, fR_wL, aN_sI, aN_sL, aN_wI, aN_wL, ne_eq, Nat.reduceEqDiff, not_false_eq_true]; exact l1) (by simp only [fI_s, fI_sn, fL_s, fL_sn, aI_w, aI_wn, aL_w, aL_wn, fI_sL, fI_wI, fI_wL, fL_sI, fL_wI, fL_wL, aI_sI, aI_sL, aI_wL, aL_sI, aL_sL, aL_wI, fR_sI, fR_sL, fR_wI, fR_wL, aN_sI, aN_sL, aN_wI, aN_wL, ne_eq, Nat.reduceEqDiff, not_false_eq_true]; rw [e1])
  by_cases c : lst = -1
  · rw [if_pos c]
    refine ⟨_, h.f109, _, h.f132, by rw [h.n63]; exact vp_in_nI (by omega) (by omega), ?_⟩
    rw [hm, h.n46]
    refine ⟨vp_in_nI (by omega) (by omega), ?_⟩
    rw [nI_clamp (by omega)]
    rintro _ rfl
    refine fin _ (Keep.rf.wI rfl) (by simp only [fI_s, fI_sn, fL_s, fL_sn, aI_w, aI_wn, aL_w, aL_wn, fI_sL, fI_wI, fI_wL, fL_sI, fL_wI, fL_wL, aI_sI, aI_sL, aI_wL, aL_sI, aL_sL, aL_wI, fR_sI, fR_sL, fR_wI, fR_wL, aN_sI, aN_sL, aN_wI, aN_wL, ne_eq, Nat.reduceEqDiff, not_false_eq_true]) ?_
    simp only [fI_s, fI_sn, fL_s, fL_sn, aI_w, aI_wn, aL_w, aL_wn, fI_sL, fI_wI, fI_wL, fL_sI, fL_wI, fL_wL, aI_sI, aI_sL, aI_wL, aL_sI, aL_sL, aL_wI, fR_sI, fR_sL, fR_wI, fR_wL, aN_sI, aN_sL, aN_wI, aN_wL, ne_eq, Nat.reduceEqDiff, not_false_eq_true]
    exact ⟨fun i a b => uq_ne b, by rw [uq_ne (by omega)]; exact h46, fun i _ _ _ => rfl, h47, fun _ => uq_at, fun d => absurd c d⟩
  · rw [if_neg c]
    rcases hlst with d | ⟨l, l1, l2⟩
    · exact absurd d c
    refine ⟨_, h.f110, _, h.f133, by rw [h.n64]; exact vp_in_nI (by omega) (by omega), ?_⟩
    rw [hl, l2, h.n47]
    refine ⟨vp_in_nI (by omega) (by omega), ?_⟩
    rw [nI_clamp (by omega)]
    rintro _ rfl
    refine fin _ (Keep.rf.wI rfl) (by simp only [fI_s, fI_sn, fL_s, fL_sn, aI_w, aI_wn, aL_w, aL_wn, fI_sL, fI_wI, fI_wL, fL_sI, fL_wI, fL_wL, aI_sI, aI_sL, aI_wL, aL_sI, aL_sL, aL_wI, fR_sI, fR_sL, fR_wI, fR_wL, aN_sI, aN_sL, aN_wI, aN_wL, ne_eq, Nat.reduceEqDiff, not_false_eq_true]) ?_
    simp only [fI_s, fI_sn, fL_s, fL_sn, aI_w, aI_wn, aL_w, aL_wn, fI_sL, fI_wI, fI_wL, fL_sI, fL_wI, fL_wL, aI_sI, aI_sL, aI_wL, aL_sI, aL_sL, aL_wI, fR_sI, fR_sL, fR_wI, fR_wL, aN_sI, aN_sL, aN_wI, aN_wL, ne_eq, Nat.reduceEqDiff, not_false_eq_true]
    refine ⟨fun i _ _ => rfl, h46, fun i a b d => uq_ne (fun e => d (by rw [e, l2])), by rw [uq_ne (by omega)]; exact h47, fun d => absurd d c, fun _ => ⟨rfl, fun k e f => ?_⟩⟩
    · have : k = l := by rw [l2, nI_eq (by omega) (by omega)] at e; omega
      rw [this]; exact uq_at
def jIH (j : Nat) : Bool := decide (j = 113)
def rIH (r : Nat) : Bool := decide (42 ≤ r ∧ r ≤ 49 ∨ r = 64)
/-- a new item, hung -/
def IH (S S1 : PS) (A : Nat → Nat) (T op m : Nat) (lst s pl : Int32) : Prop := Keep jIH rIH S S1 ∧ fI S1 113 (A 9) = nI (T + 1) ∧ aI S1 42 (A 42) = uq (aI S 42 (A 42)) T s ∧ aI S1 43 (A 43) = uq (aI S 43 (A 43)) T pl ∧ aI S1 44 (A 44) = uq (aI S 44 (A 44)) T 0 ∧ aI S1 45 (A 45) = uq (aI S 45 (A 45)) T 0 ∧ Lnk T m lst (aI S 46 (A 46)) (aI S 47 (A 47)) (aI S1 46 (A 46)) (aI S1 47 (A 47)) ∧ aL S1 48 (A 48) = uq (aL S 48 (A 48)) T 0 ∧ aI S1 49 (A 49) = uq (aI S 49 (A 49)) T 0 ∧ aI S1 64 (A 64) = uq (aI S 64 (A 64)) op (nI T)
theorem r_new {Q : Int32 → PS → Prop} {op m : Nat} {lst s pl : Int32} (h : LayM S A) (hT : fI S 113 (A 9) = nI T) (hb : T < 3100) (ho : fI S 134 (A 9) = nI (op + 1)) (hop : op ≤ 8) (hm : aI S 63 (A 63) op = nI m) (hmT : m < T) (hl : aI S 64 (A 64) op = lst) (hlst : lst = -1 ∨ ∃ l, l < T ∧ lst = nI l)
    (hQ : ∀ S1, IH S S1 A T op m lst s pl → Q (nI T) S1) : wp_X12_item (A 9) s pl S (fun r S1 => wp_X12_hang (A 9) r S1 (fun S2 => Q r S2)) := by
  refine r_item h hT hb (fun S1 h1 => ?_)
  obtain ⟨k, a1, a2, a3, a4, a5, a6, a7, a8, a9⟩ := h1
  refine r_hang (T := T) (m := m) (lst := lst) (op := op) (h.st k.1) (by rw [(k.2.1 134 rfl).1]; exact ho) hop (by rw [(k.2.2 63 rfl).1]; exact hm) hmT (by rw [(k.2.2 64 rfl).1]; exact hl) hlst hb (by rw [a6]; exact uq_at) (by rw [a7]; exact uq_at) (fun S2 k2 l2 w2 => ?_)
  refine hQ S2 ⟨?_, ?_, ?_, ?_, ?_, ?_, ?_, ?_, ?_, ?_⟩
  · exact (k.mono (J1 := jIH) (R1 := rIH) (fun j => id) (fun r => by unfold rIH rJ; simp only [decide_eq_false_iff_not]; omega)).tr (k2.mono (fun j _ => rfl) (fun r => by unfold rIH rH; simp only [decide_eq_false_iff_not]; omega))
  · rw [(k2.2.1 113 rfl).1]; exact a1
  · rw [(k2.2.2 42 rfl).1]; exact a2
  · rw [(k2.2.2 43 rfl).1]; exact a3
  · rw [(k2.2.2 44 rfl).1]; exact a4
  · rw [(k2.2.2 45 rfl).1]; exact a5
  · rw [a6, a7] at l2
    obtain ⟨l3, l4, l5, l6, l7, l8⟩ := l2
    refine ⟨fun i d e => by rw [l3 i d e, uq_ne d], l4, fun i d e f => by rw [l5 i d e f, uq_ne d], l6, l7, fun d => ⟨by rw [(l8 d).1, uq_ne (by omega)], (l8 d).2⟩⟩
  · rw [(k2.2.2 48 rfl).2]; exact a8
  · rw [(k2.2.2 49 rfl).1]; exact a9
  · rw [w2, (k.2.2 64 rfl).1]
end
