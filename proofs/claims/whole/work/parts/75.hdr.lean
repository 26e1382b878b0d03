/-! Heads of items: both readers. -/
section
variable {S : PS} {A : Nat → Nat} {B : Nat → Int32} {n p T : Nat}
def sgn (B : Nat → Int32) (p : Nat) : Except (Nat × Nat) (Int32 × Nat) := if B (bl B p) = 45 then (match dig B 2 (bl B p + 1) with
    | .ok (v, q) => .ok (-nI v, q)
    | .error e => .error e) else (match dig B 2 (bl B p) with
    | .ok (v, q) => .ok (nI v, q)
    | .error e => .error e)
theorem sgn_ok {w : Int32} {q : Nat} (hB : Tx B n) (hp : p ≤ n) (h : sgn B p = .ok (w, q)) : p < q ∧ q ≤ n ∧ -99 ≤ w.toInt ∧ w.toInt ≤ 99 := by
  have h1 := bl_ge (B := B) (p := p)
  unfold sgn at h
  split at h
  · rename_i e
    have hlt := hB.lt e (by decide)
    split at h
    · rename_i v q1 e1
      have := dig_ok hB hlt e1
      injection h with h; injection h with h2 h3
      subst h2 h3
      have e5 : (-nI v).toInt = -(v : Int) := by
        rw [Int32.toInt_neg, nI_toInt (by omega)]
        rw [Int.bmod_eq_of_le (by omega) (by omega)]
      exact ⟨by omega, by omega, by omega, by omega⟩
    · cases h
  · split at h
    · rename_i v q1 e1
      have := dig_ok hB (bl_le hB hp) e1
      injection h with h; injection h with h2 h3
      subst h2 h3
      have e5 := nI_toInt (n := v) (by omega)
      exact ⟨by omega, by omega, by omega, by omega⟩
    · cases h
theorem sgn_kd {e : Nat × Nat} (h : sgn B p = .error e) : Kd e := by
  unfold sgn at h
  split at h
  · split at h
    · cases h
    · rename_i e1; injection h with h; subst h; exact dig_kd e1
  · split at h
    · cases h
    · rename_i e1; injection h with h; subst h; exact dig_kd e1
theorem s_signed {Q : Int32 → PS → Prop} (h : CT S A B n) (hp : fI S 60 (A 6) = nI p) (hpn : p ≤ n)
    (h1 : ∀ w q S1, sgn B p = .ok (w, q) → KL S S1 → fI S1 60 (A 6) = nI q → (fL S1 65 (A 6)).toInt32 = w → Q 1 S1)
    (h0 : ∀ e S1, sgn B p = .error e → CF S S1 A e → Q 0 S1) : wp_X7_signed (A 6) S Q := by
  have hB := h.2.2.1
  unfold wp_X7_signed
  refine s_blanks h hp hpn ?_
  refine s_take h.pos fI_pos (bl_le hB hpn) (fun e => ?_) (fun e => ?_)
  · have hlt := hB.lt e (by decide)
    have hs : sgn B p = (match dig B 2 (bl B p + 1) with
      | .ok (v, q) => .ok (-nI v, q)
      | .error e => .error e) := if_pos e
    rw [sI_sI]
    refine s_digits (w := 2) h.pos fI_pos hlt (by omega) (fun v q S1 e1 k1 f1 f2 f3 => ?_) (fun e1 S1 e2 c1 => ?_)
    · rw [if_neg (by decide), if_neg (by decide)]
      rw [e1] at hs
      rintro _ rfl
      refine h1 _ _ _ hs ((KL.pos.tr k1).tr (Keep.rf.sL rfl)) (by simp only [fI_s, fI_sn, fL_s, fL_sn, aI_w, aI_wn, aL_w, aL_wn, fI_sL, fI_wI, fI_wL, fL_sI, fL_wI, fL_wL, aI_sI, aI_sL, aI_wL, aL_sI, aL_sL, aL_wI, fR_sI, fR_sL, fR_wI, fR_wL, aN_sI, aN_sL, aN_wI, aN_wL, ne_eq, Nat.reduceEqDiff, not_false_eq_true]; exact f1) ?_
      rw [fL_s, f2, Int64.toInt32_neg, lN_i]
    · rw [if_pos rfl]
      rw [e2] at hs
      exact h0 _ _ hs (CF.of KL.pos c1)
  · have hs : sgn B p = (match dig B 2 (bl B p) with
      | .ok (v, q) => .ok (nI v, q)
      | .error e => .error e) := if_neg e
    refine s_digits (w := 2) h.pos fI_pos (bl_le hB hpn) (by omega) (fun v q S1 e1 k1 f1 f2 f3 => ?_) (fun e1 S1 e2 c1 => ?_)
    · rw [if_neg (by decide), if_pos rfl]
      rw [e1] at hs
      refine h1 _ _ _ hs (KL.pos.tr k1) f1 ?_
      rw [f2, lN_i]
    · rw [if_pos rfl]
      rw [e2] at hs
      exact h0 _ _ hs (CF.of KL.pos c1)
theorem r_signed {Q : Int32 → PS → Prop} (h : RT S A B n) (hf : fI S 102 (A 9) = 0) (hp : fI S 101 (A 9) = nI p) (hpn : p ≤ n)
    (h1 : ∀ w q, sgn B p = .ok (w, q) → Q w (sI S 101 (A 9) (nI q)))
    (h0 : ∀ e r S1, sgn B p = .error e → RF S S1 A e → Q r S1) : wp_X12_signed (A 9) S Q := by
  have hB := h.2.2.1
  unfold wp_X12_signed
  rw [hf, if_pos (by decide)]
  refine r_blanks h hp hpn ?_
  have nr : ∀ {q : Nat} {r : Except (Nat × Nat) (Nat × Nat)}, (∀ v q, r = .ok (v, q) → v < 100) → ran 0 99 q r = r := fun {q r} hr => by
    unfold ran
    split
    · rfl
    · rename_i v q1
      have := hr v q1 rfl
      rw [if_neg (by omega)]
  refine r_isHere h.pos fI_at (bl_le hB hpn) (fun e => ?_) (fun e => ?_)
  · intro K hK
    rw [if_neg (by decide)]
    rintro _ rfl
    have hlt := hB.lt e (by decide)
    have hs : sgn B p = (match dig B 2 (bl B p + 1) with
      | .ok (v, q) => .ok (-nI v, q)
      | .error e => .error e) := if_pos e
    rw [fI_at, nI_1, sI_sI]
    have er := nr (q := bl B p + 1) (r := dig B 2 (bl B p + 1)) (fun v q z => (dig_ok hB hlt z).2.2.2)
    apply hK
    refine r_digits (w := 2) (lo := 0) (hi := 99) h.pos (fI_at2.trans hf) fI_at hlt (by omega) (by omega) (by omega) (fun v q e1 => ?_) (fun e1 r S1 e2 c1 _ => ?_)
    · rw [er] at e1
      rw [e1] at hs
      rw [lN_i, sI_sI, Int32.neg_mul, Int32.one_mul]
      exact h1 _ _ hs
    · rw [er] at e2
      rw [e2] at hs
      exact h0 _ _ _ hs (RF.of KR.pos c1)
  · intro K hK
    rw [if_pos rfl]
    have hs : sgn B p = (match dig B 2 (bl B p) with
      | .ok (v, q) => .ok (nI v, q)
      | .error e => .error e) := if_neg e
    have er := nr (q := bl B p) (r := dig B 2 (bl B p)) (fun v q z => (dig_ok hB (bl_le hB hpn) z).2.2.2)
    apply hK
    refine r_digits (w := 2) (lo := 0) (hi := 99) h.pos (fI_at2.trans hf) fI_at (bl_le hB hpn) (by omega) (by omega) (by omega) (fun v q e1 => ?_) (fun e1 r S1 e2 c1 _ => ?_)
    · rw [er] at e1
      rw [e1] at hs
      rw [lN_i, sI_sI, Int32.one_mul]
      exact h1 _ _ hs
    · rw [er] at e2
      rw [e2] at hs
      exact h0 _ _ _ hs (RF.of KR.pos c1)
theorem r_signed_f {Q : Int32 → PS → Prop} (hf : ¬ fI S 102 (A 9) ≤ 0) (hQ : Q 0 S) : wp_X12_signed (A 9) S Q := by
  unfold wp_X12_signed
  rw [if_neg hf]; exact hQ
/-! heads: the two numbers of an item, and where it goes on -/
def tup (B : Nat → Int32) (lo hi p : Nat) : Except (Nat × Nat) (Int32 × Int32 × Nat) := match num B lo hi (p + 1) with
  | .error e => .error e
  | .ok (a, q) => if B (bl B q) = 47 then (match num B lo hi (bl B q + 1) with
    | .error e => .error e
    | .ok (b, r) => .ok (nI a, nI b, r)) else .error (1, bl B q)
def mov (B : Nat → Int32) (p : Nat) : Except (Nat × Nat) (Int32 × Int32 × Nat) := match sgn B (p + 1) with
  | .error e => .error e
  | .ok (a, q) => match sgn B q with
    | .error e => .error e
    | .ok (b, r) => .ok (a, b, r)
def rou (B : Nat → Int32) (p : Nat) : Except (Nat × Nat) (Int32 × Int32 × Nat) := match num B 0 50 (p + 1) with
  | .error e => .error e
  | .ok (a, q) => .ok (nI a, 0, q)
def met (B : Nat → Int32) (p : Nat) : Except (Nat × Nat) (Int32 × Int32 × Nat) := match num B 1 32 (p + 1) with
  | .error e => .error e
  | .ok (a, q) => if B (bl B q) = 47 then (match hal B 32 (bl B (bl B q + 1)) with
    | .error e => .error e
    | .ok (b, r) => .ok (nI a, nI b, r)) else .error (1, bl B q)
def hdr (B : Nat → Int32) (c : Int32) (p : Nat) : Except (Nat × Nat) (Int32 × Int32 × Nat) := if c = 76 then .ok (0, 0, p + 1) else if c = 82 then rou B p else if c = 84 then tup B 1 9 p else if c = 88 then mov B p else met B p
/-- what the numbers of a head are -/
def hdb (c a b : Int32) : Prop := (c = 82 → ∃ k, k ≤ 50 ∧ a = nI k) ∧ (c = 84 → ∃ k m, 1 ≤ k ∧ k ≤ 9 ∧ 1 ≤ m ∧ m ≤ 9 ∧ a = nI k ∧ b = nI m) ∧ (c = 88 → -99 ≤ a.toInt ∧ a.toInt ≤ 99 ∧ -99 ≤ b.toInt ∧ b.toInt ≤ 99) ∧ (c = 77 → ∃ k m, 1 ≤ k ∧ k ≤ 32 ∧ pw2 32 m = true ∧ a = nI k ∧ b = nI m)
theorem hdr_ok {c a b : Int32} {q : Nat} (hB : Tx B n) (hp : p < n) (hc : c = 76 ∨ c = 82 ∨ c = 84 ∨ c = 88 ∨ c = 77) (h : hdr B c p = .ok (a, b, q)) : p < q ∧ q ≤ n ∧ hdb c a b := by
  unfold hdr at h
  rcases hc with rfl | rfl | rfl | rfl | rfl
  · rw [if_pos rfl] at h
    injection h with h; injection h with h1 h2; injection h2 with h2 h3
    exact ⟨by omega, by omega, by unfold hdb; exact ⟨fun z => absurd z (by decide), fun z => absurd z (by decide), fun z => absurd z (by decide), fun z => absurd z (by decide)⟩⟩
  · rw [if_neg (by decide), if_pos rfl] at h
    unfold rou at h
    split at h
    · cases h
    · rename_i v q1 e
      have := num_ok hB hp e
      injection h with h; injection h with h1 h2; injection h2 with h2 h3
      exact ⟨by omega, by omega, ⟨fun _ => ⟨v, this.2.2.2, h1.symm⟩, fun z => absurd z (by decide), fun z => absurd z (by decide), fun z => absurd z (by decide)⟩⟩
  · rw [if_neg (by decide), if_neg (by decide), if_pos rfl] at h
    unfold tup at h
    split at h
    · cases h
    · rename_i v q1 e
      have e1 := num_ok hB hp e
      have e2 := bl_ge (B := B) (p := q1)
      split at h
      · rename_i e3
        have e4 := hB.lt e3 (by decide)
        split at h
        · cases h
        · rename_i w r e5
          have e6 := num_ok hB e4 e5
          injection h with h; injection h with h1 h2; injection h2 with h2 h3
          exact ⟨by omega, by omega, ⟨fun z => absurd z (by decide), fun _ => ⟨v, w, e1.2.2.1, e1.2.2.2, e6.2.2.1, e6.2.2.2, h1.symm, h2.symm⟩, fun z => absurd z (by decide), fun z => absurd z (by decide)⟩⟩
      · cases h
  · rw [if_neg (by decide), if_neg (by decide), if_neg (by decide), if_pos rfl] at h
    unfold mov at h
    split at h
    · cases h
    · rename_i v q1 e
      have e1 := sgn_ok hB hp e
      split at h
      · cases h
      · rename_i w r e5
        have e6 := sgn_ok hB e1.2.1 e5
        injection h with h; injection h with h1 h2; injection h2 with h2 h3
        subst h1 h2 h3
        exact ⟨by omega, by omega, ⟨fun z => absurd z (by decide), fun z => absurd z (by decide), fun _ => ⟨e1.2.2.1, e1.2.2.2, e6.2.2.1, e6.2.2.2⟩, fun z => absurd z (by decide)⟩⟩
  · rw [if_neg (by decide), if_neg (by decide), if_neg (by decide), if_neg (by decide)] at h
    unfold met at h
    split at h
    · cases h
    · rename_i v q1 e
      have e1 := num_ok hB hp e
      have e2 := bl_ge (B := B) (p := q1)
      split at h
      · rename_i e3
        have e4 := hB.lt e3 (by decide)
        have e7 := bl_ge (B := B) (p := bl B q1 + 1)
        split at h
        · cases h
        · rename_i w r e5
          have e6 := hal_ok hB (bl_le hB (p := bl B q1 + 1) e4) e5
          injection h with h; injection h with h1 h2; injection h2 with h2 h3
          exact ⟨by omega, by omega, ⟨fun z => absurd z (by decide), fun z => absurd z (by decide), fun z => absurd z (by decide), fun _ => ⟨v, w, e1.2.2.1, e1.2.2.2, e6.2.2, h1.symm, h2.symm⟩⟩⟩
      · cases h
theorem hdr_kd {c : Int32} {e : Nat × Nat} (h : hdr B c p = .error e) : Kd e := by
  unfold hdr at h
  split at h
  · cases h
  split at h
  · unfold rou at h
    split at h
    · rename_i e1; injection h with h; subst h; exact num_kd e1
    · cases h
  split at h
  · unfold tup at h
    split at h
    · rename_i e1; injection h with h; subst h; exact num_kd e1
    · split at h
      · split at h
        · rename_i e1; injection h with h; subst h; exact num_kd e1
        · cases h
      · injection h with h; rw [← h]; exact kdm (by decide) (by decide)
  split at h
  · unfold mov at h
    split at h
    · rename_i e1; injection h with h; subst h; exact sgn_kd e1
    · split at h
      · rename_i e1; injection h with h; subst h; exact sgn_kd e1
      · cases h
  · unfold met at h
    split at h
    · rename_i e1; injection h with h; subst h; exact num_kd e1
    · split at h
      · split at h
        · rename_i e1; injection h with h; subst h; exact hal_kd e1
        · cases h
      · injection h with h; rw [← h]; exact kdm (by decide) (by decide)
/-! the class -/
def rHd (r : Nat) : Bool := decide (r = 18 ∨ r = 19)
def KH (S S1 : PS) : Prop := Keep jL rHd S S1
theorem KL.h {S1 : PS} (h : KL S S1) : KH S S1 := h.mono (fun _ => id) (fun _ _ => rfl)
theorem KH.t {S1 : PS} (h : KH S S1) : KT S S1 := h.mono (fun j => by unfold jT jL; simp only [decide_eq_false_iff_not]; omega) (fun r => by unfold rHd rT; simp only [decide_eq_false_iff_not]; omega)
theorem CT.kh {S1 : PS} (h : CT S A B n) (g : KH S S1) : CT S1 A B n := h.keep g rfl rfl
def HB (S S1 : PS) (A : Nat → Nat) (x : Nat) (a b : Int32) (q : Nat) : Prop := KH S S1 ∧ fI S1 60 (A 6) = nI q ∧ aI S1 18 (A 18) = uq (aI S 18 (A 18)) x a ∧ aI S1 19 (A 19) = uq (aI S 19 (A 19)) x b
theorem s_setNum {Q : PS → Prop} {S0 : PS} {N x q : Nat} {a b : Int32} (h : CT S A B n) (k : KL S0 S) (hN : fI S 45 (A 5) = nI N) (hx : x < N) (hb : N ≤ 1508) (hq : fI S 60 (A 6) = nI q) (hQ : ∀ S1, HB S0 S1 A x a b q → Q S1) : wp_X6_setNumbers (A 5) (nI x) a b S Q := by
  refine s_setNumbers h hN hx hb ?_
  refine hQ _ ⟨k.h.tr ((Keep.rf.wI rfl).wI rfl), by simp only [fI_s, fI_sn, fL_s, fL_sn, aI_w, aI_wn, aL_w, aL_wn, fI_sL, fI_wI, fI_wL, fL_sI, fL_wI, fL_wL, aI_sI, aI_sL, aI_wL, aL_sI, aL_sL, aL_wI, fR_sI, fR_sL, fR_wI, fR_wL, aN_sI, aN_sL, aN_wI, aN_wL, ne_eq, Nat.reduceEqDiff, not_false_eq_true]; exact hq, ?_, ?_⟩
  · simp only [fI_s, fI_sn, fL_s, fL_sn, aI_w, aI_wn, aL_w, aL_wn, fI_sL, fI_wI, fI_wL, fL_sI, fL_wI, fL_wL, aI_sI, aI_sL, aI_wL, aL_sI, aL_sL, aL_wI, fR_sI, fR_sL, fR_wI, fR_wL, aN_sI, aN_sL, aN_wI, aN_wL, ne_eq, Nat.reduceEqDiff, not_false_eq_true]; rw [(k.2.2 18 rfl).1]
  · simp only [fI_s, fI_sn, fL_s, fL_sn, aI_w, aI_wn, aL_w, aL_wn, fI_sL, fI_wI, fI_wL, fL_sI, fL_wI, fL_wL, aI_sI, aI_sL, aI_wL, aL_sI, aL_sL, aL_wI, fR_sI, fR_sL, fR_wI, fR_wL, aN_sI, aN_sL, aN_wI, aN_wL, ne_eq, Nat.reduceEqDiff, not_false_eq_true]; rw [(k.2.2 19 rfl).1]
section
variable {M : Nat → PS → (Int32 → PS → Prop) → Prop} {Q : Int32 → PS → Prop} {N x : Nat}
theorem s_relative (h : CT S A B n) (hp : fI S 60 (A 6) = nI p) (h18 : aI S 18 (A 18) x = 0) (h19 : aI S 19 (A 19) x = 0)
    (h1 : ∀ a b q S1, hdr B 76 p = .ok (a, b, q) → HB S S1 A x a b q → wp_X7_block M (A 6) S1 Q) : wp_X7_relative M (A 6) S Q := by
  unfold wp_X7_relative
  rintro _ rfl
  rw [hp, nI_1]
  exact h1 0 0 (p + 1) _ rfl ⟨KL.pos.h, fI_pos, (uq_self h18).symm, (uq_self h19).symm⟩
theorem s_rounds (h : CT S A B n) (hp : fI S 60 (A 6) = nI p) (hpn : p < n) (hN : fI S 45 (A 5) = nI N) (hx : x < N) (hb : N ≤ 1508)
    (h1 : ∀ a b q S1, hdr B 82 p = .ok (a, b, q) → HB S S1 A x a b q → wp_X7_block M (A 6) S1 Q)
    (h0 : ∀ e S1, hdr B 82 p = .error e → CF S S1 A e → Q 0 S1) : wp_X7_rounds M (A 6) (nI x) S Q := by
  have hd : hdr B 82 p = rou B p := rfl
  unfold rou at hd
  unfold wp_X7_rounds
  rintro _ rfl
  rw [hp, nI_1]
  refine s_number (lo := 0) (hi := 50) h.pos fI_pos hpn (by omega) (by omega) (fun v q S1 e1 k1 f1 f2 f3 => ?_) (fun e S1 e1 c1 => ?_)
  · rw [e1] at hd
    have k2 : KL S S1 := KL.pos.tr k1
    rw [if_neg (by decide)]
    refine ⟨_, (h.kl k2).1.f58, ?_⟩
    rw [f2, lN_i]
    exact s_setNum (h.kl k2) k2 (by rw [(k2.2.1 45 rfl).1]; exact hN) hx hb f1 (fun S2 h2 => h1 _ _ _ S2 hd h2)
  · rw [e1] at hd
    rw [if_pos rfl]
    exact h0 _ _ hd (CF.of KL.pos c1)
theorem s_tuplet (h : CT S A B n) (hp : fI S 60 (A 6) = nI p) (hpn : p < n) (hN : fI S 45 (A 5) = nI N) (hx : x < N) (hb : N ≤ 1508)
    (h1 : ∀ a b q S1, hdr B 84 p = .ok (a, b, q) → HB S S1 A x a b q → wp_X7_block M (A 6) S1 Q)
    (h0 : ∀ e S1, hdr B 84 p = .error e → CF S S1 A e → Q 0 S1) : wp_X7_tuplet M (A 6) (nI x) S Q := by
  have hB := h.2.2.1
  have hd : hdr B 84 p = tup B 1 9 p := rfl
  unfold tup at hd
  unfold wp_X7_tuplet
  rintro _ rfl
  rw [hp, nI_1]
  refine s_number (lo := 1) (hi := 9) h.pos fI_pos hpn (by omega) (by omega) (fun v q S1 e1 k1 f1 f2 f3 => ?_) (fun e S1 e1 c1 => ?_)
  · rw [e1] at hd
    simp only [] at hd
    have k2 : KL S S1 := KL.pos.tr k1
    have hq := num_ok hB hpn e1
    rw [if_neg (by decide)]
    rintro _ rfl
    rw [f2, lN_i]
    refine s_mustB (h.kl k2) f1 hq.2.1 (fun e2 => ?_) (fun e2 S2 h2 => ?_)
    · rw [if_neg (by decide)]
      rw [if_pos e2] at hd
      have hlt := hB.lt e2 (by decide)
      refine s_number (lo := 1) (hi := 9) (h.kl k2).pos fI_pos hlt (by omega) (by omega) (fun w r S3 e3 k3 g1 g2 g3 => ?_) (fun e S3 e3 c3 => ?_)
      · rw [e3] at hd
        have k4 : KL S S3 := Keep.tr k2 (KL.pos.tr k3)
        rw [if_neg (by decide)]
        refine ⟨_, (h.kl k4).1.f58, ?_⟩
        rw [g2, lN_i]
        exact s_setNum (h.kl k4) k4 (by rw [(k4.2.1 45 rfl).1]; exact hN) hx hb g1 (fun S2 h2 => h1 _ _ _ S2 hd h2)
      · rw [e3] at hd
        rw [if_pos rfl]
        exact h0 _ _ hd (CF.of (Keep.tr k2 KL.pos) c3)
    · rw [if_pos rfl]
      rw [if_neg e2] at hd
      exact h0 _ _ hd (CF.of k2 h2)
  · rw [e1] at hd
    rw [if_pos rfl]
    exact h0 _ _ hd (CF.of KL.pos c1)
theorem s_moving (h : CT S A B n) (hp : fI S 60 (A 6) = nI p) (hpn : p < n) (hN : fI S 45 (A 5) = nI N) (hx : x < N) (hb : N ≤ 1508)
    (h1 : ∀ a b q S1, hdr B 88 p = .ok (a, b, q) → HB S S1 A x a b q → wp_X7_block M (A 6) S1 Q)
    (h0 : ∀ e S1, hdr B 88 p = .error e → CF S S1 A e → Q 0 S1) : wp_X7_moving M (A 6) (nI x) S Q := by
  have hB := h.2.2.1
  have hd : hdr B 88 p = mov B p := rfl
  unfold mov at hd
  unfold wp_X7_moving
  rintro _ rfl
  rw [hp, nI_1]
  refine s_signed h.pos fI_pos hpn (fun v q S1 e1 k1 f1 f2 => ?_) (fun e S1 e1 c1 => ?_)
  · rw [e1] at hd
    simp only [] at hd
    have k2 : KL S S1 := KL.pos.tr k1
    have hq := sgn_ok hB hpn e1
    rw [if_neg (by decide)]
    rintro _ rfl
    rw [f2]
    refine s_signed (h.kl k2) f1 hq.2.1 (fun w r S3 e3 k3 g1 g2 => ?_) (fun e S3 e3 c3 => ?_)
    · rw [e3] at hd
      have k4 : KL S S3 := k2.tr k3
      rw [if_neg (by decide)]
      refine ⟨_, (h.kl k4).1.f58, ?_⟩
      rw [g2]
      exact s_setNum (h.kl k4) k4 (by rw [(k4.2.1 45 rfl).1]; exact hN) hx hb g1 (fun S2 h2 => h1 _ _ _ S2 hd h2)
    · rw [e3] at hd
      rw [if_pos rfl]
      exact h0 _ _ hd (CF.of k2 c3)
  · rw [e1] at hd
    rw [if_pos rfl]
    exact h0 _ _ hd (CF.of KL.pos c1)
theorem s_meter (h : CT S A B n) (hp : fI S 60 (A 6) = nI p) (hpn : p < n) (hN : fI S 45 (A 5) = nI N) (hx : x < N) (hb : N ≤ 1508)
    (h1 : ∀ a b q S1, hdr B 77 p = .ok (a, b, q) → HB S S1 A x a b q → Q 1 S1)
    (h0 : ∀ e S1, hdr B 77 p = .error e → CF S S1 A e → Q 0 S1) : wp_X7_meter (A 6) (nI x) S Q := by
  have hB := h.2.2.1
  have hd : hdr B 77 p = met B p := rfl
  unfold met at hd
  unfold wp_X7_meter
  rintro _ rfl
  rw [hp, nI_1]
  refine s_number (lo := 1) (hi := 32) h.pos fI_pos hpn (by omega) (by omega) (fun v q S1 e1 k1 f1 f2 f3 => ?_) (fun e S1 e1 c1 => ?_)
  · rw [e1] at hd
    simp only [] at hd
    have k2 : KL S S1 := KL.pos.tr k1
    have hq := num_ok hB hpn e1
    rw [if_neg (by decide)]
    rintro _ rfl
    rw [f2, lN_i]
    refine s_mustB (h.kl k2) f1 hq.2.1 (fun e2 => ?_) (fun e2 S2 h2 => ?_)
    · rw [if_neg (by decide)]
      rw [if_pos e2] at hd
      have hlt := hB.lt e2 (by decide)
      unfold hal at hd
      refine s_number (lo := 1) (hi := 32) (h.kl k2).pos fI_pos hlt (by omega) (by omega) (fun w r S3 e3 k3 g1 g2 g3 => ?_) (fun e S3 e3 c3 => ?_)
      · have hw := num_ok hB hlt e3
        have e4 := (ran_ok e3).1
        rw [e4] at hd
        simp only [] at hd
        have k4 : KL S S3 := Keep.tr k2 (KL.pos.tr k3)
        rw [if_neg (by decide)]
        have e32 := pw2_32 ⟨w, by omega⟩
        simp only [] at e32
        refine s_pow (h.kl k4) g2 g3 hw.2.2.1 (by omega) (fun c => ?_) (fun c S4 h4 => ?_)
        · rw [if_neg (by decide)]
          rw [if_pos (e32.trans c)] at hd
          refine ⟨_, (h.kl k4).1.f58, ?_⟩
          rw [g2, lN_i]
          exact s_setNum (h.kl k4) k4 (by rw [(k4.2.1 45 rfl).1]; exact hN) hx hb g1 (fun S2 h2 => h1 _ _ _ S2 hd h2)
        · rw [if_pos rfl]
          rw [if_neg (by rw [e32, c]; decide)] at hd
          exact h0 _ _ hd (CF.of k4 h4)
      · rw [if_pos rfl]
        refine h0 _ _ ?_ (CF.of (Keep.tr k2 KL.pos) c3)
        rw [hd]
        unfold num ran at e3
        split at e3
        · rename_i e5
          injection e3 with e3
          rw [e5]; simp only [e3]
        · rename_i w r e5
          rw [e5]
          simp only []
          split at e3
          · rename_i z
            injection e3 with e3
            have : pw2 32 w = false := Bool.eq_false_iff.mpr (fun y => by have := pw2_le y; have := pw2_le32 y; omega)
            rw [if_neg (by rw [this]; decide), e3]
          · cases e3
    · rw [if_pos rfl]
      rw [if_neg e2] at hd
      exact h0 _ _ hd (CF.of k2 h2)
  · rw [e1] at hd
    rw [if_pos rfl]
    exact h0 _ _ hd (CF.of KL.pos c1)
end
end
