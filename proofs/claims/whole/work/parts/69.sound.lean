/-! Chord, length, sound: the class. -/
section
variable {S : PS} {A : Nat → Nat} {B : Nat → Int32} {n p : Nat}
def apd {α : Type} (h : α → Int32) : (Nat → Int32) → Nat → List α → Nat → Int32
  | f, _, [] => f
  | f, k, p :: l => apd h (uq f k (h p)) (k + 1) l
theorem apd_lt {α : Type} {h : α → Int32} {j : Nat} : ∀ (l : List α) (f : Nat → Int32) (k : Nat), j < k → apd h f k l j = f j := by
  intro l
  induction l with
  | nil => intro f k _; rfl
  | cons p l ih => intro f k hj; rw [apd, ih _ _ (by omega), uq_ne (by omega)]
theorem apd_at {α : Type} {h : α → Int32} : ∀ (l : List α) (f : Nat → Int32) (k i : Nat) (hi : i < l.length), apd h f k l (k + i) = h (l[i]'hi) := by
  intro l
  induction l with
  | nil => intro f k i hi; exact absurd hi (Nat.not_lt_zero i)
  | cons p l ih =>
    intro f k i hi
    rw [apd]
    cases i with
    | zero => rw [apd_lt l _ _ (by omega)]; exact uq_at
    | succ i =>
      have e : k + (i + 1) = k + 1 + i := by omega
      rw [e, ih _ _ i (by rw [List.length_cons] at hi; omega)]; rfl
def chd (B : Nat → Int32) : Nat → Nat → Except (Nat × Nat) (List Nat × Nat)
  | 0, p => if isTon (B (bl B p)) = true then .error (5, bl B p) else if B (bl B p) = 62 then .ok ([], bl B p + 1) else .error (1, bl B p)
  | k + 1, p => if B (bl B p) = 62 ∧ k ≠ 5 then .ok ([], bl B p + 1) else if isTon (B (bl B p)) = true then (match chd B k (pE B (bl B p)) with
    | .ok (l, q) => .ok (bl B p :: l, q)
    | .error e => .error e) else .error (1, bl B p)
theorem chd_ok (hB : Tx B n) : ∀ k p l q, p ≤ n → chd B k p = .ok (l, q) → p + l.length < q ∧ q ≤ n := by
  intro k
  induction k with
  | zero =>
    intro p l q hp h
    have h1 := bl_ge (B := B) (p := p)
    rw [chd] at h
    split at h
    · cases h
    · split at h
      · rename_i e
        injection h with h; injection h with h2 h3
        have := hB.lt e (by decide)
        subst h2 h3
        exact ⟨by show p + 0 < _; omega, by omega⟩
      · cases h
  | succ k ih =>
    intro p l q hp h
    have h1 := bl_ge (B := B) (p := p)
    rw [chd] at h
    split at h
    · rename_i e
      injection h with h; injection h with h2 h3
      have := hB.lt e.1 (by decide)
      subst h2 h3
      exact ⟨by show p + 0 < _; omega, by omega⟩
    · split at h
      · rename_i e
        have a := pE_le hB (isTon_lt hB e)
        split at h
        · rename_i l1 q1 e1
          injection h with h; injection h with h2 h3
          have := ih _ _ _ a.2 e1
          subst h2 h3
          rw [List.length_cons]; omega
        · cases h
      · cases h
theorem s_chord {Q : Int32 → PS → Prop} {pc : Nat} (h : CT S A B n) (hp : fI S 60 (A 6) = nI p) (hpn : p ≤ n) (hc : fI S 53 (A 5) = nI pc) (hpc : pc ≤ p)
    (h1 : ∀ l q S1, chd B 6 p = .ok (l, q) → KP S S1 → fI S1 60 (A 6) = nI q → fI S1 53 (A 5) = nI (pc + l.length) → aI S1 22 (A 22) = apd (pco B) (aI S 22 (A 22)) pc l → Q 1 S1)
    (h0 : ∀ e S1, chd B 6 p = .error e → CFP S S1 A e → Q 0 S1) : wp_X7_chord (A 6) S Q := by
  have hB := h.2.2.1
  have hn := hB.1
  unfold wp_X7_chord
  intro P hP
  have key : ∀ k p1 pc1 S1, k ≤ 6 → CT S1 A B n → fI S1 60 (A 6) = nI p1 → p1 ≤ n → fI S1 53 (A 5) = nI pc1 → pc1 ≤ p1 →
      (∀ l q S2, chd B k p1 = .ok (l, q) → KP S1 S2 → fI S2 60 (A 6) = nI q → fI S2 53 (A 5) = nI (pc1 + l.length) → aI S2 22 (A 22) = apd (pco B) (aI S1 22 (A 22)) pc1 l → Q 1 S2) →
      (∀ e S2, chd B k p1 = .error e → CFP S1 S2 A e → Q 0 S2) → P (nI (6 - k)) S1 := by
    intro k
    induction k with
    | zero =>
      intro p1 pc1 S1 a0 a1 a2 a3 a4 a5 a6 a7
      have hb := bl_ge (B := B) (p := p1)
      have hbn := bl_le hB a3
      rw [chd] at a6 a7
      apply hP
      rw [if_neg (clt_no 6 (by rfl) (by omega) (by omega))]
      refine s_blanks a1 a2 a3 ?_
      intro K hK
      rw [if_neg (nI_nle (by omega) (by omega))]
      refine s_take a1.pos fI_pos hbn (fun e => ?_) (fun e => ?_)
      · rw [if_neg (by decide), sI_sI]
        rw [if_neg (by rw [e]; decide), if_pos e] at a6
        exact a6 [] _ _ rfl KL.pos.toP fI_pos (by simp only [fI_s, fI_sn, fL_s, fL_sn, aI_w, aI_wn, aL_w, aL_wn, fI_sL, fI_wI, fI_wL, fL_sI, fL_wI, fL_wL, aI_sI, aI_sL, aI_wL, aL_sI, aL_sL, aL_wI, fR_sI, fR_sL, fR_wI, fR_wL, aN_sI, aN_sL, aN_wI, aN_wL, ne_eq, Nat.reduceEqDiff, not_false_eq_true]; exact a4) (by simp only [fI_s, fI_sn, fL_s, fL_sn, aI_w, aI_wn, aL_w, aL_wn, fI_sL, fI_wI, fI_wL, fL_sI, fL_wI, fL_wL, aI_sI, aI_sL, aI_wL, aL_sI, aL_sL, aL_wI, fR_sI, fR_sL, fR_wI, fR_wL, aN_sI, aN_sL, aN_wI, aN_wL, ne_eq, Nat.reduceEqDiff, not_false_eq_true]; rfl)
      · rw [if_pos rfl]
        apply hK
        intro K2 hK2
        rw [if_pos (by rfl)]
        refine s_next a1.pos fI_pos hbn ?_
        refine s_isTone (fun ht => ?_) (fun ht => ?_)
        · rw [if_neg (by decide)]
          refine ⟨_, a1.pos.1.f59, ?_⟩
          rw [fI_pos]
          rw [if_pos ht] at a7
          exact s_tell (a7 _ _ rfl (CFP.of KL.pos.toP (CF.toP (CF_tell (k := 5)))))
        · rw [if_pos rfl]
          apply hK2
          rw [if_neg (by rw [ht]; decide), if_neg e] at a7
          refine s_written a1.pos fI_pos hbn (by simp only [fI_s, fI_sn, fL_s, fL_sn, aI_w, aI_wn, aL_w, aL_wn, fI_sL, fI_wI, fI_wL, fL_sI, fL_wI, fL_wL, aI_sI, aI_sL, aI_wL, aL_sI, aL_sL, aL_wI, fR_sI, fR_sL, fR_wI, fR_wL, aN_sI, aN_sL, aN_wI, aN_wL, ne_eq, Nat.reduceEqDiff, not_false_eq_true]; exact a4) (by omega) (fun ht2 => ?_) (fun _ S2 h2 => ?_)
          · rw [ht] at ht2; cases ht2
          · rw [if_pos rfl]; exact a7 _ _ rfl (CFP.of KL.pos.toP h2.toP)
    | succ k ih =>
      intro p1 pc1 S1 a0 a1 a2 a3 a4 a5 a6 a7
      have hb := bl_ge (B := B) (p := p1)
      have hbn := bl_le hB a3
      rw [chd] at a6 a7
      apply hP
      rw [if_neg (clt_no 6 (by rfl) (by omega) (by omega))]
      refine s_blanks a1 a2 a3 ?_
      intro K hK
      have go : ¬ (B (bl B p1) = 62 ∧ k ≠ 5) → K (sI S1 60 (A 6) (nI (bl B p1))) := by
        intro e
        rw [if_neg e] at a6 a7
        apply hK
        intro K2 hK2
        rw [if_neg (by rw [show (6 : Int32) = nI 6 from rfl, nI_eq (by omega) (by omega)]; omega)]
        apply hK2
        refine s_written a1.pos fI_pos hbn (by simp only [fI_s, fI_sn, fL_s, fL_sn, aI_w, aI_wn, aL_w, aL_wn, fI_sL, fI_wI, fI_wL, fL_sI, fL_wI, fL_wL, aI_sI, aI_sL, aI_wL, aL_sI, aL_sL, aL_wI, fR_sI, fR_sL, fR_wI, fR_wL, aN_sI, aN_sL, aN_wI, aN_wL, ne_eq, Nat.reduceEqDiff, not_false_eq_true]; exact a4) (by omega) (fun ht S2 k2 f2 g2 w2 => ?_) (fun ht S2 h2 => ?_)
        · rw [if_neg (by decide)]
          rintro _ rfl
          rw [nI_1]
          have e6 : 6 - (k + 1) + 1 = 6 - k := by omega
          rw [e6]
          rw [if_pos ht] at a6 a7
          have hpe := pE_le hB (isTon_lt hB ht)
          refine ih _ (pc1 + 1) S2 (by omega) ((a1.pos).kp k2) f2 hpe.2 g2 (by omega) (fun l q S3 e3 k3 f3 g3 w3 => ?_) (fun e3 S3 h3 h4 => ?_)
          · rw [e3] at a6
            refine a6 _ q S3 rfl (KL.pos.toP.tr (k2.tr k3)) f3 ?_ ?_
            · rw [List.length_cons, g3]; congr 1; omega
            · rw [w3, w2, apd]; rfl
          · rw [h3] at a7
            exact a7 e3 S3 rfl (CFP.of (KL.pos.toP.tr k2) h4)
        · rw [if_pos rfl]
          rw [if_neg (by rw [ht]; decide)] at a7
          exact a7 _ S2 rfl (CFP.of KL.pos.toP h2.toP)
      by_cases c : k = 5
      · rw [if_pos (by rw [c]; decide)]
        exact go (fun e => e.2 c)
      · rw [if_neg (nI_nle (by omega) (by omega))]
        refine s_take a1.pos fI_pos hbn (fun e => ?_) (fun e => ?_)
        · rw [if_neg (by decide), sI_sI]
          rw [if_pos ⟨e, c⟩] at a6
          exact a6 [] _ _ rfl KL.pos.toP fI_pos (by simp only [fI_s, fI_sn, fL_s, fL_sn, aI_w, aI_wn, aL_w, aL_wn, fI_sL, fI_wI, fI_wL, fL_sI, fL_wI, fL_wL, aI_sI, aI_sL, aI_wL, aL_sI, aL_sL, aL_wI, fR_sI, fR_sL, fR_wI, fR_wL, aN_sI, aN_sL, aN_wI, aN_wL, ne_eq, Nat.reduceEqDiff, not_false_eq_true]; exact a4) (by simp only [fI_s, fI_sn, fL_s, fL_sn, aI_w, aI_wn, aL_w, aL_wn, fI_sL, fI_wI, fI_wL, fL_sI, fL_wI, fL_wL, aI_sI, aI_sL, aI_wL, aL_sI, aL_sL, aL_wI, fR_sI, fR_sL, fR_wI, fR_wL, aN_sI, aN_sL, aN_wI, aN_wL, ne_eq, Nat.reduceEqDiff, not_false_eq_true]; rfl)
        · rw [if_pos rfl]
          exact go (fun f => e f.1)
  exact key 6 p pc S (by omega) h hp hpn hc hpc h1 h0
/-! powers of two; lengths -/
def pw2 (m v : Nat) : Bool := v == 1 || v == 2 || v == 4 || v == 8 || v == 16 || v == 32 || (v == 64 && m == 64)
def hal (B : Nat → Int32) (m p : Nat) : Except (Nat × Nat) (Nat × Nat) := match dig B 3 p with
  | .error e => .error e
  | .ok (v, q) => if pw2 m v = true then .ok (v, q) else .error (2, p)
theorem pw2_and : ∀ v : Fin 65, v.val ≠ 0 → (lN v.val &&& (lN v.val - 1) = 0 ↔ pw2 64 v.val = true) := by decide +kernel
theorem pw2_32 : ∀ v : Fin 33, pw2 32 v.val = pw2 64 v.val := by decide +kernel
theorem pw2_le {m v : Nat} (h : pw2 m v = true) : 1 ≤ v ∧ v ≤ 64 := by
  unfold pw2 at h
  simp only [Bool.or_eq_true, Bool.and_eq_true, beq_iff_eq] at h
  omega
theorem pw2_le32 {v : Nat} (h : pw2 32 v = true) : v ≤ 32 := by
  unfold pw2 at h
  simp only [Bool.or_eq_true, Bool.and_eq_true, beq_iff_eq] at h
  omega
theorem s_pow {Q : Int32 → PS → Prop} {v q : Nat} (h : CT S A B n) (hv : fL S 65 (A 6) = lN v) (hq : fI S 66 (A 6) = nI q) (b1 : 1 ≤ v) (b2 : v ≤ 64)
    (h1 : pw2 64 v = true → Q 1 S) (h0 : pw2 64 v = false → ∀ S1, CF S S1 A (2, q) → Q 0 S1) : wp_X7_powerOfTwo (A 6) S Q := by
  unfold wp_X7_powerOfTwo
  rw [hv]
  have e := pw2_and ⟨v, by omega⟩ (by show v ≠ 0; omega)
  by_cases c : pw2 64 v = true
  · rw [if_pos (e.mpr c)]; exact h1 c
  · rw [if_neg (fun d => c (e.mp d))]
    refine s_refuseNumber h hq (fun S1 h2 => ?_)
    rw [if_pos rfl]; exact h0 (Bool.eq_false_iff.mpr c) S1 h2
/-- the ticks of a length v with d dots -/
def tkv (v d : Nat) : Int64 := (2 : Int64) * (3870720 / lN v) - ((3870720 / lN v) >>> ((nI d).toInt64 &&& 63))
def len (B : Nat → Int32) (q : Nat) : Except (Nat × Nat) (Int64 × Nat) :=
  if B q = 58 then (match ran 1 3870720000 (q + 1) (dig B 10 (q + 1)) with
    | .ok (v, r) => .ok (lN v, r)
    | .error e => .error e)
  else if isDig (B q) = true then (match hal B 64 q with
    | .ok (v, r) => .ok (tkv v (mks B 46 3 r), r + mks B 46 3 r)
    | .error e => .error e)
  else .ok (0, q)
theorem hal_ok {m v q : Nat} (hB : Tx B n) (hp : p ≤ n) (h : hal B m p = .ok (v, q)) : p < q ∧ q ≤ n ∧ pw2 m v = true := by
  unfold hal at h
  split at h
  · cases h
  · rename_i e
    split at h
    · injection h with h; injection h with h2 h3
      subst h2 h3
      have := dig_ok hB hp e
      exact ⟨by omega, by omega, by assumption⟩
    · cases h
theorem len_ok {t : Int64} {q : Nat} (hB : Tx B n) (hp : p ≤ n) (h : len B p = .ok (t, q)) : p ≤ q ∧ q ≤ n := by
  unfold len at h
  split at h
  · rename_i e
    have hlt := hB.lt e (by decide)
    split at h
    · rename_i v r e1
      injection h with h; injection h with h2 h3
      have := dig_ok hB hlt (ran_ok e1).1
      omega
    · cases h
  · split at h
    · split at h
      · rename_i v r e1
        injection h with h; injection h with h2 h3
        have := hal_ok hB hp e1
        have := mks_n hB (c := 46) (by decide) 3 r this.2.1
        omega
      · cases h
    · injection h with h; injection h with h2 h3
      omega
def jT (j : Nat) : Bool := decide (j = 0 ∨ j = 1 ∨ j = 60 ∨ j = 53 ∨ (65 ≤ j ∧ j ≤ 68))
def rT (r : Nat) : Bool := decide (18 ≤ r ∧ r ≤ 20 ∨ r = 22)
def KT (S S1 : PS) : Prop := Keep jT rT S S1
theorem KP.t {S1 : PS} (h : KP S S1) : KT S S1 := h.mono (fun j => by unfold jP jT; exact id) (fun r => by unfold rP rT; simp only [decide_eq_false_iff_not]; omega)
theorem KL.t {S1 : PS} (h : KL S S1) : KT S S1 := h.toP.t
theorem CT.kt {S1 : PS} (h : CT S A B n) (g : KT S S1) : CT S1 A B n := h.keep g rfl rfl
def CFT (S S1 : PS) (A : Nat → Nat) (e : Nat × Nat) : Prop := KT S S1 ∧ fI S1 0 (A 0) = nI e.1 ∧ fI S1 1 (A 0) = nI e.2
theorem CFP.t {S1 : PS} {e : Nat × Nat} (h : CFP S S1 A e) : CFT S S1 A e := ⟨h.1.t, h.2⟩
theorem CF.t {S1 : PS} {e : Nat × Nat} (h : CF S S1 A e) : CFT S S1 A e := ⟨h.1.t, h.2⟩
theorem CFT.of {S1 S2 : PS} {e : Nat × Nat} (g : KT S S1) (h : CFT S1 S2 A e) : CFT S S2 A e := ⟨g.tr h.1, h.2⟩
theorem s_holds {Q : Int32 → PS → Prop} {N x : Nat} (hN : fI S 45 (A 5) = nI N) (hx : x < N) (hb : N ≤ 1508) (hQ : Q 1 S) : wp_X6_holds (A 5) (nI x) S Q := by
  unfold wp_X6_holds
  rw [hN, if_neg (nI_pos (by omega)), if_neg (nI_ge hx (by omega)), if_neg (cle_no 1508 (by rfl) (by omega) (by omega))]
  exact hQ
theorem s_setTicks {Q : PS → Prop} {N x : Nat} {v : Int64} (h : CT S A B n) (hN : fI S 45 (A 5) = nI N) (hx : x < N) (hb : N ≤ 1508) (hQ : Q (wL S 20 (A 20) x v)) : wp_X6_setTicks (A 5) (nI x) v S Q := by
  unfold wp_X6_setTicks
  refine s_holds hN hx hb ?_
  rw [if_neg (by decide)]
  refine ⟨_, h.1.f50, ?_, ?_⟩
  · rw [h.1.n20]; exact vp_in_nI (by omega) (by omega)
  · rw [nI_clamp (by omega)]
    rintro _ rfl; exact hQ
theorem s_setNumbers {Q : PS → Prop} {N x : Nat} {v w : Int32} (h : CT S A B n) (hN : fI S 45 (A 5) = nI N) (hx : x < N) (hb : N ≤ 1508) (hQ : Q (wI (wI S 18 (A 18) x v) 19 (A 19) x w)) : wp_X6_setNumbers (A 5) (nI x) v w S Q := by
  unfold wp_X6_setNumbers
  refine s_holds hN hx hb ?_
  rw [if_neg (by decide)]
  refine ⟨_, h.1.f48, ?_, ?_⟩
  · rw [h.1.n18]; exact vp_in_nI (by omega) (by omega)
  · rw [nI_clamp (by omega)]
    rintro _ rfl
    refine ⟨_, h.1.f49, ?_, ?_⟩
    · show vp_in _ (aN S (A 19))
      rw [h.1.n19]; exact vp_in_nI (by omega) (by omega)
    · rintro _ rfl; exact hQ
theorem uq_self {α : Type} {f : Nat → α} {i : Nat} {v : α} (h : f i = v) : uq f i v = f := by
  funext j; unfold uq; split
  · rename_i e; rw [e, h]
  · rfl
theorem uq_uq {α : Type} {f : Nat → α} {i : Nat} {v w : α} : uq (uq f i v) i w = uq f i w := by
  funext j; unfold uq; split <;> rfl
theorem s_length {Q : Int32 → PS → Prop} {N x : Nat} (h : CT S A B n) (hp : fI S 60 (A 6) = nI p) (hpn : p ≤ n) (hN : fI S 45 (A 5) = nI N) (hx : x < N) (hb : N ≤ 1508) (hz : aL S 20 (A 20) x = 0)
    (h1 : ∀ t q S1, len B p = .ok (t, q) → KT S S1 → fI S1 60 (A 6) = nI q → fI S1 53 = fI S 53 → aI S1 = aI S → aL S1 20 (A 20) = uq (aL S 20 (A 20)) x t → Q 1 S1)
    (h0 : ∀ e S1, len B p = .error e → CFT S S1 A e → Q 0 S1) : wp_X7_length (A 6) (nI x) S Q := by
  have hB := h.2.2.1
  have hn := hB.1
  have aIk : ∀ {S1 : PS}, KL S S1 → aI S1 = aI S := fun k => by funext r; exact (k.2.2 r rfl).1
  have aLk : ∀ {S1 : PS}, KL S S1 → aL S1 = aL S := fun k => by funext r; exact (k.2.2 r rfl).2
  unfold wp_X7_length
  refine s_take h hp hpn (fun e => ?_) (fun e => ?_)
  · rw [if_neg (by decide)]
    have hlt := hB.lt e (by decide)
    have hl : len B p = (match ran 1 3870720000 (p + 1) (dig B 10 (p + 1)) with
      | .ok (v, r) => .ok (lN v, r)
      | .error e => .error e) := if_pos e
    refine s_digits (w := 10) h.pos fI_pos hlt (by omega) (fun v q S1 e1 k1 f1 f2 f3 => ?_) (fun e1 S1 e2 c1 => ?_)
    · rw [if_neg (by decide)]
      have hd := dig_ok hB hlt e1
      have k2 : KL S S1 := KL.pos.tr k1
      rw [e1] at hl
      unfold ran at hl
      refine s_inRange (lo := 1) (hi := 3870720000) (h.kl k2) f2 f3 (by omega) (by omega) (by omega) (fun a b => ?_) (fun c S2 h2 => ?_)
      · rw [if_neg (by decide)]
        refine ⟨_, (h.kl k2).1.f58, ?_⟩
        rw [f2]
        refine s_setTicks (h.kl k2) (by rw [(k2.2.1 45 rfl).1]; exact hN) hx hb ?_
        simp only [] at hl
        rw [if_neg (by omega)] at hl
        refine h1 _ _ _ hl (k2.t.tr (Keep.rf.wL rfl)) f1 ?_ ?_ ?_
        · rw [fI_wL]; exact (k2.2.1 53 rfl).1
        · rw [aI_wL]; exact aIk k2
        · rw [aL_w, aLk k2]
      · rw [if_pos rfl]
        simp only [] at hl
        rw [if_pos c] at hl
        exact h0 _ _ hl (CFT.of k2.t h2.t)
    · rw [if_pos rfl]
      rw [e2] at hl
      exact h0 _ _ hl (CFT.of KL.pos.t c1.t)
  · rw [if_pos rfl]
    refine s_next h hp hpn ?_
    refine s_isDigit (fun hd => ?_) (fun hd => ?_)
    · rw [if_neg (by decide)]
      have hl : len B p = (match hal B 64 p with
        | .ok (v, r) => .ok (tkv v (mks B 46 3 r), r + mks B 46 3 r)
        | .error e => .error e) := (if_neg e).trans (if_pos hd)
      unfold hal at hl
      refine s_digits (w := 3) h hp hpn (by omega) (fun v q S1 e1 k1 f1 f2 f3 => ?_) (fun e1 S1 e2 c1 => ?_)
      · rw [if_neg (by decide)]
        have hd2 := dig_ok hB hpn e1
        rw [e1] at hl
        simp only [] at hl
        refine s_inRange (lo := 1) (hi := 64) (h.kl k1) f2 f3 (by omega) (by omega) (by omega) (fun a b => ?_) (fun c S2 h2 => ?_)
        · rw [if_neg (by decide)]
          refine s_pow (h.kl k1) f2 f3 a b (fun c => ?_) (fun c S2 h2 => ?_)
          · rw [if_neg (by decide)]
            rw [if_pos c] at hl
            simp only [] at hl
            intro K hK
            rw [f2, if_pos (show (1 : Int64) ≤ lN v from (lN_leq (a := 1) (by omega) (by omega)).mpr a)]
            refine ⟨fun z => by rw [show (0 : Int64) = lN 0 from rfl, lN_eqq (by omega) (by omega)] at z; omega, ?_⟩
            apply hK
            refine s_marks (w := 3) (h.kl k1) f1 hd2.2.1 (by decide) (by omega) ?_
            have k2 : KL S (sI S1 60 (A 6) (nI (q + mks B 46 3 q))) := k1.tr KL.pos
            refine ⟨_, (h.kl k2).1.f58, ?_⟩
            refine s_setTicks (h.kl k2) (by rw [(k2.2.1 45 rfl).1]; exact hN) hx hb ?_
            refine h1 _ _ _ hl (k2.t.tr (Keep.rf.wL rfl)) (by simp only [fI_s, fI_sn, fL_s, fL_sn, aI_w, aI_wn, aL_w, aL_wn, fI_sL, fI_wI, fI_wL, fL_sI, fL_wI, fL_wL, aI_sI, aI_sL, aI_wL, aL_sI, aL_sL, aL_wI, fR_sI, fR_sL, fR_wI, fR_wL, aN_sI, aN_sL, aN_wI, aN_wL, ne_eq, Nat.reduceEqDiff, not_false_eq_true]) ?_ ?_ ?_
            · rw [fI_wL]; exact (k2.2.1 53 rfl).1
            · rw [aI_wL]; exact aIk k2
            · rw [aL_w, aLk k2]; rfl
          · rw [if_pos rfl]
            rw [if_neg (by rw [c]; decide)] at hl
            exact h0 _ _ hl (CFT.of k1.t h2.t)
        · rw [if_pos rfl]
          have c2 : pw2 64 v = false := Bool.eq_false_iff.mpr (fun d => by have := pw2_le d; omega)
          rw [if_neg (by rw [c2]; decide)] at hl
          exact h0 _ _ hl (CFT.of k1.t h2.t)
      · rw [if_pos rfl]
        rw [e2] at hl
        exact h0 _ _ hl c1.t
    · rw [if_pos rfl]
      have hl : len B p = .ok (0, p) := (if_neg e).trans (if_neg (by rw [hd]; decide))
      exact h1 _ _ _ hl Keep.rf hp rfl rfl (uq_self hz).symm
end
section
variable {S : PS} {A : Nat → Nat} {B : Nat → Int32} {n p : Nat}
def snd (B : Nat → Int32) (p : Nat) : Except (Nat × Nat) (List Nat × Nat) := if B p = 114 then .ok ([], p + 1) else if B p = 60 then chd B 6 (p + 1) else if isTon (B p) = true then .ok ([p], pE B p) else .error (1, p)
def sou (B : Nat → Int32) (p : Nat) : Except (Nat × Nat) (List Nat × Int64 × Int32 × Nat) := match snd B p with
  | .error e => .error e
  | .ok (l, q) => match len B q with
    | .error e => .error e
    | .ok (t, r) => if B p ≠ 114 ∧ B r = 126 then .ok (l, t, 1, r + 1) else .ok (l, t, 0, r)
theorem snd_ok {l : List Nat} {q : Nat} (hB : Tx B n) (hp : p ≤ n) (h : snd B p = .ok (l, q)) : p < q ∧ p + l.length ≤ q ∧ q ≤ n := by
  unfold snd at h
  split at h
  · rename_i e
    injection h with h; injection h with h2 h3
    have := hB.lt e (by decide)
    subst h2 h3
    exact ⟨by omega, by show p + 0 ≤ _; omega, by omega⟩
  · split at h
    · rename_i e
      have := hB.lt e (by decide)
      have := chd_ok hB 6 (p + 1) l q this h
      omega
    · split at h
      · rename_i e
        injection h with h; injection h with h2 h3
        have := pE_le hB (isTon_lt hB e)
        subst h2 h3
        exact ⟨by omega, by show p + 1 ≤ _; omega, by omega⟩
      · cases h
theorem sou_ok {l : List Nat} {t : Int64} {b : Int32} {q : Nat} (hB : Tx B n) (hp : p ≤ n) (h : sou B p = .ok (l, t, b, q)) : p < q ∧ p + l.length ≤ q ∧ q ≤ n ∧ (b = 0 ∨ b = 1) := by
  unfold sou at h
  split at h
  · cases h
  · rename_i e
    have a := snd_ok hB hp e
    split at h
    · cases h
    · rename_i e2
      have c := len_ok hB a.2.2 e2
      split at h
      · rename_i e3
        have := hB.lt e3.2 (by decide)
        injection h with h; injection h with h2 h3; injection h3 with h3 h4; injection h4 with h4 h5
        subst h2; exact ⟨by omega, by omega, by omega, Or.inr h4.symm⟩
      · injection h with h; injection h with h2 h3; injection h3 with h3 h4; injection h4 with h4 h5
        subst h2; exact ⟨by omega, by omega, by omega, Or.inl h4.symm⟩
theorem s_sound {Q : Int32 → PS → Prop} {N x pc : Nat} (h : CT S A B n) (hp : fI S 60 (A 6) = nI p) (hpn : p ≤ n) (hN : fI S 45 (A 5) = nI N) (hx : x < N) (hb : N ≤ 1508) (hz : aL S 20 (A 20) x = 0) (hc : fI S 53 (A 5) = nI pc) (hpc : pc ≤ p)
    (h1 : ∀ l t b q S1, sou B p = .ok (l, t, b, q) → KT S S1 → fI S1 60 (A 6) = nI q → fI S1 53 (A 5) = nI (pc + l.length) → aI S1 22 (A 22) = apd (pco B) (aI S 22 (A 22)) pc l → aI S1 18 (A 18) = uq (aI S 18 (A 18)) x b → aI S1 19 (A 19) = uq (aI S 19 (A 19)) x (nI l.length) → aL S1 20 (A 20) = uq (aL S 20 (A 20)) x t → Q 1 S1)
    (h0 : ∀ e S1, sou B p = .error e → CFT S S1 A e → Q 0 S1) : wp_X7_sound (A 6) (nI x) S Q := by
  have hB := h.2.2.1
  have hn := hB.1
  unfold wp_X7_sound
  refine ⟨_, h.1.f58, ?_⟩
  intro v2 hv2
  rw [hc] at hv2
  subst hv2
  have fin : ∀ l t b q S1, sou B p = .ok (l, t, b, q) → KT S S1 → fI S1 60 (A 6) = nI q → fI S1 53 (A 5) = nI (pc + l.length) → aI S1 22 (A 22) = apd (pco B) (aI S 22 (A 22)) pc l → aI S1 18 = aI S 18 → aI S1 19 = aI S 19 → aL S1 20 (A 20) = uq (aL S 20 (A 20)) x t → wp_X6_setNumbers (A 5) (nI x) b (fI S1 53 (A 5) - nI pc) S1 (fun S19 => Q 1 S19) := by
    intro l t b q S1 a1 a2 a3 a4 a5 a6 a7 a8
    refine s_setNumbers (h.kt a2) (by rw [(a2.2.1 45 rfl).1]; exact hN) hx hb ?_
    refine h1 l t b q _ a1 (a2.tr ((Keep.rf.wI rfl).wI rfl)) (by simp only [fI_s, fI_sn, fL_s, fL_sn, aI_w, aI_wn, aL_w, aL_wn, fI_sL, fI_wI, fI_wL, fL_sI, fL_wI, fL_wL, aI_sI, aI_sL, aI_wL, aL_sI, aL_sL, aL_wI, fR_sI, fR_sL, fR_wI, fR_wL, aN_sI, aN_sL, aN_wI, aN_wL, ne_eq, Nat.reduceEqDiff, not_false_eq_true]; exact a3) (by simp only [fI_s, fI_sn, fL_s, fL_sn, aI_w, aI_wn, aL_w, aL_wn, fI_sL, fI_wI, fI_wL, fL_sI, fL_wI, fL_wL, aI_sI, aI_sL, aI_wL, aL_sI, aL_sL, aL_wI, fR_sI, fR_sL, fR_wI, fR_wL, aN_sI, aN_sL, aN_wI, aN_wL, ne_eq, Nat.reduceEqDiff, not_false_eq_true]; exact a4) (by simp only [fI_s, fI_sn, fL_s, fL_sn, aI_w, aI_wn, aL_w, aL_wn, fI_sL, fI_wI, fI_wL, fL_sI, fL_wI, fL_wL, aI_sI, aI_sL, aI_wL, aL_sI, aL_sL, aL_wI, fR_sI, fR_sL, fR_wI, fR_wL, aN_sI, aN_sL, aN_wI, aN_wL, ne_eq, Nat.reduceEqDiff, not_false_eq_true]; exact a5) (by simp only [fI_s, fI_sn, fL_s, fL_sn, aI_w, aI_wn, aL_w, aL_wn, fI_sL, fI_wI, fI_wL, fL_sI, fL_wI, fL_wL, aI_sI, aI_sL, aI_wL, aL_sI, aL_sL, aL_wI, fR_sI, fR_sL, fR_wI, fR_wL, aN_sI, aN_sL, aN_wI, aN_wL, ne_eq, Nat.reduceEqDiff, not_false_eq_true]; rw [a6]) ?_ (by simp only [fI_s, fI_sn, fL_s, fL_sn, aI_w, aI_wn, aL_w, aL_wn, fI_sL, fI_wI, fI_wL, fL_sI, fL_wI, fL_wL, aI_sI, aI_sL, aI_wL, aL_sI, aL_sL, aL_wI, fR_sI, fR_sL, fR_wI, fR_wL, aN_sI, aN_sL, aN_wI, aN_wL, ne_eq, Nat.reduceEqDiff, not_false_eq_true]; exact a8)
    simp only [fI_s, fI_sn, fL_s, fL_sn, aI_w, aI_wn, aL_w, aL_wn, fI_sL, fI_wI, fI_wL, fL_sI, fL_wI, fL_wL, aI_sI, aI_sL, aI_wL, aL_sI, aL_sL, aL_wI, fR_sI, fR_sL, fR_wI, fR_wL, aN_sI, aN_sL, aN_wI, aN_wL, ne_eq, Nat.reduceEqDiff, not_false_eq_true]
    rw [a7, a4, nI_sub (by omega)]; congr 2; omega
  refine s_take h hp hpn (fun e => ?_) (fun e => ?_)
  · intro K hK
    rw [if_neg (by decide)]
    have hlt := hB.lt e (by decide)
    have hs : snd B p = .ok ([], p + 1) := if_pos e
    apply hK
    refine s_length h.pos fI_pos hlt (by simp only [fI_s, fI_sn, fL_s, fL_sn, aI_w, aI_wn, aL_w, aL_wn, fI_sL, fI_wI, fI_wL, fL_sI, fL_wI, fL_wL, aI_sI, aI_sL, aI_wL, aL_sI, aL_sL, aL_wI, fR_sI, fR_sL, fR_wI, fR_wL, aN_sI, aN_sL, aN_wI, aN_wL, ne_eq, Nat.reduceEqDiff, not_false_eq_true]; exact hN) hx hb (by simp only [fI_s, fI_sn, fL_s, fL_sn, aI_w, aI_wn, aL_w, aL_wn, fI_sL, fI_wI, fI_wL, fL_sI, fL_wI, fL_wL, aI_sI, aI_sL, aI_wL, aL_sI, aL_sL, aL_wI, fR_sI, fR_sL, fR_wI, fR_wL, aN_sI, aN_sL, aN_wI, aN_wL, ne_eq, Nat.reduceEqDiff, not_false_eq_true]; exact hz) (fun t q S1 e1 k1 f1 f2 f3 f4 => ?_) (fun e1 S1 e2 c1 => ?_)
    · rw [if_neg (by decide)]
      intro K2 hK2
      rw [if_neg (by decide)]
      apply hK2
      have k2 : KT S S1 := KL.pos.t.tr k1
      refine ⟨_, (h.kt k2).1.f58, ?_⟩
      intro K3 hK3
      rw [if_pos rfl]
      apply hK3
      refine ⟨_, (h.kt k2).1.f58, ?_⟩
      refine fin [] t 0 q S1 ?_ k2 f1 ?_ ?_ ?_ ?_ ?_
      · unfold sou; rw [hs]; simp only []; rw [e1]; simp only []; rw [if_neg (fun c => c.1 e)]
      · rw [f2]; simp only [fI_s, fI_sn, fL_s, fL_sn, aI_w, aI_wn, aL_w, aL_wn, fI_sL, fI_wI, fI_wL, fL_sI, fL_wI, fL_wL, aI_sI, aI_sL, aI_wL, aL_sI, aL_sL, aL_wI, fR_sI, fR_sL, fR_wI, fR_wL, aN_sI, aN_sL, aN_wI, aN_wL, ne_eq, Nat.reduceEqDiff, not_false_eq_true]; exact hc
      · rw [f3]; rfl
      · rw [f3]; rfl
      · rw [f3]; rfl
      · rw [f4]; rfl
    · rw [if_pos rfl]
      refine h0 e1 S1 ?_ (CFT.of KL.pos.t c1)
      unfold sou; rw [hs]; simp only []; rw [e2]
  · intro K hK
    rw [if_pos rfl]
    have tail : ∀ l q S5, snd B p = .ok (l, q) → KP S S5 → fI S5 60 (A 6) = nI q → fI S5 53 (A 5) = nI (pc + l.length) → aI S5 22 (A 22) = apd (pco B) (aI S 22 (A 22)) pc l → K S5 := by
      intro l q S5 a1 a2 a3 a4 a5
      have hq := snd_ok hB hpn a1
      have h5 := h.kp a2
      apply hK
      refine s_length h5 a3 hq.2.2 (by rw [(a2.2.1 45 rfl).1]; exact hN) hx hb (by rw [(a2.2.2 20 rfl).2]; exact hz) (fun t q1 S1 e1 k1 f1 f2 f3 f4 => ?_) (fun e1 S1 e2 c1 => ?_)
      · rw [if_neg (by decide)]
        have hl := len_ok hB hq.2.2 e1
        have k2 : KT S S1 := a2.t.tr k1
        have h6 := h5.kt k1
        intro K2 hK2
        rw [if_pos rfl]
        refine s_take h6 f1 hl.2 (fun c => ?_) (fun c => ?_)
        · rw [if_neg (by decide)]
          apply hK2
          refine ⟨_, h6.pos.1.f58, ?_⟩
          intro K3 hK3
          rw [if_neg (by decide)]
          apply hK3
          refine ⟨_, h6.pos.1.f58, ?_⟩
          refine fin l t 1 (q1 + 1) _ ?_ (k2.tr KL.pos.t) fI_pos ?_ ?_ ?_ ?_ ?_
          · unfold sou; rw [a1]; simp only []; rw [e1]; simp only []; rw [if_pos ⟨e, c⟩]
          · simp only [fI_s, fI_sn, fL_s, fL_sn, aI_w, aI_wn, aL_w, aL_wn, fI_sL, fI_wI, fI_wL, fL_sI, fL_wI, fL_wL, aI_sI, aI_sL, aI_wL, aL_sI, aL_sL, aL_wI, fR_sI, fR_sL, fR_wI, fR_wL, aN_sI, aN_sL, aN_wI, aN_wL, ne_eq, Nat.reduceEqDiff, not_false_eq_true]; rw [f2]; exact a4
          · simp only [fI_s, fI_sn, fL_s, fL_sn, aI_w, aI_wn, aL_w, aL_wn, fI_sL, fI_wI, fI_wL, fL_sI, fL_wI, fL_wL, aI_sI, aI_sL, aI_wL, aL_sI, aL_sL, aL_wI, fR_sI, fR_sL, fR_wI, fR_wL, aN_sI, aN_sL, aN_wI, aN_wL, ne_eq, Nat.reduceEqDiff, not_false_eq_true]; rw [f3]; exact a5
          · simp only [fI_s, fI_sn, fL_s, fL_sn, aI_w, aI_wn, aL_w, aL_wn, fI_sL, fI_wI, fI_wL, fL_sI, fL_wI, fL_wL, aI_sI, aI_sL, aI_wL, aL_sI, aL_sL, aL_wI, fR_sI, fR_sL, fR_wI, fR_wL, aN_sI, aN_sL, aN_wI, aN_wL, ne_eq, Nat.reduceEqDiff, not_false_eq_true]; rw [f3]; exact (a2.2.2 18 rfl).1
          · simp only [fI_s, fI_sn, fL_s, fL_sn, aI_w, aI_wn, aL_w, aL_wn, fI_sL, fI_wI, fI_wL, fL_sI, fL_wI, fL_wL, aI_sI, aI_sL, aI_wL, aL_sI, aL_sL, aL_wI, fR_sI, fR_sL, fR_wI, fR_wL, aN_sI, aN_sL, aN_wI, aN_wL, ne_eq, Nat.reduceEqDiff, not_false_eq_true]; rw [f3]; exact (a2.2.2 19 rfl).1
          · simp only [fI_s, fI_sn, fL_s, fL_sn, aI_w, aI_wn, aL_w, aL_wn, fI_sL, fI_wI, fI_wL, fL_sI, fL_wI, fL_wL, aI_sI, aI_sL, aI_wL, aL_sI, aL_sL, aL_wI, fR_sI, fR_sL, fR_wI, fR_wL, aN_sI, aN_sL, aN_wI, aN_wL, ne_eq, Nat.reduceEqDiff, not_false_eq_true]; rw [f4, (a2.2.2 20 rfl).2]
        · rw [if_pos rfl]
          apply hK2
          refine ⟨_, h6.1.f58, ?_⟩
          intro K3 hK3
          rw [if_pos rfl]
          apply hK3
          refine ⟨_, h6.1.f58, ?_⟩
          refine fin l t 0 q1 _ ?_ k2 f1 ?_ ?_ ?_ ?_ ?_
          · unfold sou; rw [a1]; simp only []; rw [e1]; simp only []; rw [if_neg (fun d => c d.2)]
          · rw [f2]; exact a4
          · rw [f3]; exact a5
          · rw [f3]; exact (a2.2.2 18 rfl).1
          · rw [f3]; exact (a2.2.2 19 rfl).1
          · rw [f4, (a2.2.2 20 rfl).2]
      · rw [if_pos rfl]
        refine h0 e1 S1 ?_ (CFT.of a2.t c1)
        unfold sou; rw [a1]; simp only []; rw [e2]
    refine s_take h hp hpn (fun e2 => ?_) (fun e2 => ?_)
    · rw [if_neg (by decide)]
      have hlt := hB.lt e2 (by decide)
      have hs : snd B p = chd B 6 (p + 1) := (if_neg e).trans (if_pos e2)
      refine s_chord h.pos fI_pos hlt (by simp only [fI_s, fI_sn, fL_s, fL_sn, aI_w, aI_wn, aL_w, aL_wn, fI_sL, fI_wI, fI_wL, fL_sI, fL_wI, fL_wL, aI_sI, aI_sL, aI_wL, aL_sI, aL_sL, aL_wI, fR_sI, fR_sL, fR_wI, fR_wL, aN_sI, aN_sL, aN_wI, aN_wL, ne_eq, Nat.reduceEqDiff, not_false_eq_true]; exact hc) (by omega) (fun l q S1 a1 a2 a3 a4 a5 => ?_) (fun e3 S1 a1 a2 => ?_)
      · rw [if_neg (by decide)]
        exact tail l q S1 (by rw [hs]; exact a1) (KL.pos.toP.tr a2) a3 a4 a5
      · rw [if_pos rfl]
        refine h0 e3 S1 ?_ (CFT.of KL.pos.t a2.t)
        unfold sou; rw [hs, a1]
    · rw [if_pos rfl]
      refine s_written h hp hpn hc hpc (fun ht S1 a2 a3 a4 a5 => ?_) (fun ht S1 a1 => ?_)
      · rw [if_neg (by decide)]
        have hs : snd B p = .ok ([p], pE B p) := (if_neg e).trans ((if_neg e2).trans (if_pos ht))
        exact tail [p] _ S1 hs a2 a3 a4 a5
      · rw [if_pos rfl]
        have hs : snd B p = .error (1, p) := (if_neg e).trans ((if_neg e2).trans (if_neg (by rw [ht]; decide)))
        refine h0 _ S1 ?_ a1.t
        unfold sou; rw [hs]
end
