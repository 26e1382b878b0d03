/-! The class's reader, leaf by leaf: each computes a function of the text B. -/
section
variable {S : PS} {A : Nat → Nat} {B : Nat → Int32} {n p : Nat}
def isDig (c : Int32) : Bool := decide (48 ≤ c ∧ c ≤ 57)
def isTon (c : Int32) : Bool := decide (97 ≤ c ∧ c ≤ 103)
def isLet (c : Int32) : Bool := decide (97 ≤ c ∧ c ≤ 122)
def isSpc (c : Int32) : Bool := decide (c = 32 ∨ c = 10)
def isSyl (c : Int32) : Bool := decide (33 ≤ c ∧ c ≤ 126 ∧ c ≠ 34)
def jL (j : Nat) : Bool := decide (j = 0 ∨ j = 1 ∨ j = 60 ∨ (65 ≤ j ∧ j ≤ 68))
def rN (_ : Nat) : Bool := false
def KL (S S1 : PS) : Prop := Keep jL rN S S1
/-- the class's reader over the text B of n bytes -/
def CT (S : PS) (A : Nat → Nat) (B : Nat → Int32) (n : Nat) : Prop := LayC S A ∧ fI S 44 (A 5) = nI n ∧ Tx B n ∧ ∀ q, q < n → aI S 27 (A 27) q &&& 255 = B q
theorem CT.keep {J R : Nat → Bool} {S1 : PS} (h : CT S A B n) (g : Keep J R S S1) (hj : J 44 = false) (hr : R 27 = false) : CT S1 A B n := ⟨h.1.st g.1, by rw [(g.2.1 44 hj).1]; exact h.2.1, h.2.2.1, by rw [(g.2.2 27 hr).1]; exact h.2.2.2⟩
theorem CT.kl {S1 : PS} (h : CT S A B n) (g : KL S S1) : CT S1 A B n := h.keep g rfl rfl
theorem CT.pos (h : CT S A B n) {v : Int32} : CT (sI S 60 (A 6) v) A B n := h.kl (Keep.rf.sI rfl)
theorem KL.pos {v : Int32} : KL S (sI S 60 (A 6) v) := Keep.rf.sI rfl
theorem fI_pos {v : Int32} {a : Nat} : fI (sI S 60 a v) 60 a = v := by rw [fI_sI, if_pos ⟨rfl, rfl⟩]
/-- a fault is told -/
def CF (S S1 : PS) (A : Nat → Nat) (e : Nat × Nat) : Prop := KL S S1 ∧ fI S1 0 (A 0) = nI e.1 ∧ fI S1 1 (A 0) = nI e.2
theorem CF.of {S1 S2 : PS} {e : Nat × Nat} (g : KL S S1) (h : CF S1 S2 A e) : CF S S2 A e := ⟨g.tr h.1, h.2⟩
theorem s_next {Q : Int32 → PS → Prop} (h : CT S A B n) (hp : fI S 60 (A 6) = nI p) (hpn : p ≤ n) (hQ : Q (B p) S) : wp_X7_next (A 6) S Q := by
  have hn := h.2.2.1.1
  unfold wp_X7_next
  intro K hK
  rw [hp, if_neg (nI_pos (by omega))]
  refine ⟨_, h.1.f58, ?_⟩
  rw [h.2.1]
  by_cases hlt : p < n
  · rw [if_neg (nI_ge hlt (by omega))]
    refine ⟨_, h.1.f58, _, h.1.f43, ?_⟩
    rw [h.1.n27, if_neg (nI_ge (by omega) (by omega))]
    apply hK
    rw [if_neg (by decide)]
    refine ⟨_, h.1.f58, _, h.1.f43, ?_, ?_⟩
    · rw [hp, h.1.n27]; exact vp_in_nI (by omega) (by omega)
    · rw [hp, nI_clamp (by omega), h.2.2.2 p hlt]; exact hQ
  · rw [if_pos (nI_le (by omega) (by omega))]
    apply hK
    rw [if_pos rfl]
    rw [h.2.2.1.2.1 p (by omega)] at hQ; exact hQ
theorem s_take {Q : Int32 → PS → Prop} {c : Int32} (h : CT S A B n) (hp : fI S 60 (A 6) = nI p) (hpn : p ≤ n) (h1 : B p = c → Q 1 (sI S 60 (A 6) (nI (p + 1)))) (h0 : B p ≠ c → Q 0 S) : wp_X7_take (A 6) c S Q := by
  unfold wp_X7_take
  refine s_next h hp hpn ?_
  by_cases hc : B p = c
  · rw [if_pos hc]
    rintro _ rfl
    rw [hp, nI_1]; exact h1 hc
  · rw [if_neg hc]; exact h0 hc
theorem s_tell {Q : Int32 → PS → Prop} {k pl : Int32} {a : Nat} (hQ : Q 0 (sI (sI S 0 a k) 1 a pl)) : wp_X0_tell a k pl S Q := by
  unfold wp_X0_tell
  rintro _ rfl _ rfl
  exact hQ
theorem CF_tell {k pl : Nat} : CF S (sI (sI S 0 (A 0) (nI k)) 1 (A 0) (nI pl)) A (k, pl) := ⟨(Keep.rf.sI rfl).sI rfl, by rw [fI_sI, if_neg (fun h => absurd h.1 (by decide)), fI_sI, if_pos ⟨rfl, rfl⟩], by rw [fI_sI, if_pos ⟨rfl, rfl⟩]⟩
theorem s_refuse {Q : Int32 → PS → Prop} (h : CT S A B n) (hp : fI S 60 (A 6) = nI p) (hQ : ∀ S1, CF S S1 A (1, p) → Q 0 S1) : wp_X7_refuse (A 6) S Q := by
  unfold wp_X7_refuse
  refine ⟨_, h.1.f59, ?_⟩
  rw [hp]
  exact s_tell (hQ _ (CF_tell (k := 1)))
theorem s_must {Q : Int32 → PS → Prop} {c : Int32} (h : CT S A B n) (hp : fI S 60 (A 6) = nI p) (hpn : p ≤ n) (h1 : B p = c → Q 1 (sI S 60 (A 6) (nI (p + 1)))) (h0 : B p ≠ c → ∀ S1, CF S S1 A (1, p) → Q 0 S1) : wp_X7_must (A 6) c S Q := by
  unfold wp_X7_must
  refine s_take h hp hpn (fun hc => ?_) (fun hc => ?_)
  · rw [if_neg (by decide)]; exact h1 hc
  · rw [if_pos rfl]
    refine s_refuse h hp (fun S1 hS => ?_)
    rw [if_pos rfl]; exact h0 hc S1 hS
def mI (m : Bool) : Int32 := if m = true then 1 else 0
theorem mI_0 (m : Bool) : mI m = 0 ↔ m = false := by cases m <;> decide
theorem s_blanks {Q : PS → Prop} (h : CT S A B n) (hp : fI S 60 (A 6) = nI p) (hpn : p ≤ n) (hQ : Q (sI S 60 (A 6) (nI (bl B p)))) : wp_X7_skipBlanks (A 6) S Q := by
  have hn := h.2.2.1.1
  unfold wp_X7_skipBlanks
  intro P hP
  have key : ∀ k p1 m, 1500 - p1 = k → p1 ≤ n → bks B k m p1 = bl B p → P (mI m) (sI S 60 (A 6) (nI p1)) := by
    intro k
    induction k with
    | zero =>
      intro p1 m hk h1 h2
      apply hP
      refine ⟨_, h.pos.1.f58, ?_⟩
      rw [h.pos.2.1, fI_pos, if_pos (nI_le (by omega) (by omega))]
      rw [bks] at h2; rw [h2]; exact hQ
    | succ k ih =>
      intro p1 m hk h1 h2
      apply hP
      refine ⟨_, h.pos.1.f58, ?_⟩
      rw [h.pos.2.1, fI_pos]
      rcases Nat.lt_or_ge p1 n with hlt | hge
      · rw [if_neg (nI_ge hlt (by omega))]
        refine s_next h.pos fI_pos h1 ?_
        intro K hK
        have hgo : ∀ m1, bks B k m1 (p1 + 1) = bl B p → K (mI m1) (sI S 60 (A 6) (nI p1)) := by
          intro m1 hm
          apply hK
          rintro _ rfl
          rw [fI_pos, nI_1, sI_sI]
          exact ih (p1 + 1) m1 (by omega) (by omega) hm
        have hne : B p1 ≠ -1 := by
          intro e
          have := (h.2.2.1.2.2 p1 hlt).1
          rw [e] at this; revert this; decide
        rw [bks, if_neg hne] at h2
        by_cases h37 : B p1 = 37
        · rw [if_pos h37] at h2 ⊢; exact hgo true h2
        · rw [if_neg h37] at h2 ⊢
          by_cases h10 : B p1 = 10
          · rw [if_pos h10] at h2 ⊢; exact hgo false h2
          · rw [if_neg h10] at h2 ⊢
            by_cases h32 : B p1 = 32
            · rw [if_pos h32] at h2 ⊢; exact hgo m h2
            · rw [if_neg h32] at h2 ⊢
              cases m with
              | true =>
                rw [if_pos rfl] at h2
                rw [if_neg (by decide)]; exact hgo true h2
              | false =>
                rw [if_neg (by decide)] at h2
                rw [if_pos (by decide), h2]; exact hQ
      · rw [if_pos (nI_le hge (by omega))]
        rw [bks, if_pos (h.2.2.1.2.1 p1 hge)] at h2
        rw [h2]; exact hQ
  have := key _ p false rfl hpn rfl
  rw [sI_self hp] at this
  exact this
theorem s_mustB {Q : Int32 → PS → Prop} {c : Int32} (h : CT S A B n) (hp : fI S 60 (A 6) = nI p) (hpn : p ≤ n) (h1 : B (bl B p) = c → Q 1 (sI S 60 (A 6) (nI (bl B p + 1)))) (h0 : B (bl B p) ≠ c → ∀ S1, CF S S1 A (1, bl B p) → Q 0 S1) : wp_X7_mustBehindBlanks (A 6) c S Q := by
  unfold wp_X7_mustBehindBlanks
  refine s_blanks h hp hpn ?_
  refine s_must h.pos fI_pos (bl_le h.2.2.1 hpn) (fun hc => ?_) (fun hc S1 hS => ?_)
  · rw [sI_sI]; exact h1 hc
  · exact h0 hc S1 (CF.of KL.pos hS)
/-! marks: at most w of a byte -/
def mks (B : Nat → Int32) (c : Int32) : Nat → Nat → Nat
  | 0, _ => 0
  | w + 1, p => if B p = c then mks B c w (p + 1) + 1 else 0
theorem mks_le {c : Int32} : ∀ w p, mks B c w p ≤ w := by
  intro w
  induction w with
  | zero => intro p; exact Nat.le_refl 0
  | succ w ih => intro p; rw [mks]; split; exact Nat.succ_le_succ (ih _); omega
theorem mks_n {c : Int32} (hB : Tx B n) (hc : c ≠ -1) : ∀ w p, p ≤ n → p + mks B c w p ≤ n := by
  intro w
  induction w with
  | zero => intro p h; exact h
  | succ w ih =>
    intro p h; rw [mks]; split
    · rename_i he
      have := ih (p + 1) (hB.lt he hc); omega
    · exact h
theorem mks_0 {c : Int32} {w : Nat} (h : B p ≠ c) : mks B c w p = 0 := by
  cases w with
  | zero => rfl
  | succ w => rw [mks, if_neg h]
theorem mks_pos {c : Int32} {w : Nat} (h : B p = c) : mks B c (w + 1) p ≠ 0 := by rw [mks, if_pos h]; omega
theorem s_marks {Q : Int32 → PS → Prop} {c : Int32} {w : Nat} (h : CT S A B n) (hp : fI S 60 (A 6) = nI p) (hpn : p ≤ n) (hc : c ≠ -1) (hw : w < 100) (hQ : Q (nI (mks B c w p)) (sI S 60 (A 6) (nI (p + mks B c w p)))) : wp_X7_marks (A 6) c (nI w) S Q := by
  have hn := h.2.2.1.1
  unfold wp_X7_marks
  intro P hP
  have key : ∀ k i, i + k = w → p + i ≤ n → i + mks B c k (p + i) = mks B c w p → P (nI i) (sI S 60 (A 6) (nI (p + i))) := by
    intro k
    induction k with
    | zero =>
      intro i hi h1 h2
      apply hP
      rw [if_pos (nI_le (by omega) (by omega))]
      rw [mks, Nat.add_zero] at h2; rw [← h2] at hQ; exact hQ
    | succ k ih =>
      intro i hi h1 h2
      apply hP
      rw [if_neg (nI_ge (by omega) (by omega))]
      refine s_next h.pos fI_pos h1 ?_
      by_cases he : B (p + i) = c
      · rw [if_pos he]
        rintro _ rfl _ rfl
        rw [fI_pos, nI_1, nI_1, sI_sI]
        rw [mks, if_pos he] at h2
        have h3 := h.2.2.1.lt he hc
        exact ih (i + 1) (by omega) (by omega) (by rw [← h2]; have : p + (i + 1) = p + i + 1 := by omega
                                                   rw [this]; omega)
      · rw [if_neg he]
        rw [mks, if_neg he, Nat.add_zero] at h2; rw [← h2] at hQ; exact hQ
  have := key w 0 (by omega) (by omega) (by rw [Nat.add_zero]; omega)
  rw [Nat.add_zero, sI_self hp] at this
  exact this
end
