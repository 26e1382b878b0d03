/-! The reference's reader, leaf by leaf. -/
section
variable {S : PS} {A : Nat → Nat} {B : Nat → Int32} {n p : Nat}
def jR (j : Nat) : Bool := decide (101 ≤ j ∧ j ≤ 103)
def KR (S S1 : PS) : Prop := Keep jR rN S S1
def jM (j : Nat) : Bool := decide (101 ≤ j ∧ j ≤ 134 ∧ j ≠ 104)
def rM (r : Nat) : Bool := decide (42 ≤ r ∧ r ≤ 64)
def KM (S S1 : PS) : Prop := Keep jM rM S S1
theorem KR.m {S1 : PS} (h : KR S S1) : KM S S1 := h.mono (fun j => by unfold jM jR; simp only [decide_eq_false_iff_not]; omega) (fun _ _ => rfl)
/-- the reference over the text B of n bytes -/
def RT (S : PS) (A : Nat → Nat) (B : Nat → Int32) (n : Nat) : Prop := LayM S A ∧ fI S 100 (A 9) = nI n ∧ Tx B n ∧ ∀ q, q < n → aI S 41 (A 41) q &&& 255 = B q ∧ (isLet (B q) = true → aI S 41 (A 41) q = B q)
theorem RT.keep {J R : Nat → Bool} {S1 : PS} (h : RT S A B n) (g : Keep J R S S1) (hj : J 100 = false) (hr : R 41 = false) : RT S1 A B n := ⟨h.1.st g.1, by rw [(g.2.1 100 hj).1]; exact h.2.1, h.2.2.1, by rw [(g.2.2 41 hr).1]; exact h.2.2.2⟩
theorem RT.kr {S1 : PS} (h : RT S A B n) (g : KR S S1) : RT S1 A B n := h.keep g rfl rfl
theorem RT.km {S1 : PS} (h : RT S A B n) (g : KM S S1) : RT S1 A B n := h.keep g rfl rfl
theorem RT.pos (h : RT S A B n) {v : Int32} : RT (sI S 101 (A 9) v) A B n := h.kr (Keep.rf.sI rfl)
theorem KR.pos {v : Int32} : KR S (sI S 101 (A 9) v) := Keep.rf.sI rfl
theorem fI_at {v : Int32} {a : Nat} : fI (sI S 101 a v) 101 a = v := by rw [fI_sI, if_pos ⟨rfl, rfl⟩]
theorem fI_at2 {v : Int32} {a : Nat} : fI (sI S 101 a v) 102 a = fI S 102 a := by rw [fI_sn _ _ _ _ _ (by decide)]
/-- a fault is there -/
def RF (S S1 : PS) (A : Nat → Nat) (e : Nat × Nat) : Prop := KR S S1 ∧ fI S1 102 (A 9) = nI e.1 ∧ fI S1 103 (A 9) = nI e.2
theorem RF.of {S1 S2 : PS} {e : Nat × Nat} (g : KR S S1) (h : RF S1 S2 A e) : RF S S2 A e := ⟨g.tr h.1, h.2⟩
theorem r_bad {Q : PS → Prop} {k q : Nat} (hf : fI S 102 (A 9) = 0) (hQ : ∀ S1, RF S S1 A (k, q) → Q S1) : wp_X12_bad (A 9) (nI k) (nI q) S Q := by
  unfold wp_X12_bad
  rw [if_pos hf]
  rintro _ rfl _ rfl
  refine hQ _ ⟨(Keep.rf.sI rfl).sI rfl, ?_, ?_⟩
  · rw [fI_sn _ _ _ _ _ (by decide), fI_sI, if_pos ⟨rfl, rfl⟩]
  · rw [fI_sI, if_pos ⟨rfl, rfl⟩]
/-- the reference stands within its text -/
def Pz (S : PS) (A : Nat → Nat) : Prop := ∃ q, fI S 101 (A 9) = nI q ∧ q ≤ 1500 ∧ nI q ≤ fI S 100 (A 9)
theorem RT.pz (h : RT S A B n) (hp : fI S 101 (A 9) = nI p) (hpn : p ≤ n) : Pz S A := ⟨p, hp, by have := h.2.2.1.1; omega, by rw [h.2.1]; exact nI_le hpn (by have := h.2.2.1.1; omega)⟩
theorem RT.at_of (h : RT S A B n) (z : Pz S A) : ∃ q, fI S 101 (A 9) = nI q ∧ q ≤ n := by
  obtain ⟨q, h1, h2, h3⟩ := z
  have := h.2.2.1.1
  rw [h.2.1, nI_le_iff (by omega) (by omega)] at h3
  exact ⟨q, h1, h3⟩
theorem r_badp {Q : PS → Prop} {k q : Nat} (hz : Pz S A) (hf : fI S 102 (A 9) = 0) (hQ : ∀ S1, RF S S1 A (k, q) → Pz S1 A → Q S1) : wp_X12_bad (A 9) (nI k) (nI q) S Q := by
  unfold wp_X12_bad
  rw [if_pos hf]
  rintro _ rfl _ rfl
  obtain ⟨p4, z1, z2, z3⟩ := hz
  refine hQ _ ⟨(Keep.rf.sI rfl).sI rfl, ?_, ?_⟩ ⟨p4, ?_, z2, ?_⟩
  · rw [fI_sn _ _ _ _ _ (by decide), fI_sI, if_pos ⟨rfl, rfl⟩]
  · rw [fI_sI, if_pos ⟨rfl, rfl⟩]
  · rw [fI_sn _ _ _ _ _ (by decide), fI_sn _ _ _ _ _ (by decide)]; exact z1
  · rw [fI_sn _ _ _ _ _ (by decide), fI_sn _ _ _ _ _ (by decide)]; exact z3
theorem r_bad_f {Q : PS → Prop} {k q : Int32} (hf : fI S 102 (A 9) ≠ 0) (hQ : Q S) : wp_X12_bad (A 9) k q S Q := by
  unfold wp_X12_bad
  rw [if_neg hf]; exact hQ
theorem r_here {Q : Int32 → PS → Prop} (h : RT S A B n) (hp : fI S 101 (A 9) = nI p) (hpn : p ≤ n) (hQ : Q (B p) S) : wp_X12_here (A 9) S Q := by
  have hn := h.2.2.1.1
  unfold wp_X12_here
  rw [hp, h.2.1]
  by_cases hlt : p < n
  · rw [if_neg (nI_ge hlt (by omega))]
    refine ⟨_, h.1.f99, ?_, ?_⟩
    · rw [h.1.n41]; exact vp_in_nI (by omega) (by omega)
    · rw [nI_clamp (by omega), (h.2.2.2 p hlt).1]; exact hQ
  · rw [if_pos (nI_le (by omega) (by omega))]
    rw [h.2.2.1.2.1 p (by omega)] at hQ; exact hQ
theorem r_isHere {Q : Int32 → PS → Prop} {c : Int32} (h : RT S A B n) (hp : fI S 101 (A 9) = nI p) (hpn : p ≤ n) (h1 : B p = c → Q 1 S) (h0 : B p ≠ c → Q 0 S) : wp_X12_isHere (A 9) c S Q := by
  unfold wp_X12_isHere
  refine r_here h hp hpn ?_
  by_cases hc : B p = c
  · rw [if_pos hc]; exact h1 hc
  · rw [if_neg hc]; exact h0 hc
theorem r_blanks {Q : PS → Prop} (h : RT S A B n) (hp : fI S 101 (A 9) = nI p) (hpn : p ≤ n) (hQ : Q (sI S 101 (A 9) (nI (bl B p)))) : wp_X12_blanks (A 9) S Q := by
  have hn := h.2.2.1.1
  unfold wp_X12_blanks
  intro P hP
  have key : ∀ k, (∀ p1, 1500 - p1 = k → p1 ≤ n → bks B k false p1 = bl B p → P (sI S 101 (A 9) (nI p1))) ∧
      ∀ R : PS → Prop, (∀ (S11 : PS), (if fI S11 100 (A 9) ≤ fI S11 101 (A 9) then P S11 else wp_X12_isHere (A 9) 10 S11 (fun (r13 : Int32) (S12 : PS) => (if r13 = 0 then (∀ S14, S14 = sI S12 101 (A 9) ((fI S12 101 (A 9)) + 1) → R S14) else P S12))) → R S11) →
      ∀ p1, 1500 - p1 = k → p1 ≤ n → bks B k true p1 = bl B p → R (sI S 101 (A 9) (nI p1)) := by
    intro k
    induction k with
    | zero =>
      have out : ∀ p1 m, 1500 - p1 = 0 → p1 ≤ n → bks B 0 m p1 = bl B p → P (sI S 101 (A 9) (nI p1)) := by
        intro p1 m a1 a2 a3
        have e : B p1 = -1 := h.2.2.1.2.1 p1 (by omega)
        rw [bks] at a3
        apply hP
        refine r_isHere h.pos fI_at a2 (fun c => ?_) (fun c => ?_)
        · rw [e] at c; exact absurd c (by decide)
        · intro K hK
          rw [if_pos rfl]
          refine r_isHere h.pos fI_at a2 (fun c => ?_) (fun c => ?_)
          · rw [e] at c; exact absurd c (by decide)
          · rw [if_pos rfl]
            refine r_isHere h.pos fI_at a2 (fun c => ?_) (fun c => ?_)
            · rw [e] at c; exact absurd c (by decide)
            · rw [if_pos rfl, a3]; exact hQ
      refine ⟨fun p1 => out p1 false, fun R hR p1 a1 a2 a3 => ?_⟩
      apply hR
      rw [h.pos.2.1, fI_at, if_pos (nI_le (by omega) (by omega))]
      exact out p1 true a1 a2 a3
    | succ k ih =>
      have out : ∀ p1, 1500 - p1 = k + 1 → p1 ≤ n → bks B (k + 1) false p1 = bl B p → P (sI S 101 (A 9) (nI p1)) := by
        intro p1 a1 a2 a3
        rw [bks] at a3
        have fin : ∀ {K : PS → Prop}, (∀ (S5 : PS), wp_X12_isHere (A 9) 37 S5 (fun (r8 : Int32) (S7 : PS) => (if r8 = 0 then (∀ S9, S9 = sI S7 101 (A 9) ((fI S7 101 (A 9)) + 1) → P S9) else (∀ R : PS → Prop, (∀ (S11 : PS), (if fI S11 100 (A 9) ≤ fI S11 101 (A 9) then P S11 else wp_X12_isHere (A 9) 10 S11 (fun (r13 : Int32) (S12 : PS) => (if r13 = 0 then (∀ S14, S14 = sI S12 101 (A 9) ((fI S12 101 (A 9)) + 1) → R S14) else P S12))) → R S11) → R S7))) → K S5) → (B p1 = 32 ∨ B p1 = 10 ∨ B p1 = 37) → K (sI S 101 (A 9) (nI p1)) := by
          intro K hK c
          have hlt : p1 < n := by
            rcases c with c | c | c
            · exact h.2.2.1.lt c (by decide)
            · exact h.2.2.1.lt c (by decide)
            · exact h.2.2.1.lt c (by decide)
          have hne : B p1 ≠ -1 := by rcases c with c | c | c <;> (rw [c]; decide)
          rw [if_neg hne] at a3
          apply hK
          refine r_isHere h.pos fI_at a2 (fun c37 => ?_) (fun c37 => ?_)
          · rw [if_neg (by decide)]
            intro R hR
            rw [if_pos c37] at a3
            apply hR
            rw [h.pos.2.1, fI_at, if_neg (nI_ge hlt (by omega))]
            refine r_isHere h.pos fI_at a2 (fun d => ?_) (fun d => ?_)
            · rw [c37] at d; exact absurd d (by decide)
            · rw [if_pos rfl]
              rintro _ rfl
              rw [fI_at, nI_1, sI_sI]
              exact ih.2 R hR (p1 + 1) (by omega) (by omega) a3
          · rw [if_pos rfl]
            rintro _ rfl
            rw [fI_at, nI_1, sI_sI]
            refine ih.1 (p1 + 1) (by omega) (by omega) ?_
            rw [if_neg c37] at a3
            by_cases c10 : B p1 = 10
            · rw [if_pos c10] at a3; exact a3
            · rw [if_neg c10] at a3
              by_cases c32 : B p1 = 32
              · rw [if_pos c32] at a3; exact a3
              · exfalso
                rcases c with c | c | c
                · exact c32 c
                · exact c10 c
                · exact c37 c
        apply hP
        refine r_isHere h.pos fI_at a2 (fun c => ?_) (fun c => ?_)
        · intro K hK
          rw [if_neg (by decide)]; exact fin hK (Or.inl c)
        · intro K hK
          rw [if_pos rfl]
          refine r_isHere h.pos fI_at a2 (fun d => ?_) (fun d => ?_)
          · rw [if_neg (by decide)]; exact fin hK (Or.inr (Or.inl d))
          · rw [if_pos rfl]
            refine r_isHere h.pos fI_at a2 (fun f => ?_) (fun f => ?_)
            · rw [if_neg (by decide)]; exact fin hK (Or.inr (Or.inr f))
            · rw [if_pos rfl]
              rw [if_neg f, if_neg d, if_neg c, if_neg (by decide : ¬ false = true)] at a3
              have : p1 = bl B p := by
                by_cases g : B p1 = -1
                · rw [if_pos g] at a3; exact a3
                · rw [if_neg g] at a3; exact a3
              rw [this]; exact hQ
      refine ⟨out, fun R hR p1 a1 a2 a3 => ?_⟩
      apply hR
      rw [h.pos.2.1, fI_at]
      rcases Nat.lt_or_ge p1 n with hlt | hge
      · rw [if_neg (nI_ge hlt (by omega))]
        have hne : B p1 ≠ -1 := by
          intro e
          have := (h.2.2.1.2.2 p1 hlt).1
          rw [e] at this; revert this; decide
        refine r_isHere h.pos fI_at a2 (fun d => ?_) (fun d => ?_)
        · rw [if_neg (by decide)]
          refine out p1 a1 a2 ?_
          rw [bks] at a3 ⊢
          rw [if_neg hne, if_neg (by rw [d]; decide), if_pos d] at a3 ⊢
          exact a3
        · rw [if_pos rfl]
          rintro _ rfl
          rw [fI_at, nI_1, sI_sI]
          refine ih.2 R hR (p1 + 1) (by omega) (by omega) ?_
          rw [bks, if_neg hne] at a3
          by_cases c37 : B p1 = 37
          · rw [if_pos c37] at a3; exact a3
          · rw [if_neg c37, if_neg d] at a3
            by_cases c32 : B p1 = 32
            · rw [if_pos c32] at a3; exact a3
            · rw [if_neg c32, if_pos rfl] at a3; exact a3
      · rw [if_pos (nI_le hge (by omega))]
        refine out p1 a1 a2 ?_
        rw [bks, if_pos (h.2.2.1.2.1 p1 hge)] at a3 ⊢; exact a3
  have := (key _).1 p rfl hpn rfl
  rw [sI_self hp] at this
  exact this
theorem r_want {Q : PS → Prop} {c : Int32} (h : RT S A B n) (hf : fI S 102 (A 9) = 0) (hp : fI S 101 (A 9) = nI p) (hpn : p ≤ n) (h1 : B (bl B p) = c → Q (sI S 101 (A 9) (nI (bl B p + 1)))) (h0 : B (bl B p) ≠ c → ∀ S1, RF S S1 A (1, bl B p) → Pz S1 A → Q S1) : wp_X12_want (A 9) c S Q := by
  unfold wp_X12_want
  rw [if_pos hf]
  refine r_blanks h hp hpn ?_
  refine r_isHere h.pos fI_at (bl_le h.2.2.1 hpn) (fun e => ?_) (fun e => ?_)
  · rw [if_neg (by decide)]
    rintro _ rfl
    rw [fI_at, nI_1, sI_sI]; exact h1 e
  · rw [if_pos rfl, fI_at]
    exact r_badp (k := 1) (h.pos.pz fI_at (bl_le h.2.2.1 hpn)) (fI_at2.trans hf) (fun S1 h2 z2 => h0 e S1 (RF.of KR.pos h2) z2)
theorem r_want_f {Q : PS → Prop} {c : Int32} (hf : fI S 102 (A 9) ≠ 0) (hQ : Q S) : wp_X12_want (A 9) c S Q := by
  unfold wp_X12_want
  rw [if_neg hf]; exact hQ
theorem r_isDigit {Q : Int32 → PS → Prop} {c : Int32} (h1 : isDig c = true → Q 1 S) (h0 : isDig c = false → Q 0 S) : wp_X12_isDigit c S Q := s_isDigit h1 h0
theorem dg_r {c : Int32} (h : isDig c = true) (v : Nat) : (10 : Int64) * lN v + c.toInt64 - 48 = lN (v * 10 + dg c) := by
  obtain ⟨h1, h2⟩ := isDig_of h
  conv => lhs; rw [h1, nI_l (by omega)]
  show lN 10 * lN v + lN (48 + dg c) - lN 48 = _
  rw [lN_mul, lN_add]
  have e : lN (10 * v + (48 + dg c)) = lN (v * 10 + dg c) + lN 48 := by rw [lN_add]; congr 1; omega
  rw [e, Int64.add_sub_cancel]
theorem r_in {Q : Int32 → PS → Prop} {v lo hi : Nat} (hb : v < 2 ^ 63) (hl : lo < 2 ^ 63) (hh : hi < 2 ^ 63) (h1 : lo ≤ v → v ≤ hi → Q 1 S) (h0 : v < lo ∨ hi < v → Q 0 S) : wp_X12_in (lN v) (lN lo) (lN hi) S Q := by
  unfold wp_X12_in
  by_cases c3 : v < lo
  · rw [if_pos ((lN_ltq hb hl).mpr c3)]; exact h0 (Or.inl c3)
  · rw [if_neg (fun e => c3 ((lN_ltq hb hl).mp e))]
    by_cases c4 : hi < v
    · rw [if_pos ((lN_ltq hh hb).mpr c4)]; exact h0 (Or.inr c4)
    · rw [if_neg (fun e => c4 ((lN_ltq hh hb).mp e))]; exact h1 (by omega) (by omega)
theorem r_digits {Q : Int64 → PS → Prop} {w lo hi : Nat} (h : RT S A B n) (hf : fI S 102 (A 9) = 0) (hp : fI S 101 (A 9) = nI p) (hpn : p ≤ n) (hw : w ≤ 10) (hl : lo < 2 ^ 63) (hh : hi < 2 ^ 63)
    (h1 : ∀ v q, ran lo hi p (dig B w p) = .ok (v, q) → Q (lN v) (sI S 101 (A 9) (nI q)))
    (h0 : ∀ e r S1, ran lo hi p (dig B w p) = .error e → RF S S1 A e → Pz S1 A → Q r S1) : wp_X12_digits (A 9) (nI w) (lN lo) (lN hi) S Q := by
  have hn := h.2.2.1.1
  unfold wp_X12_digits
  rintro _ rfl P hP
  have key : ∀ k p1 v, 1500 - p1 = k → p ≤ p1 → p1 ≤ n → sc isDig B p1 = sc isDig B p → (p1 ≤ p + w → v = lN (dvl B (p1 - p) p)) → P v (sI S 101 (A 9) (nI p1)) := by
    intro k
    induction k with
    | zero =>
      intro p1 v a1 a2 a3 a4 a5
      apply hP
      refine r_here h.pos fI_at a3 ?_
      refine r_isDigit (fun hd => ?_) (fun hd => ?_)
      · rw [h.2.2.1.2.1 p1 (by omega)] at hd; cases hd
      · rw [if_pos rfl, fI_at, hp]
        have e1 : sc isDig B p = p1 := by rw [← a4]; exact sc_stop hd
        have hd2 : dig B w p = if p1 = p then .error (1, p) else if w < p1 - p then .error (2, p) else .ok (dvl B (p1 - p) p, p1) := by unfold dig; rw [e1]
        by_cases c1 : p1 = p
        · rw [if_pos (by rw [c1])]
          rw [if_pos c1] at hd2
          exact r_badp (k := 1) (h.pos.pz fI_at a3) (fI_at2.trans hf) (fun S2 h2 z2 => h0 _ _ S2 (by rw [hd2]; rfl) (RF.of KR.pos (by rw [← c1]; exact h2)) z2)
        · rw [if_neg (by rw [nI_eq (by omega) (by omega)]; exact c1)]
          rw [if_neg c1] at hd2
          intro K hK
          have hk : ran lo hi p (dig B w p) = .error (2, p) → K (sI S 101 (A 9) (nI p1)) := fun e => by
            apply hK
            exact r_badp (k := 2) (h.pos.pz fI_at a3) (fI_at2.trans hf) (fun S2 h2 z2 => h0 _ _ S2 e (RF.of KR.pos h2) z2)
          rw [nI_sub a2]
          by_cases c2 : w < p1 - p
          · rw [if_pos (nI_lt c2 (by omega))]
            rw [if_pos c2] at hd2
            exact hk (by rw [hd2]; rfl)
          · rw [if_neg (nI_nlt (by omega) (by omega))]
            rw [if_neg c2] at hd2
            have hb : dvl B (p1 - p) p < 2 ^ 63 := by
              have := (dig_ok h.2.2.1 hpn hd2).2.2.2
              exact Nat.lt_trans this (Nat.lt_of_le_of_lt (Nat.pow_le_pow_right (by omega) hw) (by decide))
            rw [a5 (by omega)]
            have hr : ran lo hi p (dig B w p) = if dvl B (p1 - p) p < lo ∨ hi < dvl B (p1 - p) p then .error (2, p) else .ok (dvl B (p1 - p) p, p1) := by rw [hd2]; rfl
            refine r_in hb hl hh (fun c3 c4 => ?_) (fun c3 => ?_)
            · rw [if_neg (by decide)]
              exact h1 _ _ (by rw [hr, if_neg (by omega)])
            · rw [if_pos rfl]
              exact hk (by rw [hr, if_pos c3])
    | succ k ih =>
      intro p1 v a1 a2 a3 a4 a5
      apply hP
      refine r_here h.pos fI_at a3 ?_
      refine r_isDigit (fun hd => ?_) (fun hd => ?_)
      · rw [if_neg (by decide)]
        have hlt : p1 < n := by
          rcases Nat.lt_or_ge p1 n with q | q
          · exact q
          · rw [h.2.2.1.2.1 p1 q] at hd; cases hd
        intro K hK
        rw [fI_at, hp, nI_sub a2]
        have hgo : ∀ v1, (p1 + 1 ≤ p + w → v1 = lN (dvl B (p1 + 1 - p) p)) → K v1 (sI S 101 (A 9) (nI p1)) := by
          intro v1 hv
          apply hK
          rintro _ rfl
          rw [fI_at, nI_1, sI_sI]
          exact ih (p1 + 1) v1 (by omega) (by omega) (by omega) (by rw [← sc_go hd (by omega)]; exact a4) hv
        by_cases c : w ≤ p1 - p
        · rw [if_pos (nI_le c (by omega))]
          exact hgo v (fun e => by omega)
        · rw [if_neg (nI_ge (by omega) (by omega))]
          refine r_here h.pos fI_at a3 ?_
          refine hgo _ (fun e => ?_)
          rw [a5 (by omega), dg_r hd]
          have e3 : p1 + 1 - p = (p1 - p) + 1 := by omega
          have e4 : p + (p1 - p) = p1 := by omega
          rw [e3, dvl, e4]
      · rw [if_pos rfl, fI_at, hp]
        have e1 : sc isDig B p = p1 := by rw [← a4]; exact sc_stop hd
        have hd2 : dig B w p = if p1 = p then .error (1, p) else if w < p1 - p then .error (2, p) else .ok (dvl B (p1 - p) p, p1) := by unfold dig; rw [e1]
        by_cases c1 : p1 = p
        · rw [if_pos (by rw [c1])]
          rw [if_pos c1] at hd2
          exact r_badp (k := 1) (h.pos.pz fI_at a3) (fI_at2.trans hf) (fun S2 h2 z2 => h0 _ _ S2 (by rw [hd2]; rfl) (RF.of KR.pos (by rw [← c1]; exact h2)) z2)
        · rw [if_neg (by rw [nI_eq (by omega) (by omega)]; exact c1)]
          rw [if_neg c1] at hd2
          intro K hK
          have hk : ran lo hi p (dig B w p) = .error (2, p) → K (sI S 101 (A 9) (nI p1)) := fun e => by
            apply hK
            exact r_badp (k := 2) (h.pos.pz fI_at a3) (fI_at2.trans hf) (fun S2 h2 z2 => h0 _ _ S2 e (RF.of KR.pos h2) z2)
          rw [nI_sub a2]
          by_cases c2 : w < p1 - p
          · rw [if_pos (nI_lt c2 (by omega))]
            rw [if_pos c2] at hd2
            exact hk (by rw [hd2]; rfl)
          · rw [if_neg (nI_nlt (by omega) (by omega))]
            rw [if_neg c2] at hd2
            have hb : dvl B (p1 - p) p < 2 ^ 63 := by
              have := (dig_ok h.2.2.1 hpn hd2).2.2.2
              exact Nat.lt_trans this (Nat.lt_of_le_of_lt (Nat.pow_le_pow_right (by omega) hw) (by decide))
            rw [a5 (by omega)]
            have hr : ran lo hi p (dig B w p) = if dvl B (p1 - p) p < lo ∨ hi < dvl B (p1 - p) p then .error (2, p) else .ok (dvl B (p1 - p) p, p1) := by rw [hd2]; rfl
            refine r_in hb hl hh (fun c3 c4 => ?_) (fun c3 => ?_)
            · rw [if_neg (by decide)]
              exact h1 _ _ (by rw [hr, if_neg (by omega)])
            · rw [if_pos rfl]
              exact hk (by rw [hr, if_pos c3])
  have := key _ p 0 rfl (Nat.le_refl p) hpn rfl (fun _ => by rw [Nat.sub_self, dvl]; rfl)
  rw [sI_self hp] at this
  exact this
theorem r_number {Q : Int32 → PS → Prop} {lo hi : Nat} (h : RT S A B n) (hf : fI S 102 (A 9) = 0) (hp : fI S 101 (A 9) = nI p) (hpn : p ≤ n) (hl : lo < 1000) (hh : hi < 1000)
    (h1 : ∀ v q, num B lo hi p = .ok (v, q) → Q (nI v) (sI S 101 (A 9) (nI q)))
    (h0 : ∀ e r S1, num B lo hi p = .error e → RF S S1 A e → Pz S1 A → Q r S1) : wp_X12_number (A 9) (nI lo) (nI hi) S Q := by
  unfold wp_X12_number
  rw [hf, if_pos (by decide)]
  refine r_blanks h hp hpn ?_
  rw [nI_l (by omega), nI_l (by omega)]
  refine r_digits (w := 3) h.pos (fI_at2.trans hf) fI_at (bl_le h.2.2.1 hpn) (by omega) (by omega) (by omega) (fun v q e => ?_) (fun e r S1 e1 c z => ?_)
  · rw [lN_i, sI_sI]; exact h1 v q e
  · exact h0 e _ S1 e1 (RF.of KR.pos c) z
theorem r_number_f {Q : Int32 → PS → Prop} {lo hi : Int32} (hf : ¬ fI S 102 (A 9) ≤ 0) (hQ : Q 0 S) : wp_X12_number (A 9) lo hi S Q := by
  unfold wp_X12_number
  rw [if_neg hf]; exact hQ
end
