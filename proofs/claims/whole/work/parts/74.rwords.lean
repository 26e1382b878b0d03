/-! Words: the reference. Signed numbers: both. -/
section
variable {S : PS} {A : Nat → Nat} {B : Nat → Int32} {n p T : Nat}
theorem wor_kd {e : Nat × Nat} (h : wor B p = .error e) : Kd e := by
  unfold wor at h
  split at h
  · rename_i e1; injection h with h; subst h; exact num_kd e1
  · split at h
    · split at h
      · cases h
      · rename_i e1; injection h with h; subst h; exact wds_kd _ _ _ e1
    · injection h with h; rw [← h]; exact kdm (by decide) (by decide)
def jY (j : Nat) : Bool := decide (101 ≤ j ∧ j ≤ 103 ∨ j = 120)
def rY (r : Nat) : Bool := decide (r = 53 ∨ r = 54)
def KY (S S1 : PS) : Prop := Keep jY rY S S1
theorem KR.y {S1 : PS} (h : KR S S1) : KY S S1 := h.mono (fun j => by unfold jY jR; simp only [decide_eq_false_iff_not]; omega) (fun _ _ => rfl)
theorem KY.m {S1 : PS} (h : KY S S1) : KM S S1 := h.mono (fun j => by unfold jM jY; simp only [decide_eq_false_iff_not]; omega) (fun r => by unfold rM rY; simp only [decide_eq_false_iff_not]; omega)
theorem RT.ky {S1 : PS} (h : RT S A B n) (g : KY S S1) : RT S1 A B n := h.keep g rfl rfl
def jU (j : Nat) : Bool := decide (101 ≤ j ∧ j ≤ 103 ∨ j = 120)
def rU (r : Nat) : Bool := decide (r = 42 ∨ r = 44 ∨ r = 45 ∨ r = 48 ∨ r = 53 ∨ r = 54)
def KU (S S1 : PS) : Prop := Keep jU rU S S1
theorem KU.m {S1 : PS} (h : KU S S1) : KM S S1 := h.mono (fun j => by unfold jM jU; simp only [decide_eq_false_iff_not]; omega) (fun r => by unfold rM rU; simp only [decide_eq_false_iff_not]; omega)
theorem KY.u {S1 : PS} (h : KY S S1) : KU S S1 := h.mono (fun j => by unfold jU jY; exact id) (fun r => by unfold rU rY; simp only [decide_eq_false_iff_not]; omega)
theorem KR.u {S1 : PS} (h : KR S S1) : KU S S1 := h.y.u
/-- what words leave -/
def WN (S S1 : PS) (A : Nat → Nat) (T sy v : Nat) (l : List (Nat × Nat)) (q : Nat) : Prop :=
  KU S S1 ∧ fI S1 101 (A 9) = nI q ∧ fI S1 102 (A 9) = 0 ∧ fI S1 120 (A 9) = nI (sy + l.length) ∧ aI S1 42 (A 42) = uq (aI S 42 (A 42)) T 8 ∧ aI S1 44 (A 44) = uq (aI S 44 (A 44)) T (nI v) ∧ aI S1 45 (A 45) = uq (aI S 45 (A 45)) T (nI sy) ∧ aL S1 48 (A 48) = uq (aL S 48 (A 48)) T (lN l.length) ∧ aI S1 53 (A 53) = apd (fun w => nI w.1) (aI S 53 (A 53)) sy l ∧ aI S1 54 (A 54) = apd (fun w => nI w.2) (aI S 54 (A 54)) sy l
def YN (S S1 : PS) (A : Nat → Nat) (sy : Nat) (l : List (Nat × Nat)) (q : Nat) : Prop :=
  KY S S1 ∧ fI S1 101 (A 9) = nI q ∧ fI S1 102 (A 9) = 0 ∧ fI S1 120 (A 9) = nI (sy + l.length) ∧ aI S1 53 (A 53) = apd (fun w => nI w.1) (aI S 53 (A 53)) sy l ∧ aI S1 54 (A 54) = apd (fun w => nI w.2) (aI S 54 (A 54)) sy l
theorem isSyl_in {Q : Int32 → PS → Prop} {c : Int32} (h1 : 33 ≤ c.toInt → c.toInt ≤ 126 → Q 1 S) (h0 : ¬ (33 ≤ c.toInt ∧ c.toInt ≤ 126) → Q 0 S) : wp_X12_in c.toInt64 33 126 S Q := by
  unfold wp_X12_in
  have e0 := Int32.toInt_toInt64 c
  have e1 : (33 : Int64).toInt = 33 := by decide
  have e2 : (126 : Int64).toInt = 126 := by decide
  by_cases a : c.toInt64 < 33
  · rw [if_pos a]
    rw [Int64.lt_iff_toInt_lt] at a
    exact h0 (by omega)
  · rw [if_neg a]
    rw [Int64.lt_iff_toInt_lt] at a
    by_cases b : 126 < c.toInt64
    · rw [if_pos b]
      rw [Int64.lt_iff_toInt_lt] at b
      exact h0 (by omega)
    · rw [if_neg b]
      rw [Int64.lt_iff_toInt_lt] at b
      exact h1 (by omega) (by omega)
theorem r_words {Q : PS → Prop} {sy : Nat} (h : RT S A B n) (hf : fI S 102 (A 9) = 0) (hp : fI S 101 (A 9) = nI (p + 1)) (hlt : p < n) (hb : T < 3100) (hs : fI S 120 (A 9) = nI sy) (hsy : sy ≤ p)
    (h1 : ∀ v l q S1, wor B p = .ok (v, l, q) → WN S S1 A T sy v l q → Q S1)
    (h0 : ∀ e S1, wor B p = .error e → Kd e → RFM S S1 A e → Q S1) : wp_X12_wordsAt (A 9) (nI T) S Q := by
  have hB := h.2.2.1
  have hn := hB.1
  unfold wp_X12_wordsAt
  refine ⟨_, h.1.f105, by rw [h.1.n42]; exact vp_in_nI hb (by omega), ?_⟩
  rw [nI_clamp (by omega)]
  rintro _ rfl
  have hh : RT (wI S 42 (A 42) T 8) A B n := h.km (Keep.rf.wI rfl)
  refine ⟨_, hh.1.f107, ?_⟩
  refine r_number (lo := 1) (hi := 3) hh hf hp hlt (by omega) (by omega) (fun v q e1 => ?_) (fun e r S4 e1 c1 _ => ?_)
  · have h2 := hh.pos (v := nI q)
    refine ⟨by rw [h2.1.n44]; exact vp_in_nI hb (by omega), ?_⟩
    rintro _ rfl
    have hq := num_ok hB hlt e1
    have hbq := bl_ge (B := B) (p := q)
    have hw : wor B p = if B (bl B q) = 34 then (match wds B 1501 (bl B q + 1) with
      | .ok (l, r) => .ok (v, l, r)
      | .error e => .error e) else .error (1, bl B q) := by unfold wor; rw [e1]; rfl
    have k6 : KU S (wI (sI (wI S 42 (A 42) T 8) 101 (A 9) (nI q)) 44 (A 44) T (nI v)) := ((Keep.rf.wI rfl).sI rfl).wI rfl
    have h6 : RT (wI (sI (wI S 42 (A 42) T 8) 101 (A 9) (nI q)) 44 (A 44) T (nI v)) A B n := h.km k6.m
    refine r_want h6 (by simp only [fI_s, fI_sn, fL_s, fL_sn, aI_w, aI_wn, aL_w, aL_wn, fI_sL, fI_wI, fI_wL, fL_sI, fL_wI, fL_wL, aI_sI, aI_sL, aI_wL, aL_sI, aL_sL, aL_wI, fR_sI, fR_sL, fR_wI, fR_wL, aN_sI, aN_sL, aN_wI, aN_wL, ne_eq, Nat.reduceEqDiff, not_false_eq_true]; exact hf) (by simp only [fI_s, fI_sn, fL_s, fL_sn, aI_w, aI_wn, aL_w, aL_wn, fI_sL, fI_wI, fI_wL, fL_sI, fL_wI, fL_wL, aI_sI, aI_sL, aI_wL, aL_sI, aL_sL, aL_wI, fR_sI, fR_sL, fR_wI, fR_wL, aN_sI, aN_sL, aN_wI, aN_wL, ne_eq, Nat.reduceEqDiff, not_false_eq_true]) hq.2.1 (fun e2 => ?_) (fun e2 S7 c7 _ => ?_)
    · rw [if_pos e2] at hw
      have hl2 := hB.lt e2 (by decide)
      have h7 := h6.pos (v := nI (bl B q + 1))
      refine ⟨_, h7.1.f108, by rw [h7.1.n45]; exact vp_in_nI hb (by omega), ?_⟩
      rw [show fI (sI (wI (sI (wI S 42 (A 42) T 8) 101 (A 9) (nI q)) 44 (A 44) T (nI v)) 101 (A 9) (nI (bl B q + 1))) 120 (A 9) = nI sy by simp only [fI_s, fI_sn, fL_s, fL_sn, aI_w, aI_wn, aL_w, aL_wn, fI_sL, fI_wI, fI_wL, fL_sI, fL_wI, fL_wL, aI_sI, aI_sL, aI_wL, aL_sI, aL_sL, aL_wI, fR_sI, fR_sL, fR_wI, fR_wL, aN_sI, aN_sL, aN_wI, aN_wL, ne_eq, Nat.reduceEqDiff, not_false_eq_true]; exact hs]
      intro S9 e9
      have k9 : KU S S9 := by rw [e9]; exact (k6.tr (Keep.rf.sI rfl)).tr (Keep.rf.wI rfl)
      have h9 : RT S9 A B n := h.km k9.m
      have f9 : fI S9 101 (A 9) = nI (bl B q + 1) := by rw [e9]; simp only [fI_s, fI_sn, fL_s, fL_sn, aI_w, aI_wn, aL_w, aL_wn, fI_sL, fI_wI, fI_wL, fL_sI, fL_wI, fL_wL, aI_sI, aI_sL, aI_wL, aL_sI, aL_sL, aL_wI, fR_sI, fR_sL, fR_wI, fR_wL, aN_sI, aN_sL, aN_wI, aN_wL, ne_eq, Nat.reduceEqDiff, not_false_eq_true]
      have g9 : fI S9 102 (A 9) = 0 := by rw [e9]; simp only [fI_s, fI_sn, fL_s, fL_sn, aI_w, aI_wn, aL_w, aL_wn, fI_sL, fI_wI, fI_wL, fL_sI, fL_wI, fL_wL, aI_sI, aI_sL, aI_wL, aL_sI, aL_sL, aL_wI, fR_sI, fR_sL, fR_wI, fR_wL, aN_sI, aN_sL, aN_wI, aN_wL, ne_eq, Nat.reduceEqDiff, not_false_eq_true]; exact hf
      have s9 : fI S9 120 (A 9) = nI sy := by rw [e9]; simp only [fI_s, fI_sn, fL_s, fL_sn, aI_w, aI_wn, aL_w, aL_wn, fI_sL, fI_wI, fI_wL, fL_sI, fL_wI, fL_wL, aI_sI, aI_sL, aI_wL, aL_sI, aL_sL, aL_wI, fR_sI, fR_sL, fR_wI, fR_wL, aN_sI, aN_sL, aN_wI, aN_wL, ne_eq, Nat.reduceEqDiff, not_false_eq_true]; exact hs
      have a42 : aI S9 42 (A 42) = uq (aI S 42 (A 42)) T 8 := by rw [e9]; simp only [fI_s, fI_sn, fL_s, fL_sn, aI_w, aI_wn, aL_w, aL_wn, fI_sL, fI_wI, fI_wL, fL_sI, fL_wI, fL_wL, aI_sI, aI_sL, aI_wL, aL_sI, aL_sL, aL_wI, fR_sI, fR_sL, fR_wI, fR_wL, aN_sI, aN_sL, aN_wI, aN_wL, ne_eq, Nat.reduceEqDiff, not_false_eq_true]
      have a44 : aI S9 44 (A 44) = uq (aI S 44 (A 44)) T (nI v) := by rw [e9]; simp only [fI_s, fI_sn, fL_s, fL_sn, aI_w, aI_wn, aL_w, aL_wn, fI_sL, fI_wI, fI_wL, fL_sI, fL_wI, fL_wL, aI_sI, aI_sL, aI_wL, aL_sI, aL_sL, aL_wI, fR_sI, fR_sL, fR_wI, fR_wL, aN_sI, aN_sL, aN_wI, aN_wL, ne_eq, Nat.reduceEqDiff, not_false_eq_true]
      have a45 : aI S9 45 (A 45) = uq (aI S 45 (A 45)) T (nI sy) := by rw [e9]; simp only [fI_s, fI_sn, fL_s, fL_sn, aI_w, aI_wn, aL_w, aL_wn, fI_sL, fI_wI, fI_wL, fL_sI, fL_wI, fL_wL, aI_sI, aI_sL, aI_wL, aL_sI, aL_sL, aL_wI, fR_sI, fR_sL, fR_wI, fR_wL, aN_sI, aN_sL, aN_wI, aN_wL, ne_eq, Nat.reduceEqDiff, not_false_eq_true]
      have a48 : aL S9 48 = aL S 48 := by rw [e9]; simp only [fI_s, fI_sn, fL_s, fL_sn, aI_w, aI_wn, aL_w, aL_wn, fI_sL, fI_wI, fI_wL, fL_sI, fL_wI, fL_wL, aI_sI, aI_sL, aI_wL, aL_sI, aL_sL, aL_wI, fR_sI, fR_sL, fR_wI, fR_wL, aN_sI, aN_sL, aN_wI, aN_wL, ne_eq, Nat.reduceEqDiff, not_false_eq_true]
      have a53 : aI S9 53 = aI S 53 := by rw [e9]; simp only [fI_s, fI_sn, fL_s, fL_sn, aI_w, aI_wn, aL_w, aL_wn, fI_sL, fI_wI, fI_wL, fL_sI, fL_wI, fL_wL, aI_sI, aI_sL, aI_wL, aL_sI, aL_sL, aL_wI, fR_sI, fR_sL, fR_wI, fR_wL, aN_sI, aN_sL, aN_wI, aN_wL, ne_eq, Nat.reduceEqDiff, not_false_eq_true]
      have a54 : aI S9 54 = aI S 54 := by rw [e9]; simp only [fI_s, fI_sn, fL_s, fL_sn, aI_w, aI_wn, aL_w, aL_wn, fI_sL, fI_wI, fI_wL, fL_sI, fL_wI, fL_wL, aI_sI, aI_sL, aI_wL, aL_sI, aL_sL, aL_wI, fR_sI, fR_sL, fR_wI, fR_wL, aN_sI, aN_sL, aN_wI, aN_wL, ne_eq, Nat.reduceEqDiff, not_false_eq_true]
      clear e9
      intro K hK
      rw [if_pos g9]
      apply hK
      intro P hP
      have finE : ∀ e S15, wor B p = .error e → RFM S S15 A e → P 0 S15 := by
        intro e S15 y1 y2
        have h15 := h.km y2.1
        apply hP
        rw [if_pos rfl]
        refine ⟨_, h15.1.f111, _, h15.1.f108, by rw [h15.1.n45]; exact vp_in_nI hb (by omega), by rw [h15.1.n48]; exact vp_in_nI hb (by omega), ?_⟩
        rintro _ rfl
        exact h0 e _ y1 (wor_kd y1) ⟨y2.1.tr (Keep.rf.wL rfl), y2.2.1, y2.2.2⟩
      have key : ∀ k p1 i S6, p1 + k ≥ 1501 → KY S9 S6 → fI S6 101 (A 9) = nI p1 → p1 ≤ n → fI S6 102 (A 9) = 0 → fI S6 120 (A 9) = nI i → i ≤ p1 →
          (∀ l r S7, wds B k p1 = .ok (l, r) → YN S6 S7 A i l r → P 0 S7) → (∀ e S7, wds B k p1 = .error e → KY S6 S7 → fI S7 102 (A 9) = nI e.1 → fI S7 103 (A 9) = nI e.2 → P 0 S7) → P 1 S6 := by
        intro k
        induction k with
        | zero => intro p1 i S6 c1 c2 c3 c4; omega
        | succ k ih =>
          intro p1 i S6 c1 c2 c3 c4 c5 c6 c7 c8 c9
          have hh6 := h9.ky c2
          have g1 := sc_ge (f := isSpc) (B := B) (p := p1)
          have g2 := sc_le (f := isSpc) hB (by decide) c4
          have g3 := sc_ge (f := isSyl) (B := B) (p := sc isSpc B p1)
          have g4 := sc_le (f := isSyl) hB (by decide) g2
          have c9' := c9
          rw [wds] at c8 c9'
          apply hP
          rw [if_neg (by decide)]
          intro P2 hP2
          have spc : ∀ j q1, 1500 - q1 = j → q1 ≤ n → sc isSpc B q1 = sc isSpc B p1 → P2 (sI S6 101 (A 9) (nI q1)) := by
            have bod : ∀ q1, q1 ≤ n → (isSpc (B q1) = true → P2 (sI S6 101 (A 9) (nI (q1 + 1)))) → (isSpc (B q1) = false → q1 = sc isSpc B p1) → P2 (sI S6 101 (A 9) (nI q1)) := by
              intro q1 b1 b2 b3
              apply hP2
              refine r_isHere hh6.pos fI_at b1 (fun e32 => ?_) (fun e32 => ?_)
              · intro K3 hK3
                rw [if_neg (by decide)]
                apply hK3
                rintro _ rfl
                rw [fI_at, nI_1, sI_sI]
                exact b2 (isSpc_iff.mpr (Or.inl e32))
              · intro K3 hK3
                rw [if_pos rfl]
                refine r_isHere hh6.pos fI_at b1 (fun e10 => ?_) (fun e10 => ?_)
                · rw [if_neg (by decide)]
                  apply hK3
                  rintro _ rfl
                  rw [fI_at, nI_1, sI_sI]
                  exact b2 (isSpc_iff.mpr (Or.inr e10))
                · rw [if_pos rfl]
                  have eq1 := b3 (Bool.eq_false_iff.mpr (fun e => by rcases isSpc_iff.mp e with e | e; exact e32 e; exact e10 e))
                  rw [eq1]
                  rintro _ rfl
                  rw [fI_at]
                  intro P3 hP3
                  have fin : ∀ r, sc isSyl B (sc isSpc B p1) = r → ∀ K : PS → Prop, (∀ (S35 : PS), (∀ K227_39 : Int32 → PS → Prop, (∀ (x2_37 : Int32) (S38 : PS), (∀ K243_42 : Int32 → PS → Prop, (∀ (t40 : Int32) (S41 : PS), P t40 S41 → K243_42 t40 S41) → (if x2_37 = 0 then K243_42 0 S38 else (if fI S38 102 (A 9) = 0 then K243_42 1 S38 else K243_42 0 S38))) → K227_39 x2_37 S38) → (if fI S35 101 (A 9) ≤ nI (sc isSpc B p1) + 12 then (if fI S35 101 (A 9) ≤ nI (sc isSpc B p1) then wp_X12_isHere (A 9) 34 S35 (fun (r44 : Int32) (S43 : PS) => (if r44 = 0 then wp_X12_bad (A 9) 1 (fI S43 101 (A 9)) S43 (fun (S45 : PS) => K227_39 1 S45) else (∀ S46, S46 = sI S43 101 (A 9) ((fI S43 101 (A 9)) + 1) → K227_39 0 S46))) else (∃ b47, fR S35 118 (A 9) = some b47 ∧ (vp_in (fI S35 120 (A 9)) (aN S35 b47) ∧ ∀ S48, S48 = wI S35 53 b47 (fI S35 120 (A 9)).toNatClampNeg (nI (sc isSpc B p1)) → (∃ b49, fR S48 119 (A 9) = some b49 ∧ (vp_in (fI S48 120 (A 9)) (aN S48 b49) ∧ ∀ S50, S50 = wI S48 54 b49 (fI S48 120 (A 9)).toNatClampNeg ((fI S48 101 (A 9)) - nI (sc isSpc B p1)) → (∀ S51, S51 = sI S50 120 (A 9) ((fI S50 120 (A 9)) + 1) → K227_39 1 S51)))))) else wp_X12_bad (A 9) 5 (nI (sc isSpc B p1)) S35 (fun (S52 : PS) => K227_39 1 S52))) → K S35) → K (sI S6 101 (A 9) (nI r)) := by
                    intro r er K4 hK4
                    rw [er] at c8 c9' g3 g4
                    apply hK4
                    intro K5 hK5
                    have err : ∀ e S7, wds B (k + 1) p1 = .error e → RF (sI S6 101 (A 9) (nI r)) S7 A e → K5 1 S7 := by
                      intro e S7 y1 y2
                      apply hK5
                      intro K6 hK6
                      rw [if_neg (by decide), if_neg (by rw [y2.2.1]; exact (wds_kd _ _ _ y1).ne)]
                      apply hK6
                      exact c9 e S7 y1 (KR.y (Keep.tr KR.pos y2.1)) y2.2.1 y2.2.2
                    have e12 : nI (sc isSpc B p1) + 12 = nI (sc isSpc B p1 + 12) := nI_add _ 12
                    rw [fI_at, e12]
                    by_cases z1 : r ≤ sc isSpc B p1 + 12
                    · rw [if_pos (nI_le z1 (by omega))]
                      by_cases z2 : r ≤ sc isSpc B p1
                      · have z3 : r = sc isSpc B p1 := by omega
                        rw [if_pos (nI_le z2 (by omega))]
                        refine r_isHere hh6.pos fI_at g4 (fun w => ?_) (fun w => ?_)
                        · rw [if_neg (by decide)]
                          rintro _ rfl
                          rw [fI_at, nI_1, sI_sI]
                          apply hK5
                          intro K6 hK6
                          rw [if_pos rfl]
                          apply hK6
                          rw [z3] at w
                          rw [if_pos w] at c8
                          rw [z3]
                          refine c8 [] _ _ rfl ⟨KR.pos.y, fI_at, fI_at2.trans c5, ?_, rfl, rfl⟩
                          rw [fI_sn _ _ _ _ _ (by decide)]; exact c6
                        · rw [if_pos rfl, fI_at]
                          rw [z3] at w
                          refine r_bad (k := 1) (fI_at2.trans c5) (fun S7 y => err _ S7 ?_ y)
                          rw [wds, if_neg w, er, if_pos z3, z3]
                      · rw [if_neg (nI_ge (by omega) (by omega))]
                        have hne : B (sc isSpc B p1) ≠ 34 := fun w => by
                          have := sc_stop (f := isSyl) (B := B) (p := sc isSpc B p1) (by rw [w]; decide)
                          omega
                        rw [if_neg hne, if_neg (by omega), if_neg (by omega)] at c8 c9'
                        have hL := hh6.pos (v := nI r)
                        rw [show fI (sI S6 101 (A 9) (nI r)) 120 (A 9) = nI i by rw [fI_sn _ _ _ _ _ (by decide)]; exact c6]
                        refine ⟨_, hL.1.f118, by rw [hL.1.n53]; exact vp_in_nI (by omega) (by omega), ?_⟩
                        rw [nI_clamp (by omega)]
                        rintro _ rfl
                        rw [show fI (wI (sI S6 101 (A 9) (nI r)) 53 (A 53) i (nI (sc isSpc B p1))) 120 (A 9) = nI i by simp only [fI_s, fI_sn, fL_s, fL_sn, aI_w, aI_wn, aL_w, aL_wn, fI_sL, fI_wI, fI_wL, fL_sI, fL_wI, fL_wL, aI_sI, aI_sL, aI_wL, aL_sI, aL_sL, aL_wI, fR_sI, fR_sL, fR_wI, fR_wL, aN_sI, aN_sL, aN_wI, aN_wL, ne_eq, Nat.reduceEqDiff, not_false_eq_true]; exact c6]
                        refine ⟨_, hL.1.f119, by show vp_in _ (aN S6 (A 54)); rw [hh6.1.n54]; exact vp_in_nI (by omega) (by omega), ?_⟩
                        rw [nI_clamp (by omega), fI_wI, fI_at, nI_sub (by omega)]
                        rintro _ rfl _ rfl
                        rw [show fI (wI (wI (sI S6 101 (A 9) (nI r)) 53 (A 53) i (nI (sc isSpc B p1))) 54 (A 54) i (nI (r - sc isSpc B p1))) 120 (A 9) = nI i by simp only [fI_s, fI_sn, fL_s, fL_sn, aI_w, aI_wn, aL_w, aL_wn, fI_sL, fI_wI, fI_wL, fL_sI, fL_wI, fL_wL, aI_sI, aI_sL, aI_wL, aL_sI, aL_sL, aL_wI, fR_sI, fR_sL, fR_wI, fR_wL, aN_sI, aN_sL, aN_wI, aN_wL, ne_eq, Nat.reduceEqDiff, not_false_eq_true]; exact c6, nI_1]
                        apply hK5
                        intro K6 hK6
                        rw [if_neg (by decide), if_pos (by simp only [fI_s, fI_sn, fL_s, fL_sn, aI_w, aI_wn, aL_w, aL_wn, fI_sL, fI_wI, fI_wL, fL_sI, fL_wI, fL_wL, aI_sI, aI_sL, aI_wL, aL_sI, aL_sL, aL_wI, fR_sI, fR_sL, fR_wI, fR_wL, aN_sI, aN_sL, aN_wI, aN_wL, ne_eq, Nat.reduceEqDiff, not_false_eq_true]; exact c5)]
                        apply hK6
                        have ky : KY S6 (sI (wI (wI (sI S6 101 (A 9) (nI r)) 53 (A 53) i (nI (sc isSpc B p1))) 54 (A 54) i (nI (r - sc isSpc B p1))) 120 (A 9) (nI (i + 1))) := (((Keep.rf.sI rfl).wI rfl).wI rfl).sI rfl
                        refine ih r (i + 1) _ (by omega) (c2.tr ky) (by simp only [fI_s, fI_sn, fL_s, fL_sn, aI_w, aI_wn, aL_w, aL_wn, fI_sL, fI_wI, fI_wL, fL_sI, fL_wI, fL_wL, aI_sI, aI_sL, aI_wL, aL_sI, aL_sL, aL_wI, fR_sI, fR_sL, fR_wI, fR_wL, aN_sI, aN_sL, aN_wI, aN_wL, ne_eq, Nat.reduceEqDiff, not_false_eq_true]) g4 (by simp only [fI_s, fI_sn, fL_s, fL_sn, aI_w, aI_wn, aL_w, aL_wn, fI_sL, fI_wI, fI_wL, fL_sI, fL_wI, fL_wL, aI_sI, aI_sL, aI_wL, aL_sI, aL_sL, aL_wI, fR_sI, fR_sL, fR_wI, fR_wL, aN_sI, aN_sL, aN_wI, aN_wL, ne_eq, Nat.reduceEqDiff, not_false_eq_true]; exact c5) (by simp only [fI_s, fI_sn, fL_s, fL_sn, aI_w, aI_wn, aL_w, aL_wn, fI_sL, fI_wI, fI_wL, fL_sI, fL_wI, fL_wL, aI_sI, aI_sL, aI_wL, aL_sI, aL_sL, aL_wI, fR_sI, fR_sL, fR_wI, fR_wL, aN_sI, aN_sL, aN_wI, aN_wL, ne_eq, Nat.reduceEqDiff, not_false_eq_true]) (by omega) (fun l q2 S7 y1 y2 => ?_) (fun e S7 y1 y2 y3 y4 => ?_)
                        · rw [y1] at c8
                          obtain ⟨y2, y3, y4, y5, y6, y7⟩ := y2
                          refine c8 _ q2 S7 rfl ⟨ky.tr y2, y3, y4, ?_, ?_, ?_⟩
                          · rw [List.length_cons, y5]; congr 1; omega
                          · rw [y6]; simp only [fI_s, fI_sn, fL_s, fL_sn, aI_w, aI_wn, aL_w, aL_wn, fI_sL, fI_wI, fI_wL, fL_sI, fL_wI, fL_wL, aI_sI, aI_sL, aI_wL, aL_sI, aL_sL, aL_wI, fR_sI, fR_sL, fR_wI, fR_wL, aN_sI, aN_sL, aN_wI, aN_wL, ne_eq, Nat.reduceEqDiff, not_false_eq_true]; rfl
                          · rw [y7]; simp only [fI_s, fI_sn, fL_s, fL_sn, aI_w, aI_wn, aL_w, aL_wn, fI_sL, fI_wI, fI_wL, fL_sI, fL_wI, fL_wL, aI_sI, aI_sL, aI_wL, aL_sI, aL_sL, aL_wI, fR_sI, fR_sL, fR_wI, fR_wL, aN_sI, aN_sL, aN_wI, aN_wL, ne_eq, Nat.reduceEqDiff, not_false_eq_true]; rfl
                        · rw [y1] at c9'
                          exact c9' e S7 rfl (ky.tr y2) y3 y4
                    · rw [if_neg (nI_ge (by omega) (by omega))]
                      have hne : B (sc isSpc B p1) ≠ 34 := fun w => by
                        have := sc_stop (f := isSyl) (B := B) (p := sc isSpc B p1) (by rw [w]; decide)
                        omega
                      refine r_bad (k := 5) (fI_at2.trans c5) (fun S7 y => err _ S7 ?_ y)
                      rw [wds, if_neg hne, er, if_neg (by omega), if_pos (by omega)]
                  have syl : ∀ j q2, 1500 - q2 = j → sc isSpc B p1 ≤ q2 → q2 ≤ n → sc isSyl B q2 = sc isSyl B (sc isSpc B p1) → P3 (sI S6 101 (A 9) (nI q2)) := by
                    intro j
                    induction j with
                    | zero =>
                      intro q2 d1 d2 d3 d4
                      apply hP3
                      refine r_here hh6.pos fI_at d3 ?_
                      have em : B q2 = -1 := hB.2.1 q2 (by omega)
                      refine isSyl_in (fun w1 _ => ?_) (fun w => ?_)
                      · rw [em] at w1; exact absurd w1 (by decide)
                      · intro K4 hK4
                        rw [if_pos rfl]
                        exact fin q2 (by rw [← d4]; exact sc_stop (by rw [em]; decide)) K4 hK4
                    | succ j ihj =>
                      intro q2 d1 d2 d3 d4
                      apply hP3
                      refine r_here hh6.pos fI_at d3 ?_
                      refine isSyl_in (fun w1 w2 => ?_) (fun w => ?_)
                      · intro K4 hK4
                        rw [if_neg (by decide)]
                        refine r_isHere hh6.pos fI_at d3 (fun u => ?_) (fun u => ?_)
                        · rw [if_neg (by decide)]
                          exact fin q2 (by rw [← d4]; exact sc_stop (by rw [u]; decide)) K4 hK4
                        · rw [if_pos rfl]
                          rintro _ rfl
                          rw [fI_at, nI_1, sI_sI]
                          have hs2 : isSyl (B q2) = true := isSyl_iff.mpr ⟨w1, w2, u⟩
                          have hq2 : q2 < n := by
                            rcases Nat.lt_or_ge q2 n with t | t
                            · exact t
                            · rw [hB.2.1 q2 t] at hs2; cases hs2
                          exact ihj (q2 + 1) (by omega) (by omega) hq2 (by rw [← sc_go hs2 (by omega)]; exact d4)
                      · intro K4 hK4
                        rw [if_pos rfl]
                        exact fin q2 (by rw [← d4]; exact sc_stop (Bool.eq_false_iff.mpr (fun u => w ⟨(isSyl_iff.mp u).1, (isSyl_iff.mp u).2.1⟩))) K4 hK4
                  exact syl _ _ rfl (Nat.le_refl _) g2 rfl
            intro j
            induction j with
            | zero =>
              intro q1 d1 d2 d3
              have em : B q1 = -1 := hB.2.1 q1 (by omega)
              exact bod q1 d2 (fun w => by rw [em] at w; cases w) (fun w => by rw [← d3]; exact (sc_stop w).symm)
            | succ j ihj =>
              intro q1 d1 d2 d3
              refine bod q1 d2 (fun w => ?_) (fun w => by rw [← d3]; exact (sc_stop w).symm)
              have hq2 : q1 < n := by
                rcases Nat.lt_or_ge q1 n with t | t
                · exact t
                · rw [hB.2.1 q1 t] at w; cases w
              exact ihj (q1 + 1) (by omega) hq2 (by rw [← sc_go w (by omega)]; exact d3)
          have := spc _ p1 rfl c4 rfl
          rw [sI_self c3] at this
          exact this
      refine key 1501 (bl B q + 1) sy S9 (by omega) Keep.rf f9 hl2 g9 s9 (by omega) (fun l r S7 y1 y2 => ?_) (fun e S7 y1 y2 y3 y4 => ?_)
      · rw [y1] at hw
        obtain ⟨y2, y3, y4, y5, y6, y7⟩ := y2
        have hl3 := wds_ok hB _ _ _ _ hl2 y1
        have h15 := h9.ky y2
        apply hP
        rw [if_pos rfl]
        refine ⟨_, h15.1.f111, _, h15.1.f108, by rw [h15.1.n45]; exact vp_in_nI hb (by omega), by rw [h15.1.n48]; exact vp_in_nI hb (by omega), ?_⟩
        rw [y5, (y2.2.2 45 rfl).1, a45, uq_at, nI_sub (by omega)]
        have e10 : sy + l.length - sy = l.length := by omega
        rw [e10, nI_l (by omega)]
        rintro _ rfl
        refine h1 v l r _ hw ⟨k9.tr (y2.u.tr (Keep.rf.wL rfl)), y3, y4, y5, ?_, ?_, ?_, ?_, ?_, ?_⟩
        · rw [aI_wL, (y2.2.2 42 rfl).1]; exact a42
        · rw [aI_wL, (y2.2.2 44 rfl).1]; exact a44
        · rw [aI_wL, (y2.2.2 45 rfl).1]; exact a45
        · rw [aL_w, (y2.2.2 48 rfl).2, a48]
        · rw [aI_wL, y6, a53]
        · rw [aI_wL, y7, a54]
      · rw [y1] at hw
        exact finE e S7 hw ⟨(k9.m).tr y2.m, y3, y4⟩
    · rw [if_neg e2] at hw
      have h7 := h6.kr c7.1
      refine ⟨_, h7.1.f108, by rw [h7.1.n45]; exact vp_in_nI hb (by omega), ?_⟩
      rintro _ rfl
      intro K hK
      rw [if_neg (by rw [fI_wI, c7.2.1]; exact nI_ne0 (by show 0 < 1; omega) (by show 1 < _; omega))]
      apply hK
      intro P hP
      apply hP
      rw [if_pos rfl]
      refine ⟨_, h7.1.f111, _, h7.1.f108, by show vp_in _ (aN S7 (A 45)); rw [h7.1.n45]; exact vp_in_nI hb (by omega), by show vp_in _ (aN S7 (A 48)); rw [h7.1.n48]; exact vp_in_nI hb (by omega), ?_⟩
      rintro _ rfl
      exact h0 _ _ hw (wor_kd hw) ⟨(k6.m.tr c7.1.m).tr ((Keep.rf.wI rfl).wL rfl), c7.2.1, c7.2.2⟩
  · have hw : wor B p = .error e := by unfold wor; rw [e1]
    have hkd := wor_kd hw
    have h4 := hh.kr c1.1
    refine ⟨by rw [h4.1.n44]; exact vp_in_nI hb (by omega), ?_⟩
    rintro _ rfl
    refine r_want_f (by rw [fI_wI, c1.2.1]; exact hkd.ne) ?_
    refine ⟨_, h4.1.f108, by show vp_in _ (aN S4 (A 45)); rw [h4.1.n45]; exact vp_in_nI hb (by omega), ?_⟩
    rintro _ rfl
    intro K hK
    rw [if_neg (by rw [fI_wI, fI_wI, c1.2.1]; exact hkd.ne)]
    apply hK
    intro P hP
    apply hP
    rw [if_pos rfl]
    refine ⟨_, h4.1.f111, _, h4.1.f108, by show vp_in _ (aN S4 (A 45)); rw [h4.1.n45]; exact vp_in_nI hb (by omega), by show vp_in _ (aN S4 (A 48)); rw [h4.1.n48]; exact vp_in_nI hb (by omega), ?_⟩
    rintro _ rfl
    exact h0 _ _ hw hkd ⟨Keep.tr (Keep.tr (Keep.rf.wI rfl) c1.1.m) (((Keep.rf.wI rfl).wI rfl).wL rfl), c1.2.1, c1.2.2⟩
end
