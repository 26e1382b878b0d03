/-! Names: the reference. -/
section
variable {S : PS} {A : Nat → Nat} {B : Nat → Int32} {n p : Nat}
theorem nzz0 : nz 0 := by unfold nz; rfl
theorem nzz1 : nz 1 := by unfold nz; rfl
theorem r_letters {Q : Int32 → PS → Prop} (h : RT S A B n) (hp : fI S 101 (A 9) = nI p) (hpn : p ≤ n) (hQ : Q (nI (sc isLet B p - p)) (sI S 101 (A 9) (nI (sc isLet B p)))) : wp_X12_letters (A 9) S Q := by
  have hB := h.2.2.1
  have hn := hB.1
  unfold wp_X12_letters
  intro v1 hv1
  rw [hp] at hv1
  subst hv1
  intro P hP
  have key : ∀ k p1, 1500 - p1 = k → p ≤ p1 → p1 ≤ n → sc isLet B p1 = sc isLet B p → P (sI S 101 (A 9) (nI p1)) := by
    have fin : ∀ p1, p ≤ p1 → p1 ≤ n → sc isLet B p = p1 → Q (fI (sI S 101 (A 9) (nI p1)) 101 (A 9) - nI p) (sI S 101 (A 9) (nI p1)) := by
      intro p1 a1 a2 a3
      rw [fI_at, nI_sub a1, ← a3]; exact hQ
    intro k
    induction k with
    | zero =>
      intro p1 a1 a2 a3 a4
      have em : B p1 = -1 := hB.2.1 p1 (by omega)
      apply hP
      refine r_here h.pos fI_at a3 ?_
      refine r_isLet (fun hl => by rw [em] at hl; cases hl) (fun hl => ?_)
      rw [if_pos rfl]
      exact fin p1 a2 a3 (by rw [← a4]; exact sc_stop hl)
    | succ k ih =>
      intro p1 a1 a2 a3 a4
      apply hP
      refine r_here h.pos fI_at a3 ?_
      refine r_isLet (fun hl => ?_) (fun hl => ?_)
      · rw [if_neg (by decide)]
        rintro _ rfl
        rw [fI_at, nI_1, sI_sI]
        have := isLet_lt hB hl
        exact ih (p1 + 1) (by omega) (by omega) (by omega) (by rw [← sc_go hl (by omega)]; exact a4)
      · rw [if_pos rfl]
        exact fin p1 a2 a3 (by rw [← a4]; exact sc_stop hl)
  have := key _ p rfl (Nat.le_refl p) hpn rfl
  rw [sI_self hp] at this
  exact this
theorem r_alike {Q : Int32 → PS → Prop} {f m q z : Nat} (h : RT S A B n) (h1 : Lt B f m) (h2 : f + m ≤ n) (h3 : Lt B q z) (h4 : q + z ≤ n)
    (y1 : (m = z ∧ ∀ j, j < m → B (f + j) = B (q + j)) → Q 1 S) (y0 : ¬ (m = z ∧ ∀ j, j < m → B (f + j) = B (q + j)) → Q 0 S) : wp_X12_alike (A 9) (nI f) (nI m) (nI q) (nI z) S Q := by
  have hn := h.2.2.1.1
  unfold wp_X12_alike
  intro K hK
  by_cases c : m = z
  · rw [if_pos (by rw [c])]
    apply hK
    intro P hP
    have no : ∀ i, ¬ (∀ j, j < m → B (f + j) = B (q + j)) → P 0 (nI i) S := by
      intro i e
      apply hP
      have e0 : Q 0 S := y0 (fun w => e w.2)
      split
      · exact ⟨nzz0, e0⟩
      · rw [if_pos rfl]; exact ⟨nzz0, e0⟩
    have key : ∀ k i, i + k = m → (∀ j, j < i → B (f + j) = B (q + j)) → P 1 (nI i) S := by
      intro k
      induction k with
      | zero =>
        intro i a1 a2
        have ei : i = m := by omega
        apply hP
        rw [if_pos (nI_le (by omega) (by omega))]
        exact ⟨nzz1, y1 ⟨c, by rw [← ei]; exact a2⟩⟩
      | succ k ih =>
        intro i a1 a2
        apply hP
        rw [if_neg (nI_ge (by omega) (by omega)), if_neg (by decide), nI_add, nI_add]
        refine ⟨_, h.1.f99, by rw [h.1.n41]; exact vp_in_nI (by omega) (by omega), _, h.1.f99, by rw [h.1.n41]; exact vp_in_nI (by omega) (by omega), ?_⟩
        rw [nI_clamp (by omega), nI_clamp (by omega), (h.2.2.2 (f + i) (by omega)).2 (h1 i (by omega)), (h.2.2.2 (q + i) (by omega)).2 (h3 i (by omega))]
        intro K2 hK2
        by_cases e : B (f + i) = B (q + i)
        · rw [if_pos e]
          apply hK2
          rintro _ rfl
          rw [nI_1]
          refine ih (i + 1) (by omega) (fun j hj => ?_)
          by_cases d : j = i
          · rw [d]; exact e
          · exact a2 j (by omega)
        · rw [if_neg e]
          apply hK2
          rintro _ rfl
          rw [nI_1]
          exact no (i + 1) (fun w => e (w i (by omega)))
    exact key m 0 (by omega) (fun j hj => by omega)
  · rw [if_neg (by rw [nI_eq (by omega) (by omega)]; exact c)]
    apply hK
    intro P hP
    apply hP
    have e0 : Q 0 S := y0 (fun w => c w.1)
    split
    · exact ⟨nzz0, e0⟩
    · rw [if_pos rfl]; exact ⟨nzz0, e0⟩
/-- names in the reference's rows a, b -/
def Nt (B : Nat → Int32) (n : Nat) (f1 f2 : Nat → Int32) (c : Nat → Int32) (k : Nat) : Prop := ∃ w, Wn B n w ∧ f1 k = nI w.1 ∧ f2 k = nI w.2 ∧ c k = hs B w
theorem Nt.al {Q : Int32 → PS → Prop} {f1 f2 c : Nat → Int32} {k q z : Nat} (t : Nt B n f1 f2 c k) (h : RT S A B n) (h3 : Lt B q z) (h4 : q + z ≤ n)
    (y1 : c k = hs B (q, z) → Q 1 S) (y0 : ¬ c k = hs B (q, z) → Q 0 S) : wp_X12_alike (A 9) (f1 k) (f2 k) (nI q) (nI z) S Q := by
  obtain ⟨w, a1, a2, a3, a4⟩ := t
  have e : c k = hs B (q, z) ↔ (w.2 = z ∧ ∀ j, j < w.2 → B (w.1 + j) = B (q + j)) := by
    rw [a4, a1.ne.1]
    constructor
    · intro g
      have := (hs_eq h3 a1.2.2.2 a1.2.1).mp g.symm
      exact ⟨this.1.symm, fun j hj => (this.2 j (by omega)).symm⟩
    · rintro ⟨g1, g2⟩
      exact ((hs_eq h3 a1.2.2.2 a1.2.1).mpr ⟨g1.symm, fun j hj => (g2 j (by omega)).symm⟩).symm
  rw [a2, a3]
  exact r_alike h a1.2.2.2 a1.2.2.1 h3 h4 (fun g => y1 (e.mpr g)) (fun g => y0 (fun d => g (e.mp d)))
theorem r_nameOf {Q : Int32 → PS → Prop} {c : Nat → Int32} {nd q z : Nat} (h : RT S A B n) (hd : fI S 125 (A 9) = nI nd) (hb : nd ≤ 20) (ht : ∀ k, k < nd → Nt B n (aI S 55 (A 55)) (aI S 56 (A 56)) c k) (h3 : Lt B q z) (h4 : q + z ≤ n)
    (hQ : Q (fnd c (hs B (q, z)) nd 0) S) : wp_X12_nameOf (A 9) (nI q) (nI z) S Q := by
  unfold wp_X12_nameOf
  intro P hP
  have go : ∀ k i, i + k = nd → fnd c (hs B (q, z)) k i = fnd c (hs B (q, z)) nd 0 → P (nI i) S := by
    intro k
    induction k with
    | zero =>
      intro i a1 a2
      apply hP
      rw [hd, if_pos (nI_le (by omega) (by omega))]
      rw [fnd] at a2; rw [a2]; exact hQ
    | succ k ih =>
      intro i a1 a2
      apply hP
      rw [hd, if_neg (nI_ge (by omega) (by omega))]
      refine ⟨_, h.1.f121, by rw [h.1.n55]; exact vp_in_nI (by omega) (by omega), _, h.1.f122, by rw [h.1.n56]; exact vp_in_nI (by omega) (by omega), ?_⟩
      rw [nI_clamp (by omega)]
      rw [fnd] at a2
      refine (ht i (by omega)).al h h3 h4 (fun e => ?_) (fun e => ?_)
      · rw [if_neg (by decide)]
        rw [if_pos e] at a2; rw [a2]; exact hQ
      · rw [if_pos rfl]
        rw [if_neg e] at a2
        rintro _ rfl
        rw [nI_1]
        exact ih (i + 1) (by omega) a2
  exact go nd 0 (by omega) rfl
/-- parameters: c counts them from 0, the rows from 1 -/
theorem r_paramOf {Q : Int32 → PS → Prop} {c : Nat → Int32} {pq q z : Nat} {inm : Bool} (h : RT S A B n) (hi : fI S 126 (A 9) = mI inm) (hd : inm = true → fI S 129 (A 9) = nI pq) (hz : inm = false → pq = 0) (hb : pq ≤ 4) (ht : ∀ k, k < pq → Nt B n (fun j => aI S 59 (A 59) (j + 1)) (fun j => aI S 60 (A 60) (j + 1)) c k) (h3 : Lt B q z) (h4 : q + z ≤ n)
    (hQ : Q (fnd c (hs B (q, z)) pq 0) S) : wp_X12_parameterOf (A 9) (nI q) (nI z) S Q := by
  unfold wp_X12_parameterOf
  intro P hP
  cases inm with
  | false =>
    rw [hz rfl, fnd] at hQ
    apply hP
    split
    · exact hQ
    · rw [if_pos (by rw [hi]; rfl)]; exact hQ
  | true =>
    have hd := hd rfl
    have go : ∀ k i, i + k = pq → fnd c (hs B (q, z)) k i = fnd c (hs B (q, z)) pq 0 → P (nI (i + 1)) S := by
      intro k
      induction k with
      | zero =>
        intro i a1 a2
        apply hP
        rw [hd, if_pos (nI_lt (by omega) (by omega))]
        rw [fnd] at a2; rw [a2]; exact hQ
      | succ k ih =>
        intro i a1 a2
        apply hP
        rw [hd, if_neg (nI_nlt (by omega) (by omega)), if_neg (by rw [hi]; decide)]
        refine ⟨_, h.1.f127, by rw [h.1.n59]; exact vp_in_nI (by omega) (by omega), _, h.1.f128, by rw [h.1.n60]; exact vp_in_nI (by omega) (by omega), ?_⟩
        rw [nI_clamp (by omega), nI_pred]
        rw [fnd] at a2
        refine (ht i (by omega)).al h h3 h4 (fun e => ?_) (fun e => ?_)
        · rw [if_neg (by decide)]
          rw [if_pos e] at a2; rw [a2]; exact hQ
        · rw [if_pos rfl]
          rw [if_neg e] at a2
          rintro _ rfl
          rw [nI_1]
          exact ih (i + 1) (by omega) a2
    exact go pq 0 (by omega) rfl
/-- the names that are being told -/
def Qs (S : PS) (A : Nat → Nat) (qs : List (Nat × Nat)) : Prop := ∀ (j : Nat) (w : Nat × Nat), qs[j]? = some w → aI S 59 (A 59) j = nI w.1 ∧ aI S 60 (A 60) j = nI w.2
def jNn (j : Nat) : Bool := decide (101 ≤ j ∧ j ≤ 103)
def rNn (r : Nat) : Bool := decide (r = 59 ∨ r = 60)
def KNn (S S1 : PS) : Prop := Keep jNn rNn S S1
theorem KR.nn {S1 : PS} (h : KR S S1) : KNn S S1 := h.mono (fun _ => id) (fun _ _ => rfl)
theorem KNn.m {S1 : PS} (h : KNn S S1) : KM S S1 := h.mono (fun j => by unfold jM jNn; simp only [decide_eq_false_iff_not]; omega) (fun r => by unfold rM rNn; simp only [decide_eq_false_iff_not]; omega)
theorem RT.knn {S1 : PS} (h : RT S A B n) (g : KNn S S1) : RT S1 A B n := h.keep g rfl rfl
theorem r_newName {Q : PS → Prop} {c : Nat → Int32} {nd : Nat} {qs : List (Nat × Nat)} (h : RT S A B n) (hf : fI S 102 (A 9) = 0) (hp : fI S 101 (A 9) = nI p) (hl : isLet (B p) = true) (hd : fI S 125 (A 9) = nI nd) (hb : nd ≤ 20) (ht : ∀ k, k < nd → Nt B n (aI S 55 (A 55)) (aI S 56 (A 56)) c k) (hq : Qs S A qs) (hw : ∀ w, w ∈ qs → Wn B n w) (hql : qs.length ≤ 5)
    (h4 : (hs B (p, sc isLet B p - p) ≠ -1 ∧ (fnd c (hs B (p, sc isLet B p - p)) nd 0 ≠ -1 ∨ ∃ w, w ∈ qs ∧ hs B w = hs B (p, sc isLet B p - p))) → ∀ S1, RF S S1 A (4, p) → Q S1)
    (h5 : ¬ (hs B (p, sc isLet B p - p) ≠ -1 ∧ (fnd c (hs B (p, sc isLet B p - p)) nd 0 ≠ -1 ∨ ∃ w, w ∈ qs ∧ hs B w = hs B (p, sc isLet B p - p))) → (4 < qs.length ∨ 6 < sc isLet B p - p) → ∀ S1, RF S S1 A (5, p) → Q S1)
    (h1 : ¬ (hs B (p, sc isLet B p - p) ≠ -1 ∧ (fnd c (hs B (p, sc isLet B p - p)) nd 0 ≠ -1 ∨ ∃ w, w ∈ qs ∧ hs B w = hs B (p, sc isLet B p - p))) → ¬ (4 < qs.length ∨ 6 < sc isLet B p - p) → ∀ S1, KNn S S1 → fI S1 101 (A 9) = nI (sc isLet B p) → fI S1 102 (A 9) = 0 → Qs S1 A (qs ++ [(p, sc isLet B p - p)]) → Q S1) : wp_X12_newName (A 9) (nI qs.length) S Q := by
  have hB := h.2.2.1
  have hn := hB.1
  have hlt := isLet_lt hB hl
  have g3 := sc_le (f := isLet) hB (by decide) (Nat.le_of_lt hlt)
  have g4 := sc_ge (f := isLet) (B := B) (p := p)
  have hL : Lt B p (sc isLet B p - p) := sc_let rfl
  unfold wp_X12_newName
  intro v1 hv1
  rw [hp] at hv1
  subst hv1
  refine r_letters h hp (Nat.le_of_lt hlt) ?_
  generalize hz : sc isLet B p - p = z at *
  have hS := h.pos (v := nI (sc isLet B p))
  refine r_nameOf hS (by simp only [fI_s, fI_sn, fL_s, fL_sn, aI_w, aI_wn, aL_w, aL_wn, fI_sL, fI_wI, fI_wL, fL_sI, fL_wI, fL_wL, aI_sI, aI_sL, aI_wL, aL_sI, aL_sL, aL_wI, fR_sI, fR_sL, fR_wI, fR_wL, aN_sI, aN_sL, aN_wI, aN_wL, ne_eq, Nat.reduceEqDiff, not_false_eq_true]; exact hd) hb (by simp only [fI_s, fI_sn, fL_s, fL_sn, aI_w, aI_wn, aL_w, aL_wn, fI_sL, fI_wI, fI_wL, fL_sI, fL_wI, fL_wL, aI_sI, aI_sL, aI_wL, aL_sI, aL_sL, aL_wI, fR_sI, fR_sL, fR_wI, fR_wL, aN_sI, aN_sL, aN_wI, aN_wL, ne_eq, Nat.reduceEqDiff, not_false_eq_true]; exact ht) hL (by omega) ?_
  intro K hK
  have big : hs B (p, z) = -1 → fnd c (hs B (p, z)) nd 0 = -1 ∧ ∀ w, w ∈ qs → hs B w ≠ hs B (p, z) := by
    intro e
    refine ⟨(fnd_none nd 0 (by omega)).mpr (fun j _ hj => ?_), fun w m => ?_⟩
    · obtain ⟨w, a1, a2, a3, a4⟩ := ht j (by omega)
      rw [a4, e, a1.ne.1]; exact nI_ne_neg (by have := a1.ne.2; omega)
    · rw [e, (hw w m).ne.1]; exact nI_ne_neg (by have := (hw w m).ne.2; omega)
  have goal : ∀ t6 : Int32, (t6 = 0 ∧ fnd c (hs B (p, z)) nd 0 = -1 ∨ t6 = 1 ∧ fnd c (hs B (p, z)) nd 0 ≠ -1) → K t6 (sI S 101 (A 9) (nI (sc isLet B p))) := by
    intro t6 ht6
    apply hK
    intro P hP
    have fin : ∀ x4 : Int32, (x4 = 0 ∧ ¬ (hs B (p, z) ≠ -1 ∧ (fnd c (hs B (p, z)) nd 0 ≠ -1 ∨ ∃ w, w ∈ qs ∧ hs B w = hs B (p, z))) ∨ x4 = 1 ∧ (hs B (p, z) ≠ -1 ∧ (fnd c (hs B (p, z)) nd 0 ≠ -1 ∨ ∃ w, w ∈ qs ∧ hs B w = hs B (p, z)))) → P x4 (nI qs.length) (sI S 101 (A 9) (nI (sc isLet B p))) := by
      intro x4 hx
      apply hP
      rw [if_pos (nI_le (Nat.le_refl _) (by omega))]
      rcases hx with ⟨rfl, y⟩ | ⟨rfl, y⟩
      · rw [if_pos rfl]
        intro K2 hK2
        have bad : (4 < qs.length ∨ 6 < z) → K2 (sI S 101 (A 9) (nI (sc isLet B p))) := by
          intro e
          apply hK2
          exact r_bad (k := 5) (fI_at2.trans hf) (fun S1 c1 => h5 y e S1 (RF.of KR.pos c1))
        by_cases c4 : 4 < qs.length
        · rw [if_pos (clt_yes 4 (by rfl) c4 (by omega))]; exact bad (Or.inl c4)
        · rw [if_neg (clt_no 4 (by rfl) (by omega) (by omega))]
          by_cases c6 : z ≤ 6
          · rw [if_pos (lec_yes 6 (by rfl) c6 (by omega))]
            refine ⟨_, hS.1.f127, by rw [hS.1.n59]; exact vp_in_nI (by omega) (by omega), ?_⟩
            rw [nI_clamp (by omega)]
            rintro _ rfl
            refine ⟨_, hS.1.f128, by show vp_in _ (aN S (A 60)); rw [h.1.n60]; exact vp_in_nI (by omega) (by omega), ?_⟩
            rintro _ rfl
            refine h1 y (by omega) _ (((Keep.rf.sI rfl).wI rfl).wI rfl) (by simp only [fI_s, fI_sn, fL_s, fL_sn, aI_w, aI_wn, aL_w, aL_wn, fI_sL, fI_wI, fI_wL, fL_sI, fL_wI, fL_wL, aI_sI, aI_sL, aI_wL, aL_sI, aL_sL, aL_wI, fR_sI, fR_sL, fR_wI, fR_wL, aN_sI, aN_sL, aN_wI, aN_wL, ne_eq, Nat.reduceEqDiff, not_false_eq_true]) (by simp only [fI_s, fI_sn, fL_s, fL_sn, aI_w, aI_wn, aL_w, aL_wn, fI_sL, fI_wI, fI_wL, fL_sI, fL_wI, fL_wL, aI_sI, aI_sL, aI_wL, aL_sI, aL_sL, aL_wI, fR_sI, fR_sL, fR_wI, fR_wL, aN_sI, aN_sL, aN_wI, aN_wL, ne_eq, Nat.reduceEqDiff, not_false_eq_true]; exact hf) ?_
            intro j w hj
            simp only [fI_s, fI_sn, fL_s, fL_sn, aI_w, aI_wn, aL_w, aL_wn, fI_sL, fI_wI, fI_wL, fL_sI, fL_wI, fL_wL, aI_sI, aI_sL, aI_wL, aL_sI, aL_sL, aL_wI, fR_sI, fR_sL, fR_wI, fR_wL, aN_sI, aN_sL, aN_wI, aN_wL, ne_eq, Nat.reduceEqDiff, not_false_eq_true]
            rcases app_get hj with ⟨e1, e2⟩ | ⟨e1, e2⟩
            · rw [uq_ne (by omega), uq_ne (by omega)]; exact hq j w e2
            · rw [e1, uq_at, uq_at, e2]; exact ⟨rfl, rfl⟩
          · rw [if_neg (lec_no 6 (by rfl) (by omega) (by omega))]; exact bad (Or.inr (by omega))
      · rw [if_neg (by decide)]
        exact r_bad (k := 4) (fI_at2.trans hf) (fun S1 c1 => h4 y S1 (RF.of KR.pos c1))
    have key : ∀ k i (x4 : Int32), i + k = qs.length → (x4 = 0 ∧ fnd c (hs B (p, z)) nd 0 = -1 ∧ (∀ j w, j < i → qs[j]? = some w → hs B w ≠ hs B (p, z)) ∨ x4 = 1 ∧ (hs B (p, z) ≠ -1 ∧ (fnd c (hs B (p, z)) nd 0 ≠ -1 ∨ ∃ w, w ∈ qs ∧ hs B w = hs B (p, z)))) → P x4 (nI i) (sI S 101 (A 9) (nI (sc isLet B p))) := by
      intro k
      induction k with
      | zero =>
        intro i x4 a1 a2
        have ei : i = qs.length := by omega
        rw [ei]
        apply fin
        rcases a2 with ⟨b1, b2, b3⟩ | b
        · refine Or.inl ⟨b1, ?_⟩
          rintro ⟨-, b4 | ⟨w, b5, b6⟩⟩
          · exact b4 b2
          · obtain ⟨j, hj, e2⟩ := List.getElem_of_mem b5
            exact b3 j w (by omega) (by rw [← e2]; exact List.getElem?_eq_getElem hj) b6
        · exact Or.inr b
      | succ k ih =>
        intro i x4 a1 a2
        apply hP
        rw [if_neg (nI_ge (by omega) (by omega))]
        intro K2 hK2
        rcases a2 with ⟨rfl, b2, b3⟩ | ⟨rfl, b⟩
        · rw [if_pos rfl]
          refine ⟨_, hS.1.f127, by rw [hS.1.n59]; exact vp_in_nI (by omega) (by omega), _, hS.1.f128, by rw [hS.1.n60]; exact vp_in_nI (by omega) (by omega), ?_⟩
          rw [nI_clamp (by omega)]
          have hi : i < qs.length := by omega
          have hg : qs[i]? = some qs[i] := List.getElem?_eq_getElem hi
          have tn : Nt B n (aI (sI S 101 (A 9) (nI (sc isLet B p))) 59 (A 59)) (aI (sI S 101 (A 9) (nI (sc isLet B p))) 60 (A 60)) (fun _ => hs B qs[i]) i := ⟨qs[i], hw _ (List.getElem_mem hi), (hq i _ hg).1, (hq i _ hg).2, rfl⟩
          refine tn.al hS hL (by omega) (fun e => ?_) (fun e => ?_)
          · rw [if_neg (by decide)]
            apply hK2
            rintro _ rfl
            rw [nI_1]
            refine ih (i + 1) 1 (by omega) (Or.inr ⟨rfl, ?_, Or.inr ⟨qs[i], List.getElem_mem hi, e⟩⟩)
            intro e1
            exact (big e1).2 _ (List.getElem_mem hi) e
          · rw [if_pos rfl]
            apply hK2
            rintro _ rfl
            rw [nI_1]
            refine ih (i + 1) 0 (by omega) (Or.inl ⟨rfl, b2, fun j w hj hg2 => ?_⟩)
            by_cases d : j = i
            · subst d
              rw [hg] at hg2
              injection hg2 with hg2
              rw [← hg2]; exact e
            · exact b3 j w (by omega) hg2
        · rw [if_neg (by decide)]
          apply hK2
          rintro _ rfl
          rw [nI_1]
          exact ih (i + 1) 1 (by omega) (Or.inr ⟨rfl, b⟩)
    refine key qs.length 0 t6 (by omega) ?_
    rcases ht6 with ⟨b1, b2⟩ | ⟨b1, b2⟩
    · exact Or.inl ⟨b1, b2, fun j w hj => by omega⟩
    · exact Or.inr ⟨b1, fun e => b2 (big e).1, Or.inl b2⟩
  by_cases e : fnd c (hs B (p, z)) nd 0 = -1
  · rw [if_pos e]; exact goal 0 (Or.inl ⟨rfl, e⟩)
  · rw [if_neg e]; exact goal 1 (Or.inr ⟨rfl, e⟩)
end
