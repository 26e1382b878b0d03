/-! The reference tells: events. -/
section
variable {S S1 Sr : PS} {A : Nat → Nat} {E M V n i c : Nat} {P30 : Int32 → PS → Prop}
def twd (S : PS) (A : Nat → Nat) (q : Nat) : Bool := decide (aI S 75 (A 75) q ≠ -1 ∧ ¬ (aI S 54 (A 54) (aI S 75 (A 75) q).toNatClampNeg = 1 ∧ aI S 41 (A 41) (aI S 53 (A 53) (aI S 75 (A 75) q).toNatClampNeg).toNatClampNeg = 95))
def tw1 (S : PS) (A : Nat → Nat) (q : Nat) : Int32 := if twd S A q = true then aI S 53 (A 53) (aI S 75 (A 75) q).toNatClampNeg else 0
def tw2 (S : PS) (A : Nat → Nat) (q : Nat) : Int32 := if twd S A q = true then aI S 54 (A 54) (aI S 75 (A 75) q).toNatClampNeg else 0
def Wok (S : PS) (A : Nat → Nat) (q : Nat) : Prop := aI S 75 (A 75) q = -1 ∨ ∃ w p, w < 1500 ∧ aI S 75 (A 75) q = nI w ∧ p < 1500 ∧ aI S 53 (A 53) w = nI p
theorem nI_mul (a b : Nat) : nI a * nI b = nI (a * b) := by
  rw [iJ_n, iJ_n, iJ_n, iJ_mul]; congr 1
def rWo (r : Nat) : Bool := decide (r = 111 ∨ r = 112)
def rPi (r : Nat) : Bool := decide (108 ≤ r ∧ r ≤ 110)
def rEv (r : Nat) : Bool := decide (102 ≤ r ∧ r ≤ 112)
theorem r_wol (lm : LayM S A) (hi : i < 300) (hw : ∀ j, j < 3 → Wok S A (3 * i + j))
    (hQ : ∀ S1, Keep (fun _ => false) rWo S S1 → (∀ q, q < 3 * i ∨ 3 * i + 3 ≤ q → aI S1 111 (A 111) q = aI S 111 (A 111) q ∧ aI S1 112 (A 112) q = aI S 112 (A 112) q) → (∀ j, j < 3 → aI S1 111 (A 111) (3 * i + j) = tw1 S A (3 * i + j) ∧ aI S1 112 (A 112) (3 * i + j) = tw2 S A (3 * i + j)) → P30 (nI (i + 1)) S1) : WOL (A 9) (nI i) P30 (nI (3 * i)) S := by
  unfold WOL
  intro P hP
  have key : ∀ m j S1, j + m = 3 → Keep (fun _ => false) rWo S S1 → (∀ q, q < 3 * i ∨ 3 * i + 3 ≤ q → aI S1 111 (A 111) q = aI S 111 (A 111) q ∧ aI S1 112 (A 112) q = aI S 112 (A 112) q) → (∀ j', j' < j → aI S1 111 (A 111) (3 * i + j') = tw1 S A (3 * i + j') ∧ aI S1 112 (A 112) (3 * i + j') = tw2 S A (3 * i + j')) → P (nI (3 * i + j)) S1 := by
    intro m
    induction m with
    | zero =>
      intro j S1 hj k1 hu ho
      have e : j = 3 := by omega
      subst e
      apply hP
      rw [show (3 : Int32) = nI 3 from rfl, nI_mul, nI_add, if_pos ((nI_le_iff (by omega) (by omega)).mpr (by omega))]
      rintro _ rfl
      rw [nI_1]
      exact hQ S1 k1 hu ho
    | succ m ih =>
      intro j S1 hj k1 hu ho
      have l1 := lm.st k1.1
      apply hP
      rw [show (3 : Int32) = nI 3 from rfl, nI_mul, nI_add, if_neg (by rw [nI_le_iff (by omega) (by omega)]; omega)]
      have vq : ∀ {r : Nat}, r = 900 → vp_in (nI (3 * i + j)) r := fun h => by rw [h]; exact vp_in_nI (by omega) (by omega)
      have cq : (nI (3 * i + j)).toNatClampNeg = 3 * i + j := nI_clamp (by omega)
      refine ⟨_, l1.f145, vq l1.n75, ?_⟩
      rw [cq, (k1.2.2 75 rfl).1]
      rintro _ rfl
      intro K hK
      -- what is written
      have wr : ∀ z1 z2 : Int32, z1 = tw1 S A (3 * i + j) → z2 = tw2 S A (3 * i + j) → P (nI (3 * i + j + 1)) (wI (wI S1 111 (A 111) (3 * i + j) z1) 112 (A 112) (3 * i + j) z2) := by
        intro z1 z2 h1 h2
        refine ih (j + 1) _ (by omega) ((k1.wI rfl).wI rfl) (fun q hq => ?_) (fun j' hj' => ?_)
        · simp only [fI_s, fI_sn, fL_s, fL_sn, aI_w, aI_wn, aL_w, aL_wn, fI_sL, fI_wI, fI_wL, fL_sI, fL_wI, fL_wL, aI_sI, aI_sL, aI_wL, aL_sI, aL_sL, aL_wI, fR_sI, fR_sL, fR_wI, fR_wL, aN_sI, aN_sL, aN_wI, aN_wL, ne_eq, Nat.reduceEqDiff, not_false_eq_true]; rw [uq_ne (by omega), uq_ne (by omega)]; exact hu q hq
        · simp only [fI_s, fI_sn, fL_s, fL_sn, aI_w, aI_wn, aL_w, aL_wn, fI_sL, fI_wI, fI_wL, fL_sI, fL_wI, fL_wL, aI_sI, aI_sL, aI_wL, aL_sI, aL_sL, aL_wI, fR_sI, fR_sL, fR_wI, fR_wL, aN_sI, aN_sL, aN_wI, aN_wL, ne_eq, Nat.reduceEqDiff, not_false_eq_true]
          by_cases z : j' = j
          · subst z; rw [uq_at, uq_at]; exact ⟨h1, h2⟩
          · rw [uq_ne (by omega), uq_ne (by omega)]; exact ho j' (by omega)
      have no : twd S A (3 * i + j) = false → K 0 S1 := by
        intro ht
        apply hK
        refine ⟨_, l1.f199, ?_⟩
        intro K2 hK2
        rw [if_pos rfl]
        apply hK2
        refine ⟨vq l1.n111, ?_⟩
        rintro _ rfl
        refine ⟨_, l1.f200, ?_⟩
        intro K3 hK3
        rw [if_pos rfl]
        apply hK3
        refine ⟨vq l1.n112, ?_⟩
        rintro _ rfl _ rfl
        rw [cq, nI_1]
        exact wr 0 0 (by unfold tw1; rw [ht, if_neg (by decide)]) (by unfold tw2; rw [ht, if_neg (by decide)])
      rcases hw j (by omega) with z | ⟨w, p, w1, w2, w3, w4⟩
      · rw [if_pos z]
        exact no (by unfold twd; rw [decide_eq_false_iff_not]; exact fun y => y.1 z)
      · have cw : (nI w).toNatClampNeg = w := nI_clamp (by omega)
        have cp : (nI p).toNatClampNeg = p := nI_clamp (by omega)
        have vw : ∀ {r : Nat}, r = 1500 → vp_in (nI w) r := fun h => by rw [h]; exact vp_in_nI (by omega) (by omega)
        have ew : aI S 75 (A 75) (3 * i + j) ≠ -1 := by rw [w2]; exact nI_ne_neg (by omega)
        have yes : twd S A (3 * i + j) = true → K 1 S1 := by
          intro ht
          apply hK
          refine ⟨_, l1.f199, ?_⟩
          intro K2 hK2
          rw [if_neg (by decide), w2]
          refine ⟨_, l1.f118, vw l1.n53, ?_⟩
          apply hK2
          refine ⟨vq l1.n111, ?_⟩
          rintro _ rfl
          refine ⟨_, l1.f200, ?_⟩
          intro K3 hK3
          rw [if_neg (by decide), w2]
          refine ⟨_, l1.f119, vw l1.n54, ?_⟩
          apply hK3
          refine ⟨vq l1.n112, ?_⟩
          rintro _ rfl _ rfl
          simp only [fI_s, fI_sn, fL_s, fL_sn, aI_w, aI_wn, aL_w, aL_wn, fI_sL, fI_wI, fI_wL, fL_sI, fL_wI, fL_wL, aI_sI, aI_sL, aI_wL, aL_sI, aL_sL, aL_wI, fR_sI, fR_sL, fR_wI, fR_wL, aN_sI, aN_sL, aN_wI, aN_wL, ne_eq, Nat.reduceEqDiff, not_false_eq_true]
          rw [cq, cw, nI_1, (k1.2.2 53 rfl).1, (k1.2.2 54 rfl).1]
          exact wr _ _ (by unfold tw1; rw [ht, if_pos rfl, w2, cw]) (by unfold tw2; rw [ht, if_pos rfl, w2, cw])
        rw [if_neg ew, w2]
        refine ⟨_, l1.f119, vw l1.n54, ?_⟩
        rw [cw, (k1.2.2 54 rfl).1]
        by_cases c1 : aI S 54 (A 54) w = 1
        · rw [if_pos c1]
          refine ⟨_, l1.f99, _, l1.f118, vw l1.n53, ?_⟩
          rw [(k1.2.2 53 rfl).1, w4]
          refine ⟨by rw [l1.n41]; exact vp_in_nI w3 (by omega), ?_⟩
          rw [cp, (k1.2.2 41 rfl).1]
          by_cases c2 : aI S 41 (A 41) p = 95
          · rw [if_pos c2]
            exact no (by unfold twd; rw [decide_eq_false_iff_not]; exact fun y => y.2 (by rw [w2, cw, w4, cp]; exact ⟨c1, c2⟩))
          · rw [if_neg c2]
            exact yes (by unfold twd; rw [decide_eq_true_iff]; exact ⟨ew, by rw [w2, cw, w4, cp]; exact fun y => c2 y.2⟩)
        · rw [if_neg c1]
          exact yes (by unfold twd; rw [decide_eq_true_iff]; exact ⟨ew, by rw [w2, cw]; exact fun y => c1 y.1⟩)
  have := key 3 0 S (by omega) Keep.rf (fun _ _ => ⟨rfl, rfl⟩) (fun k hk => by omega)
  exact this
theorem r_ptl (lm : LayM S A) (hi : i < 300) (h66 : aI S 66 (A 66) i = nI c) (hc : c ≤ 6)
    (hQ : ∀ S1, Keep (fun _ => false) rPi S S1 → (∀ q, q < 6 * i ∨ 6 * i + 6 ≤ q → aI S1 108 (A 108) q = aI S 108 (A 108) q ∧ aI S1 109 (A 109) q = aI S 109 (A 109) q ∧ aI S1 110 (A 110) q = aI S 110 (A 110) q) → (∀ k, k < c → aI S1 108 (A 108) (6 * i + k) = aI S 72 (A 72) (6 * i + k) ∧ aI S1 109 (A 109) (6 * i + k) = aI S 73 (A 73) (6 * i + k) ∧ aI S1 110 (A 110) (6 * i + k) = aI S 74 (A 74) (6 * i + k)) → WOL (A 9) (nI i) P30 (nI (3 * i)) S1) : PTL (A 9) (nI i) P30 (nI (6 * i)) S := by
  unfold PTL
  intro P hP
  have key : ∀ m j S1, j + m = c → Keep (fun _ => false) rPi S S1 → (∀ q, q < 6 * i ∨ 6 * i + 6 ≤ q → aI S1 108 (A 108) q = aI S 108 (A 108) q ∧ aI S1 109 (A 109) q = aI S 109 (A 109) q ∧ aI S1 110 (A 110) q = aI S 110 (A 110) q) → (∀ k, k < j → aI S1 108 (A 108) (6 * i + k) = aI S 72 (A 72) (6 * i + k) ∧ aI S1 109 (A 109) (6 * i + k) = aI S 73 (A 73) (6 * i + k) ∧ aI S1 110 (A 110) (6 * i + k) = aI S 74 (A 74) (6 * i + k)) → P (nI (6 * i + j)) S1 := by
    intro m
    induction m with
    | zero =>
      intro j S1 hj k1 hu ho
      have e : j = c := by omega
      subst e
      have l1 := lm.st k1.1
      apply hP
      refine ⟨_, l1.f136, by rw [l1.n66]; exact vp_in_nI hi (by omega), ?_⟩
      rw [nI_clamp (by omega), (k1.2.2 66 rfl).1, h66, show (6 : Int32) = nI 6 from rfl, nI_mul, nI_add, if_pos ((nI_le_iff (by omega) (by omega)).mpr (by omega))]
      rintro _ rfl
      rw [show (3 : Int32) = nI 3 from rfl, nI_mul]
      exact hQ S1 k1 hu ho
    | succ m ih =>
      intro j S1 hj k1 hu ho
      have l1 := lm.st k1.1
      apply hP
      refine ⟨_, l1.f136, by rw [l1.n66]; exact vp_in_nI hi (by omega), ?_⟩
      rw [nI_clamp (by omega), (k1.2.2 66 rfl).1, h66, show (6 : Int32) = nI 6 from rfl, nI_mul, nI_add, if_neg (by rw [nI_le_iff (by omega) (by omega)]; omega)]
      have vq : ∀ {r : Nat}, r = 1800 → vp_in (nI (6 * i + j)) r := fun h => by rw [h]; exact vp_in_nI (by omega) (by omega)
      refine ⟨_, l1.f196, _, l1.f142, vq l1.n72, vq l1.n108, ?_⟩
      rintro _ rfl
      refine ⟨_, l1.f197, _, l1.f143, vq l1.n73, vq l1.n109, ?_⟩
      rintro _ rfl
      refine ⟨_, l1.f198, _, l1.f144, vq l1.n74, vq l1.n110, ?_⟩
      rintro _ rfl _ rfl
      simp only [fI_s, fI_sn, fL_s, fL_sn, aI_w, aI_wn, aL_w, aL_wn, fI_sL, fI_wI, fI_wL, fL_sI, fL_wI, fL_wL, aI_sI, aI_sL, aI_wL, aL_sI, aL_sL, aL_wI, fR_sI, fR_sL, fR_wI, fR_wL, aN_sI, aN_sL, aN_wI, aN_wL, ne_eq, Nat.reduceEqDiff, not_false_eq_true]
      rw [nI_1, nI_clamp (by omega), (k1.2.2 72 rfl).1, (k1.2.2 73 rfl).1, (k1.2.2 74 rfl).1]
      refine ih (j + 1) _ (by omega) (((k1.wI rfl).wI rfl).wI rfl) (fun q hq => ?_) (fun k hk => ?_)
      · simp only [fI_s, fI_sn, fL_s, fL_sn, aI_w, aI_wn, aL_w, aL_wn, fI_sL, fI_wI, fI_wL, fL_sI, fL_wI, fL_wL, aI_sI, aI_sL, aI_wL, aL_sI, aL_sL, aL_wI, fR_sI, fR_sL, fR_wI, fR_wL, aN_sI, aN_sL, aN_wI, aN_wL, ne_eq, Nat.reduceEqDiff, not_false_eq_true]; rw [uq_ne (by omega), uq_ne (by omega), uq_ne (by omega)]; exact hu q hq
      · simp only [fI_s, fI_sn, fL_s, fL_sn, aI_w, aI_wn, aL_w, aL_wn, fI_sL, fI_wI, fI_wL, fL_sI, fL_wI, fL_wL, aI_sI, aI_sL, aI_wL, aL_sI, aL_sL, aL_wI, fR_sI, fR_sL, fR_wI, fR_wL, aN_sI, aN_sL, aN_wI, aN_wL, ne_eq, Nat.reduceEqDiff, not_false_eq_true]
        by_cases z : k = j
        · subst z; rw [uq_at, uq_at, uq_at]; exact ⟨rfl, rfl, rfl⟩
        · rw [uq_ne (by omega), uq_ne (by omega), uq_ne (by omega)]; exact ho k (by omega)
  have := key c 0 S (by omega) Keep.rf (fun _ _ => ⟨rfl, rfl, rfl⟩) (fun k hk => by omega)
  exact this
/-- an event as it is told -/
def EvT (S S1 : PS) (A : Nat → Nat) (e : Nat) : Prop := (aI S1 102 (A 102) e = aI S 65 (A 65) e ∧ aI S1 103 (A 103) e = aI S 66 (A 66) e ∧ aI S1 104 (A 104) e = vp_nar .boolean (aI S 67 (A 67) e) ∧ aI S1 105 (A 105) e = vp_nar .boolean (aI S 68 (A 68) e) ∧ aL S1 106 (A 106) e = aL S 69 (A 69) e ∧ aL S1 107 (A 107) e = aL S 70 (A 70) e) ∧
  (∀ c k, aI S 66 (A 66) e = nI c → c ≤ 6 → k < c → aI S1 108 (A 108) (6 * e + k) = aI S 72 (A 72) (6 * e + k) ∧ aI S1 109 (A 109) (6 * e + k) = aI S 73 (A 73) (6 * e + k) ∧ aI S1 110 (A 110) (6 * e + k) = aI S 74 (A 74) (6 * e + k)) ∧ ∀ j, j < 3 → aI S1 111 (A 111) (3 * e + j) = tw1 S A (3 * e + j) ∧ aI S1 112 (A 112) (3 * e + j) = tw2 S A (3 * e + j)
theorem EvT.cg {S2 : PS} {e : Nat} (h : EvT S S1 A e) (h1 : ∀ r, 102 ≤ r → r ≤ 105 → aI S2 r (A r) e = aI S1 r (A r) e) (h2 : ∀ r, 106 ≤ r → r ≤ 107 → aL S2 r (A r) e = aL S1 r (A r) e) (h3 : ∀ r k, 108 ≤ r → r ≤ 110 → k < 6 → aI S2 r (A r) (6 * e + k) = aI S1 r (A r) (6 * e + k)) (h4 : ∀ r j, 111 ≤ r → r ≤ 112 → j < 3 → aI S2 r (A r) (3 * e + j) = aI S1 r (A r) (3 * e + j)) : EvT S S2 A e := by
  obtain ⟨⟨a1, a2, a3, a4, a5, a6⟩, a7, a8⟩ := h
  refine ⟨⟨by rw [h1 102 (by decide) (by decide)]; exact a1, by rw [h1 103 (by decide) (by decide)]; exact a2, by rw [h1 104 (by decide) (by decide)]; exact a3, by rw [h1 105 (by decide) (by decide)]; exact a4, by rw [h2 106 (by decide) (by decide)]; exact a5, by rw [h2 107 (by decide) (by decide)]; exact a6⟩, fun c k x1 x2 x3 => ?_, fun j hj => ?_⟩
  · rw [h3 108 k (by decide) (by decide) (by omega), h3 109 k (by decide) (by decide) (by omega), h3 110 k (by decide) (by decide) (by omega)]; exact a7 c k x1 x2 x3
  · rw [h4 111 j (by decide) (by decide) hj, h4 112 j (by decide) (by decide) hj]; exact a8 j hj
theorem r_evl {Q : PS → Prop} (lm : LayM S A) (h146 : fI S 146 (A 9) = nI E) (hE : E ≤ 300) (hw : ∀ q, q < 3 * E → Wok S A q) (hc : ∀ e, e < E → ∃ c, c ≤ 6 ∧ aI S 66 (A 66) e = nI c)
    (hQ : ∀ S1, Keep (fun _ => false) rEv S S1 → (∀ e, e < E → EvT S S1 A e) → VOL (A 9) S1 Q) : EVL (A 9) S Q := by
  unfold EVL
  intro P hP
  have key : ∀ m i S1, i + m = E → Keep (fun _ => false) rEv S S1 → (∀ e, e < i → EvT S S1 A e) → P (nI i) S1 := by
    intro m
    induction m with
    | zero =>
      intro i S1 hi k1 ho
      apply hP
      rw [(k1.2.1 146 rfl).1, h146, if_pos ((nI_le_iff (by omega) (by omega)).mpr (by omega))]
      have e : i = E := by omega
      rw [e] at ho
      exact hQ S1 k1 ho
    | succ m ih =>
      intro i S1 hi k1 ho
      have l1 := lm.st k1.1
      obtain ⟨c, c6, hci⟩ := hc i (by omega)
      apply hP
      rw [(k1.2.1 146 rfl).1, h146, if_neg (by rw [nI_le_iff (by omega) (by omega)]; omega)]
      have vi : ∀ {r : Nat}, r = 300 → vp_in (nI i) r := fun h => by rw [h]; exact vp_in_nI (by omega) (by omega)
      refine ⟨_, l1.f190, _, l1.f135, vi l1.n65, vi l1.n102, ?_⟩
      rintro _ rfl
      refine ⟨_, l1.f191, _, l1.f136, vi l1.n66, vi l1.n103, ?_⟩
      rintro _ rfl
      refine ⟨_, l1.f192, _, l1.f137, vi l1.n67, vi l1.n104, ?_⟩
      rintro _ rfl
      refine ⟨_, l1.f193, _, l1.f138, vi l1.n68, vi l1.n105, ?_⟩
      rintro _ rfl
      refine ⟨_, l1.f194, _, l1.f139, vi l1.n69, vi l1.n106, ?_⟩
      rintro _ rfl
      refine ⟨_, l1.f195, _, l1.f140, vi l1.n70, vi l1.n107, ?_⟩
      rintro _ rfl _ rfl
      simp only [fI_s, fI_sn, fL_s, fL_sn, aI_w, aI_wn, aL_w, aL_wn, fI_sL, fI_wI, fI_wL, fL_sI, fL_wI, fL_wL, aI_sI, aI_sL, aI_wL, aL_sI, aL_sL, aL_wI, fR_sI, fR_sL, fR_wI, fR_wL, aN_sI, aN_sL, aN_wI, aN_wL, ne_eq, Nat.reduceEqDiff, not_false_eq_true]
      rw [nI_clamp (by omega), (k1.2.2 65 rfl).1, (k1.2.2 66 rfl).1, (k1.2.2 67 rfl).1, (k1.2.2 68 rfl).1, (k1.2.2 69 rfl).2, (k1.2.2 70 rfl).2, show (6 : Int32) = nI 6 from rfl, nI_mul]
      generalize hS2 : wL (wL (wI (wI (wI (wI S1 102 (A 102) i (aI S 65 (A 65) i)) 103 (A 103) i (aI S 66 (A 66) i)) 104 (A 104) i (vp_nar .boolean (aI S 67 (A 67) i))) 105 (A 105) i (vp_nar .boolean (aI S 68 (A 68) i))) 106 (A 106) i (aL S 69 (A 69) i)) 107 (A 107) i (aL S 70 (A 70) i) = S2
      have k2 : Keep (fun _ => false) rEv S S2 := by rw [← hS2]; exact (((((k1.wI rfl).wI rfl).wI rfl).wI rfl).wL rfl).wL rfl
      have w6 : aI S2 102 (A 102) i = aI S 65 (A 65) i ∧ aI S2 103 (A 103) i = aI S 66 (A 66) i ∧ aI S2 104 (A 104) i = vp_nar .boolean (aI S 67 (A 67) i) ∧ aI S2 105 (A 105) i = vp_nar .boolean (aI S 68 (A 68) i) ∧ aL S2 106 (A 106) i = aL S 69 (A 69) i ∧ aL S2 107 (A 107) i = aL S 70 (A 70) i := by
        rw [← hS2]; simp only [fI_s, fI_sn, fL_s, fL_sn, aI_w, aI_wn, aL_w, aL_wn, fI_sL, fI_wI, fI_wL, fL_sI, fL_wI, fL_wL, aI_sI, aI_sL, aI_wL, aL_sI, aL_sL, aL_wI, fR_sI, fR_sL, fR_wI, fR_wL, aN_sI, aN_sL, aN_wI, aN_wL, ne_eq, Nat.reduceEqDiff, not_false_eq_true]; rw [uq_at, uq_at, uq_at, uq_at, uq_at, uq_at]; exact ⟨rfl, rfl, rfl, rfl, rfl, rfl⟩
      have o1 : ∀ r e, e ≠ i → aI S2 r (A r) e = aI S1 r (A r) e ∧ aL S2 r (A r) e = aL S1 r (A r) e := fun r e he => by
        rw [← hS2]; exact ⟨by simp only [aI_wL, aI_wI, he, and_false, if_false], by simp only [aL_wL, aL_wI, he, and_false, if_false]⟩
      have o2 : ∀ r, 108 ≤ r → aI S2 r = aI S1 r := fun r hr => by
        rw [← hS2, aI_wL, aI_wL, aI_wn _ _ _ _ _ _ (by omega), aI_wn _ _ _ _ _ _ (by omega), aI_wn _ _ _ _ _ _ (by omega), aI_wn _ _ _ _ _ _ (by omega)]
      clear hS2
      refine r_ptl (lm.st k2.1) (by omega) (by rw [(k2.2.2 66 rfl).1]; exact hci) c6 (fun S3 k3 u3 p3 => ?_)
      have kk3 : Keep (fun _ => false) rEv S S3 := Keep.tr k2 (k3.mono (fun _ h => h) (fun r => by unfold rPi rEv; simp only [decide_eq_false_iff_not]; omega))
      have wk3 : ∀ q, Wok S3 A q ↔ Wok S A q := fun q => by unfold Wok; rw [(kk3.2.2 75 rfl).1, (kk3.2.2 53 rfl).1]
      have tk3 : ∀ q, tw1 S3 A q = tw1 S A q ∧ tw2 S3 A q = tw2 S A q := fun q => by
        unfold tw1 tw2 twd; rw [(kk3.2.2 75 rfl).1, (kk3.2.2 53 rfl).1, (kk3.2.2 54 rfl).1, (kk3.2.2 41 rfl).1]; exact ⟨rfl, rfl⟩
      refine r_wol (lm.st kk3.1) (by omega) (fun j hj => (wk3 _).mpr (hw _ (by omega))) (fun S4 k4 u4 p4 => ?_)
      have kk4 : Keep (fun _ => false) rEv S S4 := Keep.tr kk3 (k4.mono (fun _ h => h) (fun r => by unfold rWo rEv; simp only [decide_eq_false_iff_not]; omega))
      have a4 : ∀ r, r ≠ 111 → r ≠ 112 → aI S4 r = aI S3 r ∧ aL S4 r = aL S3 r := fun r r1 r2 => k4.2.2 r (by unfold rWo; rw [decide_eq_false_iff_not]; omega)
      have a3 : ∀ r, r < 108 ∨ 110 < r → aI S3 r = aI S2 r ∧ aL S3 r = aL S2 r := fun r r1 => k3.2.2 r (by unfold rPi; rw [decide_eq_false_iff_not]; omega)
      refine ih (i + 1) S4 (by omega) kk4 (fun e he => ?_)
      by_cases z : e = i
      · subst z
        obtain ⟨x1, x2, x3, x4, x5, x6⟩ := w6
        refine ⟨⟨?_, ?_, ?_, ?_, ?_, ?_⟩, fun c' k y1 y2 y3 => ?_, fun j hj => ?_⟩
        · rw [(a4 102 (by decide) (by decide)).1, (a3 102 (by decide)).1]; exact x1
        · rw [(a4 103 (by decide) (by decide)).1, (a3 103 (by decide)).1]; exact x2
        · rw [(a4 104 (by decide) (by decide)).1, (a3 104 (by decide)).1]; exact x3
        · rw [(a4 105 (by decide) (by decide)).1, (a3 105 (by decide)).1]; exact x4
        · rw [(a4 106 (by decide) (by decide)).2, (a3 106 (by decide)).2]; exact x5
        · rw [(a4 107 (by decide) (by decide)).2, (a3 107 (by decide)).2]; exact x6
        · have ec : c' = c := by
            have := y1.symm.trans hci
            rwa [nI_eq (by omega) (by omega)] at this
          rw [(a4 108 (by decide) (by decide)).1, (a4 109 (by decide) (by decide)).1, (a4 110 (by decide) (by decide)).1]
          have := p3 k (by omega)
          rw [(k2.2.2 72 rfl).1, (k2.2.2 73 rfl).1, (k2.2.2 74 rfl).1] at this
          exact this
        · have := p4 j hj
          rw [(tk3 _).1, (tk3 _).2] at this; exact this
      · refine (ho e (by omega)).cg (fun r r1 r2 => ?_) (fun r r1 r2 => ?_) (fun r k r1 r2 hk => ?_) (fun r j r1 r2 hj => ?_)
        · rw [(a4 r (by omega) (by omega)).1, (a3 r (by omega)).1]; exact (o1 r e z).1
        · rw [(a4 r (by omega) (by omega)).2, (a3 r (by omega)).2]; exact (o1 r e z).2
        · rw [(a4 r (by omega) (by omega)).1]
          have q := u3 (6 * e + k) (by omega)
          rcases (by omega : r = 108 ∨ r = 109 ∨ r = 110) with y | y | y
          · subst y; rw [q.1, o2 _ (by omega)]
          · subst y; rw [q.2.1, o2 _ (by omega)]
          · subst y; rw [q.2.2, o2 _ (by omega)]
        · have q := u4 (3 * e + j) (by omega)
          rcases (by omega : r = 111 ∨ r = 112) with y | y
          · subst y; rw [q.1, (a3 _ (by omega)).1, o2 _ (by omega)]
          · subst y; rw [q.2, (a3 _ (by omega)).1, o2 _ (by omega)]
  exact key E 0 S (by omega) Keep.rf (fun k hk => by omega)
end
