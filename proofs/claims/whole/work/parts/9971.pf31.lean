/-! The score is sorted. -/
def lte (s v : Nat → Nat) (a b : Nat) : Bool := decide (s a < s b ∨ (s a = s b ∧ (v a < v b ∨ (v a = v b ∧ a < b))))
def rk (s v : Nat → Nat) : Nat → Nat → Nat
  | 0, _ => 0
  | i + 1, e => rk s v i e + (if lte s v i e = true then 1 else 0)
section
variable {s v : Nat → Nat} {a b c i e : Nat}
theorem lte_t : lte s v a b = true ↔ (s a < s b ∨ (s a = s b ∧ (v a < v b ∨ (v a = v b ∧ a < b)))) := by unfold lte; rw [decide_eq_true_iff]
theorem lte_rf : ¬ lte s v a a = true := by rw [lte_t]; omega
theorem lte_tr (h : lte s v a b = true) (g : lte s v b c = true) : lte s v a c = true := by rw [lte_t] at h g ⊢; omega
theorem lte_or (h : a ≠ b) (g : ¬ lte s v a b = true) : lte s v b a = true := by rw [lte_t] at g ⊢; omega
theorem rk_le (h : lte s v a b = true) : rk s v i a ≤ rk s v i b := by
  induction i with
  | zero => exact Nat.le_refl _
  | succ i ih =>
    show rk s v i a + _ ≤ rk s v i b + _
    by_cases e : lte s v i a = true
    · rw [if_pos e, if_pos (lte_tr e h)]; omega
    · rw [if_neg e]; omega
theorem rk_lt (h : lte s v a b = true) (ha : a < i) : rk s v i a < rk s v i b := by
  induction i with
  | zero => omega
  | succ i ih =>
    show rk s v i a + _ < rk s v i b + _
    by_cases e : a = i
    · subst e
      rw [if_neg lte_rf, if_pos h]
      have := rk_le (s := s) (v := v) (i := a) h
      omega
    · have := ih (by omega)
      by_cases e : lte s v i a = true
      · rw [if_pos e, if_pos (lte_tr e h)]; omega
      · rw [if_neg e]; omega
theorem rk_inj (h : rk s v i a = rk s v i b) (ha : a < i) (hb : b < i) : a = b := by
  by_cases e : a = b
  · exact e
  · by_cases z : lte s v a b = true
    · have := rk_lt z ha; omega
    · have := rk_lt (lte_or e z) hb; omega
theorem rk_bd : rk s v i a ≤ i := by
  induction i with
  | zero => exact Nat.le_refl _
  | succ i ih =>
    show rk s v i a + _ ≤ _
    split <;> omega
theorem rk_bs (h : a < i) : rk s v i a < i := by
  induction i with
  | zero => omega
  | succ i ih =>
    show rk s v i a + _ < _
    by_cases e : a = i
    · subst e
      rw [if_neg lte_rf]
      have := rk_bd (s := s) (v := v) (i := a) (a := a)
      omega
    · have := ih (by omega)
      split <;> omega
end
section
variable {S S1 S2 : PS} {A : Nat → Nat} {E i e f : Nat} {s v : Nat → Nat}
theorem nI_dn (k : Nat) : nI (k + 1) + (-1) = nI k := by
  rw [iJ_n, iJ_n, show (-1 : Int32) = iJ (-1) from rfl, iJ_add]
  congr 1
  omega
def Evk (S : PS) (A : Nat → Nat) (E : Nat) (s v : Nat → Nat) : Prop := ∀ e, e < E → (aL S 29 (A 29) e = lN (s e) ∧ s e < 2 ^ 63) ∧ aI S 28 (A 28) e = nI (v e) ∧ v e < 12
theorem s_later {Q : Int32 → PS → Prop} (hl : LayS S A) (h70 : fI S 70 (A 7) = nI E) (hE : E ≤ 300) (hk : Evk S A E s v) (he : e < E) (hf : f < E) (hef : e < f) (h1 : lte s v f e = true → Q 1 S) (h0 : ¬ lte s v f e = true → Q 0 S) : wp_X8_comesLater (A 7) (nI e) (nI f) S Q := by
  obtain ⟨⟨s1, s2⟩, s3, s4⟩ := hk e he
  obtain ⟨⟨t1, t2⟩, t3, t4⟩ := hk f hf
  unfold wp_X8_comesLater
  refine s_eholds h70 he hE ?_
  rw [if_neg (by decide)]
  refine s_eholds h70 hf hE ?_
  rw [if_neg (by decide)]
  have ve : ∀ {r : Nat}, r = 300 → vp_in (nI e) r := fun h => by rw [h]; exact vp_in_nI (by omega) (by omega)
  have vf : ∀ {r : Nat}, r = 300 → vp_in (nI f) r := fun h => by rw [h]; exact vp_in_nI (by omega) (by omega)
  refine ⟨_, hl.f72, ve hl.n29, _, hl.f72, vf hl.n29, ?_⟩
  have ce : (nI e).toNatClampNeg = e := nI_clamp (by omega)
  have cf : (nI f).toNatClampNeg = f := nI_clamp (by omega)
  rw [ce, cf, s1, t1]
  by_cases z : s f < s e
  · rw [if_pos ((lN_ltq t2 s2).mpr z)]
    exact h1 (lte_t.mpr (Or.inl z))
  · rw [if_neg (fun y => z ((lN_ltq t2 s2).mp y))]
    refine ⟨_, hl.f72, ve hl.n29, _, hl.f72, vf hl.n29, ?_⟩
    try rw [ce, cf]
    rw [s1, t1]
    by_cases y : s e = s f
    · rw [if_pos ((lN_eqq s2 t2).mpr y)]
      refine ⟨_, hl.f71, ve hl.n28, _, hl.f71, vf hl.n28, ?_⟩
      try rw [ce, cf]
      rw [s3, t3]
      by_cases w : v e ≤ v f
      · rw [if_pos ((nI_le_iff (by omega) (by omega)).mpr w)]
        exact h0 (fun q => by rw [lte_t] at q; omega)
      · rw [if_neg (fun q => w ((nI_le_iff (by omega) (by omega)).mp q))]
        exact h1 (lte_t.mpr (Or.inr ⟨y.symm, Or.inl (by omega)⟩))
    · rw [if_neg (fun q => y ((lN_eqq s2 t2).mp q))]
      exact h0 (fun q => by rw [lte_t] at q; omega)
def r35 (r : Nat) : Bool := decide (r = 35)
def Srt (S : PS) (A : Nat → Nat) (s v : Nat → Nat) (i : Nat) : Prop := ∀ p, p < i → ∃ e, e < i ∧ aI S 35 (A 35) p = nI e ∧ rk s v i e = p
def K35 (A : Nat → Nat) (S S1 : PS) : Prop := Keep (fun _ => false) r35 S S1 ∧ ∀ S0, Kws (PW A S0) S0 S → Kws (PW A S0) S0 S1
theorem K35.rf : K35 A S S := ⟨Keep.rf, fun _ h => h⟩
theorem K35.w {j : Nat} {x : Int32} (h : K35 A S S1) : K35 A S (wI S1 35 (A 35) j x) := ⟨h.1.wI rfl, fun S0 k => (h.2 S0 k).wI (PW.at rfl)⟩
theorem s_sort {Q : PS → Prop} (hl : LayS S A) (h70 : fI S 70 (A 7) = nI E) (hE : E ≤ 300) (hk : Evk S A E s v) (hQ : ∀ S1, K35 A S S1 → Srt S1 A s v E → Q S1) : wp_X8_sortByTime (A 7) S Q := by
  unfold wp_X8_sortByTime
  intro P hP
  have key : ∀ m i S1, i + m = E → K35 A S S1 → Srt S1 A s v i → P (nI i) S1 := by
    intro m
    induction m with
    | zero =>
      intro i S1 hi ks hs
      apply hP
      rw [(ks.1.2.1 70 rfl).1, h70, if_pos ((nI_le_iff (by omega) (by omega)).mpr (by omega))]
      have e : i = E := by omega
      rw [e] at hs
      exact hQ S1 ks hs
    | succ m ih =>
      intro i S1 hi ks hs
      apply hP
      rw [(ks.1.2.1 70 rfl).1, h70, if_neg (by rw [nI_le_iff (by omega) (by omega)]; omega), if_neg (by rw [show (300 : Int32) = nI 300 from rfl, nI_le_iff (by omega) (by omega)]; omega)]
      intro P19 hP19
      have inn : ∀ x S2, x ≤ i → K35 A S S2 → rk s v i i ≤ x → (∀ p, p < x → aI S2 35 (A 35) p = aI S1 35 (A 35) p) → (∀ p, x < p → p ≤ i → aI S2 35 (A 35) p = aI S1 35 (A 35) (p - 1)) → P19 (nI x) S2 := by
        intro x
        induction x with
        | zero =>
          intro S2 hx k2 hr hlo hhi
          have l2 := hl.st k2.1.1
          apply hP19
          intro K hK
          rw [if_pos (by decide)]
          apply hK
          refine ⟨_, l2.f78, by rw [l2.n35]; exact vp_in_nI (by omega) (by omega), ?_⟩
          rintro _ rfl _ rfl
          rw [nI_1, nI_clamp (by omega)]
          refine ih (i + 1) _ (by omega) k2.w (fun p hp => ?_)
          simp only [fI_s, fI_sn, fL_s, fL_sn, aI_w, aI_wn, aL_w, aL_wn, fI_sL, fI_wI, fI_wL, fL_sI, fL_wI, fL_wL, aI_sI, aI_sL, aI_wL, aL_sI, aL_sL, aL_wI, fR_sI, fR_sL, fR_wI, fR_wL, aN_sI, aN_sL, aN_wI, aN_wL, ne_eq, Nat.reduceEqDiff, not_false_eq_true]
          by_cases e : p = 0
          · subst e
            refine ⟨i, by omega, by rw [uq_at], ?_⟩
            show rk s v i i + _ = 0
            rw [if_neg lte_rf]; omega
          · rw [uq_ne e, hhi p (by omega) (by omega)]
            obtain ⟨e, e1, e2, e3⟩ := hs (p - 1) (by omega)
            refine ⟨e, by omega, e2, ?_⟩
            have lt : lte s v i e = true := by
              by_cases z : lte s v i e = true
              · exact z
              · have := rk_lt (lte_or (by omega) z) e1; omega
            show rk s v i e + _ = p
            rw [if_pos lt]; omega
        | succ x ihx =>
          intro S2 hx k2 hr hlo hhi
          have l2 := hl.st k2.1.1
          apply hP19
          intro K hK
          rw [if_neg (by rw [show (0 : Int32) = nI 0 from rfl, nI_le_iff (by omega) (by omega)]; omega)]
          rw [nI_pr (by omega), Nat.add_sub_cancel]
          refine ⟨_, l2.f78, by rw [l2.n35]; exact vp_in_nI (by omega) (by omega), ?_⟩
          obtain ⟨e, e1, e2, e3⟩ := hs x (by omega)
          have o2 : aI S2 35 (A 35) x = nI e := by rw [hlo x (by omega)]; exact e2
          rw [nI_clamp (by omega), o2]
          have hk2 : Evk S2 A E s v := fun q hq => by
            rw [(k2.1.2.2 29 rfl).2, (k2.1.2.2 28 rfl).1]; exact hk q hq
          refine s_later l2 (by rw [(k2.1.2.1 70 rfl).1]; exact h70) hE hk2 (by omega) (by omega) e1 (fun lt => ?_) (fun nlt => ?_)
          · rw [if_neg (by decide)]
            refine ⟨_, l2.f78, _, l2.f78, by rw [l2.n35]; exact vp_in_nI (by omega) (by omega), by rw [l2.n35]; exact vp_in_nI (by omega) (by omega), ?_⟩
            rintro _ rfl _ rfl
            have cx : (nI x).toNatClampNeg = x := nI_clamp (by omega)
            have cx1 : (nI (x + 1)).toNatClampNeg = x + 1 := nI_clamp (by omega)
            rw [nI_dn, cx1]
            try rw [cx]
            rw [o2]
            refine ihx _ (by omega) k2.w (by have := rk_le (s := s) (v := v) (i := i) lt; omega) (fun p hp => ?_) (fun p p1 p2 => ?_)
            · simp only [fI_s, fI_sn, fL_s, fL_sn, aI_w, aI_wn, aL_w, aL_wn, fI_sL, fI_wI, fI_wL, fL_sI, fL_wI, fL_wL, aI_sI, aI_sL, aI_wL, aL_sI, aL_sL, aL_wI, fR_sI, fR_sL, fR_wI, fR_wL, aN_sI, aN_sL, aN_wI, aN_wL, ne_eq, Nat.reduceEqDiff, not_false_eq_true]; rw [uq_ne (by omega)]; exact hlo p (by omega)
            · simp only [fI_s, fI_sn, fL_s, fL_sn, aI_w, aI_wn, aL_w, aL_wn, fI_sL, fI_wI, fI_wL, fL_sI, fL_wI, fL_wL, aI_sI, aI_sL, aI_wL, aL_sI, aL_sL, aL_wI, fR_sI, fR_sL, fR_wI, fR_wL, aN_sI, aN_sL, aN_wI, aN_wL, ne_eq, Nat.reduceEqDiff, not_false_eq_true]
              by_cases z : p = x + 1
              · rw [z, uq_at, Nat.add_sub_cancel]; exact e2.symm
              · rw [uq_ne z]; exact hhi p (by omega) p2
          · rw [if_pos rfl]
            apply hK
            refine ⟨_, l2.f78, by rw [l2.n35]; exact vp_in_nI (by omega) (by omega), ?_⟩
            rintro _ rfl _ rfl
            have er : rk s v i i = x + 1 := by have := rk_lt (lte_or (by omega) nlt) e1; omega
            rw [nI_1, nI_clamp (by omega)]
            refine ih (i + 1) _ (by omega) k2.w (fun p hp => ?_)
            simp only [fI_s, fI_sn, fL_s, fL_sn, aI_w, aI_wn, aL_w, aL_wn, fI_sL, fI_wI, fI_wL, fL_sI, fL_wI, fL_wL, aI_sI, aI_sL, aI_wL, aL_sI, aL_sL, aL_wI, fR_sI, fR_sL, fR_wI, fR_wL, aN_sI, aN_sL, aN_wI, aN_wL, ne_eq, Nat.reduceEqDiff, not_false_eq_true]
            by_cases z : p = x + 1
            · subst z
              refine ⟨i, by omega, by rw [uq_at], ?_⟩
              show rk s v i i + _ = _
              rw [if_neg lte_rf]; omega
            · rw [uq_ne z]
              rcases Nat.lt_or_ge p (x + 1) with y | y
              · rw [hlo p y]
                obtain ⟨w, w1, w2, w3⟩ := hs p (by omega)
                refine ⟨w, by omega, w2, ?_⟩
                have nl : ¬ lte s v i w = true := fun q => by have := rk_le (s := s) (v := v) (i := i) q; omega
                show rk s v i w + _ = p
                rw [if_neg nl]; omega
              · rw [hhi p (by omega) (by omega)]
                obtain ⟨w, w1, w2, w3⟩ := hs (p - 1) (by omega)
                refine ⟨w, by omega, w2, ?_⟩
                have lt : lte s v i w = true := by
                  by_cases q : lte s v i w = true
                  · exact q
                  · have := rk_lt (lte_or (by omega) q) w1; omega
                show rk s v i w + _ = p
                rw [if_pos lt]; omega
      exact inn i S1 (Nat.le_refl i) ks (rk_bd) (fun _ _ => rfl) (fun p p1 p2 => by omega)
  exact key E 0 S (by omega) K35.rf (fun p hp => by omega)
end
