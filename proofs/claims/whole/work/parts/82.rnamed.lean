/-! The reference: a named music, a use. -/
section
variable {S : PS} {A : Nat → Nat} {B : Nat → Int32} {n p T : Nat} {Q : PS → Prop}
def nam (B : Nat → Int32) (c : Nat → Int32) (nd : Nat) (inm : Bool) (p : Nat) : Except (Nat × Nat) (List (Nat × Nat) × Nat) := if inm = true then .error (1, p) else if nd = 20 then .error (5, p) else if isLet (B (bl B (p + 1))) = true then nms B c nd 6 [] (bl B (p + 1)) else .error (1, bl B (p + 1))
theorem nam_kd {c : Nat → Int32} {nd : Nat} {inm : Bool} {e : Nat × Nat} (h : nam B c nd inm p = .error e) : Kd e := by
  unfold nam at h
  split at h
  · injection h with h; rw [← h]; exact kdm (by decide) (by decide)
  split at h
  · injection h with h; rw [← h]; exact kdm (by decide) (by decide)
  split at h
  · exact nms_kd _ _ _ _ h
  · injection h with h; rw [← h]; exact kdm (by decide) (by decide)
def jNm (j : Nat) : Bool := decide (101 ≤ j ∧ j ≤ 103 ∨ j = 126 ∨ j = 129)
def rNm (r : Nat) : Bool := decide (r = 42 ∨ r = 59 ∨ r = 60)
def KNm (S S1 : PS) : Prop := Keep jNm rNm S S1
theorem KNm.m {S1 : PS} (h : KNm S S1) : KM S S1 := h.mono (fun j => by unfold jM jNm; simp only [decide_eq_false_iff_not]; omega) (fun r => by unfold rM rNm; simp only [decide_eq_false_iff_not]; omega)
theorem KNn.nm {S1 : PS} (h : KNn S S1) : KNm S S1 := h.mono (fun j => by unfold jNn jNm; simp only [decide_eq_false_iff_not]; omega) (fun r => by unfold rNn rNm; simp only [decide_eq_false_iff_not]; omega)
theorem KR.nm {S1 : PS} (h : KR S S1) : KNm S S1 := h.nn.nm
theorem r_named {c : Nat → Int32} {nd : Nat} {inm : Bool} (h : RT S A B n) (hf : fI S 102 (A 9) = 0) (hp : fI S 101 (A 9) = nI (p + 1)) (hlt : p < n) (hx : T < 3100) (hpl : aI S 43 (A 43) T = nI p) (hi : fI S 126 (A 9) = mI inm) (hd : fI S 125 (A 9) = nI nd) (hb : nd ≤ 20) (ht : ∀ k, k < nd → Nt B n (aI S 55 (A 55)) (aI S 56 (A 56)) c k)
    (h1 : ∀ l q S1, nam B c nd inm p = .ok (l, q) → KNm S S1 → fI S1 101 (A 9) = nI q → fI S1 102 (A 9) = 0 → fI S1 126 (A 9) = 1 → fI S1 129 (A 9) = nI (l.length - 1) → aI S1 42 (A 42) = uq (aI S 42 (A 42)) T 9 → Qs S1 A l → wp_X12_openBlock (A 9) 3 (nI T) S1 Q)
    (h0 : ∀ e S1, nam B c nd inm p = .error e → Kd e → RFM S S1 A e → Q S1) : wp_X12_namedAt (A 9) (nI T) S Q := by
  have hB := h.2.2.1
  have hn := hB.1
  unfold wp_X12_namedAt
  refine ⟨_, h.1.f105, by rw [h.1.n42]; exact vp_in_nI hx (by omega), ?_⟩
  rw [nI_clamp (by omega)]
  rintro _ rfl
  intro K hK
  have k2 : KNm S (wI S 42 (A 42) T 9) := Keep.rf.wI rfl
  have h2 : RT (wI S 42 (A 42) T 9) A B n := h.km k2.m
  have err : ∀ e S1, nam B c nd inm p = .error e → RFM S S1 A e → K S1 := by
    intro e S1 y1 y2
    apply hK
    rw [if_neg (by rw [y2.2.1]; exact (nam_kd y1).nle)]
    exact h0 e S1 y1 (nam_kd y1) y2
  rw [fI_wI, hi]
  cases inm with
  | true =>
    rw [if_neg (by decide)]
    refine ⟨_, h2.1.f106, by rw [h2.1.n43]; exact vp_in_nI hx (by omega), ?_⟩
    rw [aI_wn _ _ _ _ _ _ (by decide), hpl]
    exact r_bad (k := 1) hf (fun S1 c1 => err _ S1 rfl (RFM.of k2.m c1.m))
  | false =>
    rw [if_pos (by decide), hd]
    by_cases c20 : nd = 20
    · rw [if_pos (by rw [c20]; rfl)]
      refine ⟨_, h2.1.f106, by rw [h2.1.n43]; exact vp_in_nI hx (by omega), ?_⟩
      rw [aI_wn _ _ _ _ _ _ (by decide), hpl]
      exact r_bad (k := 5) hf (fun S1 c1 => err _ S1 (by unfold nam; rw [if_neg (by decide), if_pos c20]) (RFM.of k2.m c1.m))
    · rw [if_neg (ceq_no 20 (by rfl) c20 (by omega) (by omega))]
      have hnam : nam B c nd false p = if isLet (B (bl B (p + 1))) = true then nms B c nd 6 [] (bl B (p + 1)) else .error (1, bl B (p + 1)) := by unfold nam; rw [if_neg (by decide), if_neg c20]
      apply hK
      rw [fI_wI, hf, if_pos (by decide)]
      have hbn := bl_le hB hlt
      refine r_blanks h2 hp hlt ?_
      refine r_here h2.pos fI_at hbn ?_
      refine r_isLet (fun hl => ?_) (fun hl => ?_)
      · rw [if_neg (by decide)]
        rw [if_pos hl] at hnam
        intro P hP
        have errP : ∀ v e S1, nam B c nd false p = .error e → RFM S S1 A e → P v 0 S1 := by
          intro v e S1 y1 y2
          apply hP
          rw [if_pos rfl, if_neg (by rw [y2.2.1]; exact (nam_kd y1).nle)]
          exact h0 e S1 y1 (nam_kd y1) y2
        have key : ∀ k qs q S1, qs.length + k = 6 → k ≤ 6 → isLet (B q) = true → (∀ w, w ∈ qs → Wn B n w) → KNm S S1 → fI S1 101 (A 9) = nI q → fI S1 102 (A 9) = 0 → aI S1 42 (A 42) = uq (aI S 42 (A 42)) T 9 → Qs S1 A qs → nms B c nd k qs q = nam B c nd false p → fI S1 125 = fI S 125 → qs.length ≤ 5 → P (nI qs.length) 1 S1 := by
          intro k
          induction k with
          | zero => intro qs q S1 a1 a2 a3 a4 a5 a6 a7 a8 a9 b1 b2 b3; omega
          | succ k ih =>
            intro qs q S1 a1 a2 a3 a4 a5 a6 a7 a8 a9 b1 b2 b3
            have h3 := h.km a5.m
            apply hP
            rw [if_neg (by decide)]
            rw [nms] at b1
            refine r_newName h3 a7 a6 a3 (by rw [b2]; exact hd) hb (by rw [(a5.2.2 55 rfl).1, (a5.2.2 56 rfl).1]; exact ht) a9 a4 (by omega) (fun y S4 c4 => ?_) (fun y1 y2 S4 c4 => ?_) (fun y1 y2 S4 k4 f4 g4 q4 => ?_)
            all_goals
              rintro _ rfl
              rw [nI_1]
              intro K2 hK2
            · rw [if_pos y] at b1
              rw [if_neg (by rw [c4.2.1]; exact nI_ne0 (by show 0 < 4; omega) (by show 4 < _; omega))]
              apply hK2
              intro K3 hK3
              rw [if_neg (by rw [c4.2.1]; exact nI_ne0 (by show 0 < 4; omega) (by show 4 < _; omega))]
              apply hK3
              exact errP _ _ _ b1.symm (RFM.of a5.m c4.m)
            · rw [if_neg y1, if_pos y2] at b1
              rw [if_neg (by rw [c4.2.1]; exact nI_ne0 (by show 0 < 5; omega) (by show 5 < _; omega))]
              apply hK2
              intro K3 hK3
              rw [if_neg (by rw [c4.2.1]; exact nI_ne0 (by show 0 < 5; omega) (by show 5 < _; omega))]
              apply hK3
              exact errP _ _ _ b1.symm (RFM.of a5.m c4.m)
            · rw [if_neg y1, if_neg y2] at b1
              have hlq := isLet_lt hB a3
              have g3 := sc_le (f := isLet) hB (by decide) (Nat.le_of_lt hlq)
              have g4' := sc_ge (f := isLet) (B := B) (p := q + 1)
              have g5 := sc_go a3 (by omega)
              have h4 := h3.knn k4
              have el : qs.length + 1 = (qs ++ [(q, sc isLet B q - q)]).length := by rw [List.length_append, List.length_singleton]
              rw [if_pos g4]
              refine r_blanks h4 f4 g3 ?_
              apply hK2
              intro K3 hK3
              rw [if_pos (fI_at2.trans g4)]
              refine r_here h4.pos fI_at (bl_le hB g3) ?_
              have k5 : KNm S (sI S4 101 (A 9) (nI (bl B (sc isLet B q)))) := a5.tr (k4.nm.tr KR.pos.nm)
              have w42 : aI (sI S4 101 (A 9) (nI (bl B (sc isLet B q)))) 42 (A 42) = uq (aI S 42 (A 42)) T 9 := by rw [aI_sI, (k4.2.2 42 rfl).1]; exact a8
              have wqs : Qs (sI S4 101 (A 9) (nI (bl B (sc isLet B q)))) A (qs ++ [(q, sc isLet B q - q)]) := fun j w hj => by rw [aI_sI]; exact q4 j w hj
              refine r_isLet (fun hl2 => ?_) (fun hl2 => ?_)
              · rw [if_neg (by decide)]
                rw [if_pos hl2] at b1
                apply hK3
                rw [el]
                refine ih _ _ _ (by omega) (by omega) hl2 (fun w m => ?_) k5 fI_at (fI_at2.trans g4) w42 wqs b1 ?_ (by rw [← el]; omega)
                · rcases List.mem_append.mp m with e | e
                  · exact a4 w e
                  · rw [List.mem_singleton.mp e]
                    exact ⟨by show 1 ≤ sc isLet B q - q; omega, by show sc isLet B q - q ≤ 6; omega, by show q + (sc isLet B q - q) ≤ n; omega, sc_let rfl⟩
                · rw [fI_sn _ _ _ _ _ (by decide), (k4.2.1 125 rfl).1]; exact b2
              · rw [if_pos rfl]
                rw [if_neg (by rw [hl2]; decide)] at b1
                apply hK3
                apply hP
                rw [if_pos rfl, fI_at2, g4, if_pos (by decide)]
                rintro _ rfl _ rfl
                rw [nI_pred]
                refine h1 _ _ _ b1.symm (k5.tr ((Keep.rf.sI rfl).sI rfl)) ?_ ?_ ?_ ?_ ?_ ?_
                · simp only [fI_s, fI_sn, fL_s, fL_sn, aI_w, aI_wn, aL_w, aL_wn, fI_sL, fI_wI, fI_wL, fL_sI, fL_wI, fL_wL, aI_sI, aI_sL, aI_wL, aL_sI, aL_sL, aL_wI, fR_sI, fR_sL, fR_wI, fR_wL, aN_sI, aN_sL, aN_wI, aN_wL, ne_eq, Nat.reduceEqDiff, not_false_eq_true]
                · simp only [fI_s, fI_sn, fL_s, fL_sn, aI_w, aI_wn, aL_w, aL_wn, fI_sL, fI_wI, fI_wL, fL_sI, fL_wI, fL_wL, aI_sI, aI_sL, aI_wL, aL_sI, aL_sL, aL_wI, fR_sI, fR_sL, fR_wI, fR_wL, aN_sI, aN_sL, aN_wI, aN_wL, ne_eq, Nat.reduceEqDiff, not_false_eq_true]; exact g4
                · simp only [fI_s, fI_sn, fL_s, fL_sn, aI_w, aI_wn, aL_w, aL_wn, fI_sL, fI_wI, fI_wL, fL_sI, fL_wI, fL_wL, aI_sI, aI_sL, aI_wL, aL_sI, aL_sL, aL_wI, fR_sI, fR_sL, fR_wI, fR_wL, aN_sI, aN_sL, aN_wI, aN_wL, ne_eq, Nat.reduceEqDiff, not_false_eq_true]
                · simp only [fI_s, fI_sn, fL_s, fL_sn, aI_w, aI_wn, aL_w, aL_wn, fI_sL, fI_wI, fI_wL, fL_sI, fL_wI, fL_wL, aI_sI, aI_sL, aI_wL, aL_sI, aL_sL, aL_wI, fR_sI, fR_sL, fR_wI, fR_wL, aN_sI, aN_sL, aN_wI, aN_wL, ne_eq, Nat.reduceEqDiff, not_false_eq_true]; rw [List.length_append, List.length_singleton]; rfl
                · simp only [fI_s, fI_sn, fL_s, fL_sn, aI_w, aI_wn, aL_w, aL_wn, fI_sL, fI_wI, fI_wL, fL_sI, fL_wI, fL_wL, aI_sI, aI_sL, aI_wL, aL_sI, aL_sL, aL_wI, fR_sI, fR_sL, fR_wI, fR_wL, aN_sI, aN_sL, aN_wI, aN_wL, ne_eq, Nat.reduceEqDiff, not_false_eq_true]; rw [aI_sI] at w42; exact w42
                · intro j w hj
                  simp only [fI_s, fI_sn, fL_s, fL_sn, aI_w, aI_wn, aL_w, aL_wn, fI_sL, fI_wI, fI_wL, fL_sI, fL_wI, fL_wL, aI_sI, aI_sL, aI_wL, aL_sI, aL_sL, aL_wI, fR_sI, fR_sL, fR_wI, fR_wL, aN_sI, aN_sL, aN_wI, aN_wL, ne_eq, Nat.reduceEqDiff, not_false_eq_true]
                  exact q4 j w hj
        refine key 6 [] _ _ rfl (by omega) hl (fun w m => by cases m) (k2.tr KR.pos.nm) fI_at (fI_at2.trans hf) ?_ (fun j w hj => by cases hj) hnam.symm ?_ (Nat.zero_le 5)
        · simp only [fI_s, fI_sn, fL_s, fL_sn, aI_w, aI_wn, aL_w, aL_wn, fI_sL, fI_wI, fI_wL, fL_sI, fL_wI, fL_wL, aI_sI, aI_sL, aI_wL, aL_sI, aL_sL, aL_wI, fR_sI, fR_sL, fR_wI, fR_wL, aN_sI, aN_sL, aN_wI, aN_wL, ne_eq, Nat.reduceEqDiff, not_false_eq_true]
        · simp only [fI_s, fI_sn, fL_s, fL_sn, aI_w, aI_wn, aL_w, aL_wn, fI_sL, fI_wI, fI_wL, fL_sI, fL_wI, fL_wL, aI_sI, aI_sL, aI_wL, aL_sI, aL_sL, aL_wI, fR_sI, fR_sL, fR_wI, fR_wL, aN_sI, aN_sL, aN_wI, aN_wL, ne_eq, Nat.reduceEqDiff, not_false_eq_true]
      · rw [if_pos rfl, fI_at]
        rw [if_neg (by rw [hl]; decide)] at hnam
        refine r_bad (k := 1) (fI_at2.trans hf) (fun S1 c1 => ?_)
        exact h0 _ S1 hnam (nam_kd hnam) (RFM.of (KNm.m (Keep.tr k2 (KR.nm KR.pos))) c1.m)
end
