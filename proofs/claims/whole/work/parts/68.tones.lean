/-! A pitch, a chord, a length: both readers. -/
theorem cle_no {c : Int32} {a : Nat} (k : Nat) (hc : c = nI k) (h : a < k) (hk : k < 2 ^ 31) : ¬ c ≤ nI a := by rw [hc]; exact nI_ge h hk
theorem cle_yes {c : Int32} {a : Nat} (k : Nat) (hc : c = nI k) (h : k ≤ a) (hk : a < 2 ^ 31) : c ≤ nI a := by rw [hc]; exact nI_le h hk
theorem lec_no {c : Int32} {a : Nat} (k : Nat) (hc : c = nI k) (h : k < a) (hk : a < 2 ^ 31) : ¬ nI a ≤ c := by rw [hc]; exact nI_ge h hk
theorem lec_yes {c : Int32} {a : Nat} (k : Nat) (hc : c = nI k) (h : a ≤ k) (hk : k < 2 ^ 31) : nI a ≤ c := by rw [hc]; exact nI_le h hk
theorem clt_no {c : Int32} {a : Nat} (k : Nat) (hc : c = nI k) (h : a ≤ k) (hk : k < 2 ^ 31) : ¬ c < nI a := by rw [hc]; exact nI_nlt h hk
theorem clt_yes {c : Int32} {a : Nat} (k : Nat) (hc : c = nI k) (h : k < a) (hk : a < 2 ^ 31) : c < nI a := by rw [hc]; exact nI_lt h hk
theorem ltc_no {c : Int32} {a : Nat} (k : Nat) (hc : c = nI k) (h : k ≤ a) (hk : a < 2 ^ 31) : ¬ nI a < c := by rw [hc]; exact nI_nlt h hk
theorem ltc_yes {c : Int32} {a : Nat} (k : Nat) (hc : c = nI k) (h : a < k) (hk : k < 2 ^ 31) : nI a < c := by rw [hc]; exact nI_lt h hk
theorem ceq_no {c : Int32} {a : Nat} (k : Nat) (hc : c = nI k) (h : a ≠ k) (ha : a < 2 ^ 31) (hk : k < 2 ^ 31) : ¬ nI a = c := by rw [hc, nI_eq ha hk]; exact h
section
variable {S : PS} {A : Nat → Nat} {B : Nat → Int32} {n p : Nat}
theorem r_signs {Q : Int32 → PS → Prop} {c : Int32} {w : Nat} (h : RT S A B n) (hp : fI S 101 (A 9) = nI p) (hpn : p ≤ n) (hc : c ≠ -1) (hw : w < 100) (hQ : Q (nI (mks B c w p)) (sI S 101 (A 9) (nI (p + mks B c w p)))) : wp_X12_signs (A 9) c (nI w) S Q := by
  have hn := h.2.2.1.1
  unfold wp_X12_signs
  intro P hP
  have key : ∀ k i, i + k = w → p + i ≤ n → i + mks B c k (p + i) = mks B c w p → P (nI i) (sI S 101 (A 9) (nI (p + i))) := by
    intro k
    induction k with
    | zero =>
      intro i hi h1 h2
      apply hP
      rw [if_pos (nI_le (by omega) (by omega))]
      rw [mks, Nat.add_zero] at h2; rw [← h2] at hQ; exact hQ
    | succ k ih =>
      intro i hi h1 h2
      apply hP
      rw [if_neg (nI_ge (by omega) (by omega))]
      refine r_isHere h.pos fI_at h1 (fun he => ?_) (fun he => ?_)
      · rw [if_neg (by decide)]
        rintro _ rfl _ rfl
        rw [fI_at, nI_1, nI_1, sI_sI]
        rw [mks, if_pos he] at h2
        have h3 := h.2.2.1.lt he hc
        exact ih (i + 1) (by omega) (by omega) (by rw [← h2]; have : p + (i + 1) = p + i + 1 := by omega
                                                   rw [this]; omega)
      · rw [if_pos rfl]
        rw [mks, if_neg he, Nat.add_zero] at h2; rw [← h2] at hQ; exact hQ
  have := key w 0 (by omega) (by omega) (by rw [Nat.add_zero]; omega)
  rw [Nat.add_zero, sI_self hp] at this
  exact this
def pLet (c : Int32) : Int32 := ((c - 99) + 7) - ((c - 99) + 7) / 7 * 7
theorem isTon_iff {c : Int32} : isTon c = true ↔ 97 ≤ c.toInt ∧ c.toInt ≤ 103 := by
  unfold isTon; rw [decide_eq_true_iff, Int32.le_iff_toInt_le, Int32.le_iff_toInt_le]; exact Iff.rfl
theorem isTon_of {c : Int32} (h : isTon c = true) : c = 97 ∨ c = 98 ∨ c = 99 ∨ c = 100 ∨ c = 101 ∨ c = 102 ∨ c = 103 := by
  rw [isTon_iff] at h
  simp only [← Int32.toInt_inj]
  show c.toInt = 97 ∨ c.toInt = 98 ∨ c.toInt = 99 ∨ c.toInt = 100 ∨ c.toInt = 101 ∨ c.toInt = 102 ∨ c.toInt = 103
  omega
theorem pLet_c {c : Int32} (h : isTon c = true) : ((c - 97) + 5) - ((c - 97) + 5) / 7 * 7 = pLet c := by
  rcases isTon_of h with rfl | rfl | rfl | rfl | rfl | rfl | rfl <;> decide
theorem s_isTone {Q : Int32 → PS → Prop} {c : Int32} (h1 : isTon c = true → Q 1 S) (h0 : isTon c = false → Q 0 S) : wp_X7_isPitchLetter c S Q := by
  unfold wp_X7_isPitchLetter
  have e1 : (97 : Int32).toInt = 97 := by decide
  have e2 : (103 : Int32).toInt = 103 := by decide
  by_cases h : isTon c = true
  · have h2 := isTon_iff.mp h
    rw [if_neg, if_neg]
    · exact h1 h
    · rw [Int32.lt_iff_toInt_lt]; omega
    · rw [Int32.lt_iff_toInt_lt]; omega
  · have h3 := h0 (Bool.eq_false_iff.mpr h)
    rw [isTon_iff] at h
    by_cases e : c < 97
    · rw [if_pos e]; exact h3
    · rw [if_neg e, if_pos]; exact h3
      rw [Int32.lt_iff_toInt_lt] at e ⊢
      omega
theorem r_isTone {Q : Int32 → PS → Prop} {c : Int32} (h1 : isTon c = true → Q 1 S) (h0 : isTon c = false → Q 0 S) : wp_X12_isTone c S Q := s_isTone h1 h0
theorem isTon_lt (hB : Tx B n) (h : isTon (B p) = true) : p < n := by
  rcases Nat.lt_or_ge p n with q | q
  · exact q
  · rw [hB.2.1 p q] at h; cases h
def mkV (B : Nat → Int32) (c1 c2 : Int32) (w p : Nat) : Int32 := if B p = c1 then nI (mks B c1 w p) else -nI (mks B c2 w p)
def mkE (B : Nat → Int32) (c1 c2 : Int32) (w p : Nat) : Nat := if B p = c1 then p + mks B c1 w p else p + mks B c2 w p
theorem mkE_le {c1 c2 : Int32} {w : Nat} (hB : Tx B n) (h1 : c1 ≠ -1) (h2 : c2 ≠ -1) (hp : p ≤ n) : p ≤ mkE B c1 c2 w p ∧ mkE B c1 c2 w p ≤ n := by
  unfold mkE
  have a := mks_n hB h1 w p hp
  have b := mks_n hB h2 w p hp
  split <;> omega
def pA (B : Nat → Int32) (p : Nat) : Int32 := mkV B 43 45 2 (p + 1)
def pO (B : Nat → Int32) (p : Nat) : Int32 := mkV B 39 44 9 (mkE B 43 45 2 (p + 1))
def pE (B : Nat → Int32) (p : Nat) : Nat := mkE B 39 44 9 (mkE B 43 45 2 (p + 1))
theorem pE_le (hB : Tx B n) (hp : p < n) : p + 1 ≤ pE B p ∧ pE B p ≤ n := by
  have a := mkE_le (c1 := 43) (c2 := 45) (w := 2) (p := p + 1) hB (by decide) (by decide) hp
  have b := mkE_le (c1 := 39) (c2 := 44) (w := 9) hB (by decide) (by decide) a.2
  unfold pE; omega
def wco (l a s : Int32) : Int32 := ((((s + 9) * 5) + a) + 2) * 7 + l
def pco (B : Nat → Int32) (p : Nat) : Int32 := wco (pLet (B p)) (pA B p) (pO B p)
theorem nI_eq0 {k : Nat} (hk : k < 2 ^ 31) : nI k = 0 ↔ k = 0 := nI_eq hk (by decide)
/-- marks of the one kind or of the other -/
theorem s_mk {K : Int32 → PS → Prop} {c1 c2 : Int32} {w : Nat} (h : CT S A B n) (hpn : p ≤ n) (hc : c2 ≠ -1) (hw : w < 99)
    (hK : K (mkV B c1 c2 (w + 1) p) (sI S 60 (A 6) (nI (mkE B c1 c2 (w + 1) p)))) :
    if nI (mks B c1 (w + 1) p) = 0 then wp_X7_marks (A 6) c2 (nI (w + 1)) (sI S 60 (A 6) (nI (p + mks B c1 (w + 1) p))) (fun r s => ∀ v, v = -r → K v s) else K (nI (mks B c1 (w + 1) p)) (sI S 60 (A 6) (nI (p + mks B c1 (w + 1) p))) := by
  have hm := mks_le (B := B) (c := c1) (w + 1) p
  by_cases e : B p = c1
  · rw [if_neg (by rw [nI_eq0 (by omega)]; exact mks_pos e)]
    unfold mkV mkE at hK
    rw [if_pos e, if_pos e] at hK; exact hK
  · rw [if_pos (by rw [mks_0 e]; rfl), mks_0 e, Nat.add_zero]
    refine s_marks h.pos fI_pos hpn hc (by omega) ?_
    rintro _ rfl
    unfold mkV mkE at hK
    rw [if_neg e, if_neg e] at hK
    rw [sI_sI]; exact hK
def jP (j : Nat) : Bool := decide (j = 0 ∨ j = 1 ∨ j = 60 ∨ j = 53 ∨ (65 ≤ j ∧ j ≤ 68))
def rP (r : Nat) : Bool := decide (r = 22)
def KP (S S1 : PS) : Prop := Keep jP rP S S1
theorem KL.toP {S1 : PS} (h : KL S S1) : KP S S1 := h.mono (fun j => by unfold jP jL; simp only [decide_eq_false_iff_not]; omega) (fun _ _ => rfl)
theorem CT.kp {S1 : PS} (h : CT S A B n) (g : KP S S1) : CT S1 A B n := h.keep g rfl rfl
/-- a fault is told, and parts may be there -/
def CFP (S S1 : PS) (A : Nat → Nat) (e : Nat × Nat) : Prop := KP S S1 ∧ fI S1 0 (A 0) = nI e.1 ∧ fI S1 1 (A 0) = nI e.2
theorem CF.toP {S1 : PS} {e : Nat × Nat} (h : CF S S1 A e) : CFP S S1 A e := ⟨h.1.toP, h.2⟩
theorem CFP.of {S1 S2 : PS} {e : Nat × Nat} (g : KP S S1) (h : CFP S1 S2 A e) : CFP S S2 A e := ⟨g.tr h.1, h.2⟩
theorem s_addPart {Q : PS → Prop} {pc : Nat} {v : Int32} (h : CT S A B n) (hc : fI S 53 (A 5) = nI pc) (hpc : pc < 1500)
    (hQ : Q (sI (wI S 22 (A 22) pc v) 53 (A 5) (nI (pc + 1)))) : wp_X6_addPart (A 5) v S Q := by
  unfold wp_X6_addPart
  rw [hc, if_neg (cle_no 1500 (by rfl) hpc (by omega))]
  refine ⟨_, h.1.f52, ?_, ?_⟩
  · rw [h.1.n22]; exact vp_in_nI hpc (by omega)
  · rw [nI_clamp (by omega)]
    rintro _ rfl _ rfl
    rw [fI_wI, hc, nI_1]; exact hQ
theorem s_written {Q : Int32 → PS → Prop} {pc : Nat} (h : CT S A B n) (hp : fI S 60 (A 6) = nI p) (hpn : p ≤ n) (hc : fI S 53 (A 5) = nI pc) (hpc : pc ≤ p)
    (h1 : isTon (B p) = true → ∀ S1, KP S S1 → fI S1 60 (A 6) = nI (pE B p) → fI S1 53 (A 5) = nI (pc + 1) → aI S1 22 (A 22) = uq (aI S 22 (A 22)) pc (pco B p) → Q 1 S1)
    (h0 : isTon (B p) = false → ∀ S1, CF S S1 A (1, p) → Q 0 S1) : wp_X7_written (A 6) S Q := by
  have hn := h.2.2.1.1
  unfold wp_X7_written
  refine s_next h hp hpn ?_
  refine s_isTone (fun ht => ?_) (fun ht => ?_)
  · rw [if_neg (by decide)]
    have hlt := isTon_lt h.2.2.1 ht
    rintro _ rfl
    rw [hp, nI_1]
    refine s_marks (w := 2) h.pos fI_pos hlt (by decide) (by omega) ?_
    rw [sI_sI]
    intro K hK
    have hE := mkE_le (c1 := 43) (c2 := 45) (w := 2) (p := p + 1) h.2.2.1 (by decide) (by decide) hlt
    refine s_mk (w := 1) (c1 := 43) (c2 := 45) h hlt (by decide) (by omega) ?_
    apply hK
    refine s_marks (w := 9) h.pos fI_pos hE.2 (by decide) (by omega) ?_
    rw [sI_sI]
    intro K2 hK2
    refine s_mk (w := 8) (c1 := 39) (c2 := 44) h hE.2 (by decide) (by omega) ?_
    apply hK2
    rintro _ rfl
    rw [pLet_c ht]
    refine ⟨_, h.pos.1.f58, ?_⟩
    unfold wp_X10_make
    refine s_addPart h.pos (by rw [fI_sn _ _ _ _ _ (by decide)]; exact hc) (by omega) ?_
    refine h1 ht _ (((Keep.rf.sI rfl).wI rfl).sI rfl) ?_ ?_ ?_
    · simp only [fI_s, fI_sn, fL_s, fL_sn, aI_w, aI_wn, aL_w, aL_wn, fI_sL, fI_wI, fI_wL, fL_sI, fL_wI, fL_wL, aI_sI, aI_sL, aI_wL, aL_sI, aL_sL, aL_wI, fR_sI, fR_sL, fR_wI, fR_wL, aN_sI, aN_sL, aN_wI, aN_wL, ne_eq, Nat.reduceEqDiff, not_false_eq_true]; rfl
    · simp only [fI_s, fI_sn, fL_s, fL_sn, aI_w, aI_wn, aL_w, aL_wn, fI_sL, fI_wI, fI_wL, fL_sI, fL_wI, fL_wL, aI_sI, aI_sL, aI_wL, aL_sI, aL_sL, aL_wI, fR_sI, fR_sL, fR_wI, fR_wL, aN_sI, aN_sL, aN_wI, aN_wL, ne_eq, Nat.reduceEqDiff, not_false_eq_true]
    · simp only [fI_s, fI_sn, fL_s, fL_sn, aI_w, aI_wn, aL_w, aL_wn, fI_sL, fI_wI, fI_wL, fL_sI, fL_wI, fL_wL, aI_sI, aI_sL, aI_wL, aL_sI, aL_sL, aL_wI, fR_sI, fR_sL, fR_wI, fR_wL, aN_sI, aN_sL, aN_wI, aN_wL, ne_eq, Nat.reduceEqDiff, not_false_eq_true]; rfl
  · rw [if_pos rfl]
    exact s_refuse h hp (h0 ht)
/-- marks, the reference -/
theorem r_mk {K : Int32 → PS → Prop} {c1 c2 : Int32} {w : Nat} {r : Int32} (h : RT S A B n) (hp : fI S 101 (A 9) = nI p) (hpn : p ≤ n) (hc1 : c1 ≠ -1) (hc : c2 ≠ -1) (hw : w < 99)
    (hK : K (mkV B c1 c2 (w + 1) p) (sI S 101 (A 9) (nI (mkE B c1 c2 (w + 1) p)))) :
    wp_X12_isHere (A 9) c1 S (fun r s => if r = 0 then wp_X12_signs (A 9) c2 (nI (w + 1)) s (fun r s => K (-r) s) else wp_X12_signs (A 9) c1 (nI (w + 1)) s (fun r s => K r s)) := by
  unfold mkV mkE at hK
  refine r_isHere h hp hpn (fun e => ?_) (fun e => ?_)
  · rw [if_neg (by decide)]
    rw [if_pos e, if_pos e] at hK
    exact r_signs h hp hpn hc1 (by omega) hK
  · rw [if_pos rfl]
    rw [if_neg e, if_neg e] at hK
    exact r_signs h hp hpn hc (by omega) hK
def jW (j : Nat) : Bool := decide (101 ≤ j ∧ j ≤ 103 ∨ j = 117)
def rW (r : Nat) : Bool := decide (50 ≤ r ∧ r ≤ 52)
def KW (S S1 : PS) : Prop := Keep jW rW S S1
theorem KR.w {S1 : PS} (h : KR S S1) : KW S S1 := h.mono (fun j => by unfold jW jR; simp only [decide_eq_false_iff_not]; omega) (fun _ _ => rfl)
theorem KW.m {S1 : PS} (h : KW S S1) : KM S S1 := h.mono (fun j => by unfold jM jW; simp only [decide_eq_false_iff_not]; omega) (fun r => by unfold rM rW; simp only [decide_eq_false_iff_not]; omega)
theorem RT.kw {S1 : PS} (h : RT S A B n) (g : KW S S1) : RT S1 A B n := h.keep g rfl rfl
theorem r_pitchAt {Q : PS → Prop} {wr : Nat} (h : RT S A B n) (hp : fI S 101 (A 9) = nI p) (hlt : p < n) (hw : fI S 117 (A 9) = nI wr) (hwr : wr < 1500)
    (hQ : ∀ S1, KW S S1 → fI S1 101 (A 9) = nI (pE B p) → fI S1 102 (A 9) = fI S 102 (A 9) → fI S1 117 (A 9) = nI (wr + 1) → aI S1 50 (A 50) = uq (aI S 50 (A 50)) wr (pLet (B p)) → aI S1 51 (A 51) = uq (aI S 51 (A 51)) wr (pA B p) → aI S1 52 (A 52) = uq (aI S 52 (A 52)) wr (pO B p) → Q S1) : wp_X12_pitchAt (A 9) S Q := by
  have hn := h.2.2.1.1
  unfold wp_X12_pitchAt
  refine ⟨_, h.1.f114, ?_⟩
  refine r_here h hp (by omega) ?_
  rw [hw, h.1.n50]
  refine ⟨vp_in_nI hwr (by omega), ?_⟩
  have eL : B p - 99 + 7 - (B p - 99 + 7) / 7 * 7 = pLet (B p) := rfl
  rw [nI_clamp (by omega), eL]
  rintro _ rfl _ rfl
  rw [fI_wI, hp, nI_1]
  have h1 : RT (sI (wI S 50 (A 50) wr (pLet (B p))) 101 (A 9) (nI (p + 1))) A B n := h.kw ((Keep.rf.wI rfl).sI rfl)
  refine ⟨_, h1.1.f115, ?_⟩
  have hE := mkE_le (c1 := 43) (c2 := 45) (w := 2) (p := p + 1) h.2.2.1 (by decide) (by decide) hlt
  have hw1 : fI (sI (wI S 50 (A 50) wr (pLet (B p))) 101 (A 9) (nI (p + 1))) 117 (A 9) = nI wr := by simp only [fI_s, fI_sn, fL_s, fL_sn, aI_w, aI_wn, aL_w, aL_wn, fI_sL, fI_wI, fI_wL, fL_sI, fL_wI, fL_wL, aI_sI, aI_sL, aI_wL, aL_sI, aL_sL, aL_wI, fR_sI, fR_sL, fR_wI, fR_wL, aN_sI, aN_sL, aN_wI, aN_wL, ne_eq, Nat.reduceEqDiff, not_false_eq_true]; exact hw
  rw [hw1]
  refine r_isHere h1 fI_at hlt (fun e => ?_) (fun e => ?_)
  all_goals
    intro K hK
    have hk : K (A 51) (nI wr) (pA B p) (sI (wI S 50 (A 50) wr (pLet (B p))) 101 (A 9) (nI (mkE B 43 45 2 (p + 1)))) := by
      apply hK
      have h2 : RT (sI (wI S 50 (A 50) wr (pLet (B p))) 101 (A 9) (nI (mkE B 43 45 2 (p + 1)))) A B n := h.kw ((Keep.rf.wI rfl).sI rfl)
      rw [h2.1.n51]
      refine ⟨vp_in_nI hwr (by omega), ?_⟩
      rw [nI_clamp (by omega)]
      rintro _ rfl
      have h3 : RT (wI (sI (wI S 50 (A 50) wr (pLet (B p))) 101 (A 9) (nI (mkE B 43 45 2 (p + 1)))) 51 (A 51) wr (pA B p)) A B n := h.kw (((Keep.rf.wI rfl).sI rfl).wI rfl)
      refine ⟨_, h3.1.f116, ?_⟩
      have hw2 : fI (wI (sI (wI S 50 (A 50) wr (pLet (B p))) 101 (A 9) (nI (mkE B 43 45 2 (p + 1)))) 51 (A 51) wr (pA B p)) 117 (A 9) = nI wr := by simp only [fI_s, fI_sn, fL_s, fL_sn, aI_w, aI_wn, aL_w, aL_wn, fI_sL, fI_wI, fI_wL, fL_sI, fL_wI, fL_wL, aI_sI, aI_sL, aI_wL, aL_sI, aL_sL, aL_wI, fR_sI, fR_sL, fR_wI, fR_wL, aN_sI, aN_sL, aN_wI, aN_wL, ne_eq, Nat.reduceEqDiff, not_false_eq_true]; exact hw
      rw [hw2]
      refine r_isHere h3 (by simp only [fI_s, fI_sn, fL_s, fL_sn, aI_w, aI_wn, aL_w, aL_wn, fI_sL, fI_wI, fI_wL, fL_sI, fL_wI, fL_wL, aI_sI, aI_sL, aI_wL, aL_sI, aL_sL, aL_wI, fR_sI, fR_sL, fR_wI, fR_wL, aN_sI, aN_sL, aN_wI, aN_wL, ne_eq, Nat.reduceEqDiff, not_false_eq_true]) hE.2 (fun e => ?_) (fun e => ?_)
      all_goals
        intro K2 hK2
        have hk2 : K2 (A 52) (nI wr) (pO B p) (sI (wI (sI (wI S 50 (A 50) wr (pLet (B p))) 101 (A 9) (nI (mkE B 43 45 2 (p + 1)))) 51 (A 51) wr (pA B p)) 101 (A 9) (nI (pE B p))) := by
          apply hK2
          rw [h3.pos.1.n52]
          refine ⟨vp_in_nI hwr (by omega), ?_⟩
          rw [nI_clamp (by omega)]
          rintro _ rfl _ rfl
          have hw3 : fI (wI (sI (wI (sI (wI S 50 (A 50) wr (pLet (B p))) 101 (A 9) (nI (mkE B 43 45 2 (p + 1)))) 51 (A 51) wr (pA B p)) 101 (A 9) (nI (pE B p))) 52 (A 52) wr (pO B p)) 117 (A 9) = nI wr := by simp only [fI_s, fI_sn, fL_s, fL_sn, aI_w, aI_wn, aL_w, aL_wn, fI_sL, fI_wI, fI_wL, fL_sI, fL_wI, fL_wL, aI_sI, aI_sL, aI_wL, aL_sI, aL_sL, aL_wI, fR_sI, fR_sL, fR_wI, fR_wL, aN_sI, aN_sL, aN_wI, aN_wL, ne_eq, Nat.reduceEqDiff, not_false_eq_true]; exact hw
          rw [hw3, nI_1]
          refine hQ _ ((((((Keep.rf.wI rfl).sI rfl).wI rfl).sI rfl).wI rfl).sI rfl) ?_ ?_ ?_ ?_ ?_ ?_
          all_goals simp only [fI_s, fI_sn, fL_s, fL_sn, aI_w, aI_wn, aL_w, aL_wn, fI_sL, fI_wI, fI_wL, fL_sI, fL_wI, fL_wL, aI_sI, aI_sL, aI_wL, aL_sI, aL_sL, aL_wI, fR_sI, fR_sL, fR_wI, fR_wL, aN_sI, aN_sL, aN_wI, aN_wL, ne_eq, Nat.reduceEqDiff, not_false_eq_true]
        first
        | (have eV : pO B p = nI (mks B 39 9 (mkE B 43 45 2 (p + 1))) := if_pos e
           have eE : pE B p = mkE B 43 45 2 (p + 1) + mks B 39 9 (mkE B 43 45 2 (p + 1)) := if_pos e
           rw [eV, eE] at hk2
           rw [if_neg (by decide)]
           exact r_signs (w := 9) h3 (by simp only [fI_s, fI_sn, fL_s, fL_sn, aI_w, aI_wn, aL_w, aL_wn, fI_sL, fI_wI, fI_wL, fL_sI, fL_wI, fL_wL, aI_sI, aI_sL, aI_wL, aL_sI, aL_sL, aL_wI, fR_sI, fR_sL, fR_wI, fR_wL, aN_sI, aN_sL, aN_wI, aN_wL, ne_eq, Nat.reduceEqDiff, not_false_eq_true]) hE.2 (by decide) (by omega) hk2)
        | (have eV : pO B p = -nI (mks B 44 9 (mkE B 43 45 2 (p + 1))) := if_neg e
           have eE : pE B p = mkE B 43 45 2 (p + 1) + mks B 44 9 (mkE B 43 45 2 (p + 1)) := if_neg e
           rw [eV, eE] at hk2
           rw [if_pos rfl]
           exact r_signs (w := 9) h3 (by simp only [fI_s, fI_sn, fL_s, fL_sn, aI_w, aI_wn, aL_w, aL_wn, fI_sL, fI_wI, fI_wL, fL_sI, fL_wI, fL_wL, aI_sI, aI_sL, aI_wL, aL_sI, aL_sL, aL_wI, fR_sI, fR_sL, fR_wI, fR_wL, aN_sI, aN_sL, aN_wI, aN_wL, ne_eq, Nat.reduceEqDiff, not_false_eq_true]) hE.2 (by decide) (by omega) hk2)
    first
    | (have eV : pA B p = nI (mks B 43 2 (p + 1)) := if_pos e
       have eE : mkE B 43 45 2 (p + 1) = p + 1 + mks B 43 2 (p + 1) := if_pos e
       rw [eV, eE] at hk
       rw [if_neg (by decide)]
       refine r_signs (w := 2) h1 fI_at hlt (by decide) (by omega) ?_
       rw [sI_sI]; exact hk)
    | (have eV : pA B p = -nI (mks B 45 2 (p + 1)) := if_neg e
       have eE : mkE B 43 45 2 (p + 1) = p + 1 + mks B 45 2 (p + 1) := if_neg e
       rw [eV, eE] at hk
       rw [if_pos rfl]
       refine r_signs (w := 2) h1 fI_at hlt (by decide) (by omega) ?_
       rw [sI_sI]; exact hk)
end
