/-! Lengths and tones: the reference. -/
section
variable {S : PS} {A : Nat → Nat} {B : Nat → Int32} {n p T : Nat}
theorem r_isHalved {Q : Int32 → PS → Prop} {v m : Nat} (hv : v < 1000) (hm : m = 32 ∨ m = 64) (h1 : pw2 m v = true → Q 1 S) (h0 : pw2 m v = false → Q 0 S) : wp_X12_isHalved (lN v) (nI m) S Q := by
  unfold wp_X12_isHalved
  by_cases c : pw2 m v = true
  · have q := h1 c
    unfold pw2 at c
    simp only [Bool.or_eq_true, Bool.and_eq_true, beq_iff_eq] at c
    rcases c with (((((rfl | rfl) | rfl) | rfl) | rfl) | rfl) | ⟨rfl, rfl⟩
    all_goals repeat (first | exact q | rw [if_pos (by decide)] | rw [if_neg (by decide)])
  · have q := h0 (Bool.eq_false_iff.mpr c)
    have ne : ∀ {z : Int64} (k : Nat), z = lN k → k < 1000 → pw2 m k = true → ¬ lN v = z := fun {z} k hz hk c1 d => by
      rw [hz, lN_eqq (by omega) (by omega)] at d
      subst d; exact c c1
    rw [if_neg (ne 1 (by rfl) (by omega) rfl), if_neg (ne 2 (by rfl) (by omega) rfl), if_neg (ne 4 (by rfl) (by omega) rfl), if_neg (ne 8 (by rfl) (by omega) rfl), if_neg (ne 16 (by rfl) (by omega) rfl), if_neg (ne 32 (by rfl) (by omega) rfl)]
    rcases hm with rfl | rfl
    · split
      · rw [if_neg (by decide)]; exact q
      · exact q
    · rw [if_neg (ne 64 (by rfl) (by omega) rfl)]; exact q
def Kd (e : Nat × Nat) : Prop := 1 ≤ e.1 ∧ e.1 ≤ 8
theorem Kd.ne {e : Nat × Nat} (h : Kd e) : ¬ nI e.1 = 0 := nI_ne0 h.1 (by have := h.2; omega)
theorem Kd.nle {e : Nat × Nat} (h : Kd e) : ¬ nI e.1 ≤ 0 := nI_nle h.1 (by have := h.2; omega)
theorem kdm {k q : Nat} (h1 : 1 ≤ k) (h2 : k ≤ 8) : Kd (k, q) := ⟨h1, h2⟩
theorem dig_kd {w : Nat} {e : Nat × Nat} (h : dig B w p = .error e) : Kd e := by
  unfold dig at h
  split at h
  · injection h with h; rw [← h]; exact kdm (by decide) (by decide)
  · split at h
    · injection h with h; rw [← h]; exact kdm (by decide) (by decide)
    · cases h
theorem r_halved {Q : Int64 → PS → Prop} {m : Nat} (h : RT S A B n) (hf : fI S 102 (A 9) = 0) (hp : fI S 101 (A 9) = nI p) (hpn : p ≤ n) (hm : m = 32 ∨ m = 64)
    (h1 : ∀ v q, hal B m p = .ok (v, q) → Q (lN v) (sI S 101 (A 9) (nI q)))
    (h0 : ∀ e r S1, hal B m p = .error e → RF S S1 A e → Q r S1) : wp_X12_halved (A 9) (nI m) S Q := by
  have hB := h.2.2.1
  unfold wp_X12_halved
  intro v1 hv1
  rw [hp] at hv1
  subst hv1
  refine r_digits (w := 3) (lo := 0) (hi := 999) h hf hp hpn (by omega) (by omega) (by omega) (fun v q e => ?_) (fun e r S1 e1 c _ => ?_)
  · have e2 := (ran_ok e).1
    have hd := dig_ok hB hpn e2
    rw [if_pos (fI_at2.trans hf)]
    refine r_isHalved (by omega) hm (fun c => ?_) (fun c => ?_)
    · rw [if_neg (by decide)]
      refine h1 v q ?_
      unfold hal; rw [e2]; simp only []; rw [if_pos c]
    · rw [if_pos rfl]
      refine r_bad (k := 2) (fI_at2.trans hf) (fun S2 h2 => h0 _ _ S2 ?_ (RF.of KR.pos h2))
      unfold hal; rw [e2]; simp only []; rw [if_neg (by rw [c]; decide)]
  · have e2 : dig B 3 p = .error e := by
      unfold ran at e1
      split at e1
      · injection e1 with e1; rw [← e1]; assumption
      · rename_i v q e3
        have := (dig_ok hB hpn e3).2.2.2
        rw [if_neg (by omega)] at e1; cases e1
    have hne : fI S1 102 (A 9) ≠ 0 := by rw [c.2.1]; exact (dig_kd e2).ne
    rw [if_neg hne]
    refine h0 e r S1 ?_ c
    unfold hal; rw [e2]
/-- a fault is there, and all of the reading's rows may have changed -/
def RFM (S S1 : PS) (A : Nat → Nat) (e : Nat × Nat) : Prop := KM S S1 ∧ fI S1 102 (A 9) = nI e.1 ∧ fI S1 103 (A 9) = nI e.2
theorem RF.m {S1 : PS} {e : Nat × Nat} (h : RF S S1 A e) : RFM S S1 A e := ⟨h.1.m, h.2⟩
theorem RFM.of {S1 S2 : PS} {e : Nat × Nat} (g : KM S S1) (h : RFM S1 S2 A e) : RFM S S2 A e := ⟨g.tr h.1, h.2⟩
theorem ran_kd {lo hi : Nat} {r : Except (Nat × Nat) (Nat × Nat)} {e : Nat × Nat} (hr : ∀ e, r = .error e → Kd e) (h : ran lo hi p r = .error e) : Kd e := by
  unfold ran at h
  split at h
  · injection h with h; subst h; exact hr _ rfl
  · split at h
    · injection h with h; rw [← h]; exact kdm (by decide) (by decide)
    · cases h
theorem num_kd {lo hi : Nat} {e : Nat × Nat} (h : num B lo hi p = .error e) : Kd e := ran_kd (fun _ => dig_kd) h
theorem hal_kd {m : Nat} {e : Nat × Nat} (h : hal B m p = .error e) : Kd e := by
  unfold hal at h
  split at h
  · rename_i e1; injection h with h; subst h; exact dig_kd e1
  · split at h
    · cases h
    · injection h with h; rw [← h]; exact kdm (by decide) (by decide)
theorem tkv_eq : ∀ v : Fin 65, pw2 64 v.val = true → tkv v.val 0 = 3870720 / lN v.val ∧ tkv v.val 1 = 3870720 / lN v.val + 3870720 / lN v.val / 2 ∧ tkv v.val 2 = 3870720 / lN v.val + 3870720 / lN v.val / 2 + 3870720 / lN v.val / 2 / 2 ∧ tkv v.val 3 = 3870720 / lN v.val + 3870720 / lN v.val / 2 + 3870720 / lN v.val / 2 / 2 + 3870720 / lN v.val / 2 / 2 / 2 := by decide +kernel
def jE (j : Nat) : Bool := decide (101 ≤ j ∧ j ≤ 103)
def rE4 (r : Nat) : Bool := decide (r = 48)
def KE (S S1 : PS) : Prop := Keep jE rE4 S S1
theorem KE.m {S1 : PS} (h : KE S S1) : KM S S1 := h.mono (fun j => by unfold jM jE; simp only [decide_eq_false_iff_not]; omega) (fun r => by unfold rM rE4; simp only [decide_eq_false_iff_not]; omega)
theorem r_lengthAt {Q : PS → Prop} {x : Nat} (h : RT S A B n) (hf : fI S 102 (A 9) = 0) (hp : fI S 101 (A 9) = nI p) (hpn : p ≤ n) (hx : x < 3100) (hz : aL S 48 (A 48) x = 0)
    (h1 : ∀ t q S1, len B p = .ok (t, q) → KE S S1 → fI S1 101 (A 9) = nI q → fI S1 102 (A 9) = 0 → aL S1 48 (A 48) = uq (aL S 48 (A 48)) x t → Q S1)
    (h0 : ∀ e S1, len B p = .error e → Kd e → RFM S S1 A e → Q S1) : wp_X12_lengthAt (A 9) (nI x) S Q := by
  have hB := h.2.2.1
  have hn := hB.1
  unfold wp_X12_lengthAt
  rw [hf, if_pos (by decide)]
  refine r_isHere h hp hpn (fun e => ?_) (fun e => ?_)
  · rw [if_neg (by decide)]
    have hlt := hB.lt e (by decide)
    have hl : len B p = (match ran 1 3870720000 (p + 1) (dig B 10 (p + 1)) with
      | .ok (v, r) => .ok (lN v, r)
      | .error e => .error e) := if_pos e
    rintro _ rfl
    rw [hp, nI_1]
    refine ⟨_, h.pos.1.f111, ?_⟩
    refine r_digits (w := 10) (lo := 1) (hi := 3870720000) h.pos (fI_at2.trans hf) fI_at hlt (by omega) (by omega) (by omega) (fun v q e1 => ?_) (fun e1 r S1 e2 c _ => ?_)
    · rw [e1] at hl
      rw [sI_sI, h.pos.1.n48]
      refine ⟨vp_in_nI hx (by omega), ?_⟩
      rw [nI_clamp (by omega)]
      rintro _ rfl
      refine h1 _ _ _ hl ((Keep.rf.sI rfl).wL rfl) ?_ ?_ ?_
      all_goals simp only [fI_s, fI_sn, fL_s, fL_sn, aI_w, aI_wn, aL_w, aL_wn, fI_sL, fI_wI, fI_wL, fL_sI, fL_wI, fL_wL, aI_sI, aI_sL, aI_wL, aL_sI, aL_sL, aL_wI, fR_sI, fR_sL, fR_wI, fR_wL, aN_sI, aN_sL, aN_wI, aN_wL, ne_eq, Nat.reduceEqDiff, not_false_eq_true]
      exact hf
    · rw [e2] at hl
      have h2 := (h.pos.kr c.1).1
      rw [h2.n48]
      refine ⟨vp_in_nI hx (by omega), ?_⟩
      rw [nI_clamp (by omega)]
      rintro _ rfl
      refine h0 e1 _ hl (ran_kd (fun _ => dig_kd) e2) ⟨Keep.tr (KR.m (Keep.tr KR.pos c.1)) (Keep.rf.wL rfl), ?_, ?_⟩
      · exact c.2.1
      · exact c.2.2
  · rw [if_pos rfl]
    refine r_here h hp hpn ?_
    refine r_isDigit (fun hd => ?_) (fun hd => ?_)
    · rw [if_neg (by decide)]
      have hl : len B p = (match hal B 64 p with
        | .ok (v, r) => .ok (tkv v (mks B 46 3 r), r + mks B 46 3 r)
        | .error e => .error e) := (if_neg e).trans (if_pos hd)
      refine r_halved (m := 64) h hf hp hpn (Or.inr rfl) (fun v q e1 => ?_) (fun e1 r S1 e2 c => ?_)
      · rw [e1] at hl
        simp only [] at hl
        have hh := hal_ok hB hpn e1
        have hv := pw2_le hh.2.2
        rw [if_pos (fI_at2.trans hf)]
        refine ⟨fun z => by rw [show (0 : Int64) = lN 0 from rfl, lN_eqq (by omega) (by omega)] at z; omega, ?_⟩
        rintro _ rfl
        refine r_signs (w := 3) h.pos fI_at hh.2.1 (by decide) (by omega) ?_
        rw [sI_sI]
        have hm := mks_le (B := B) (c := 46) 3 q
        have tk := tkv_eq ⟨v, by omega⟩ hh.2.2
        generalize mks B 46 3 q = d at hl hm ⊢
        intro P hP
        have fin : ∀ t x6, t = tkv v d → P t x6 0 (sI S 101 (A 9) (nI (q + d))) := by
          intro t x6 ht
          apply hP
          rw [if_pos (by decide)]
          refine ⟨_, h.pos.1.f111, ?_, ?_⟩
          · rw [h.pos.1.n48]; exact vp_in_nI hx (by omega)
          · rw [nI_clamp (by omega)]
            rintro _ rfl
            rw [ht]
            refine h1 _ _ _ hl ((Keep.rf.sI rfl).wL rfl) ?_ ?_ ?_
            all_goals simp only [fI_s, fI_sn, fL_s, fL_sn, aI_w, aI_wn, aL_w, aL_wn, fI_sL, fI_wI, fI_wL, fL_sI, fL_wI, fL_wL, aI_sI, aI_sL, aI_wL, aL_sI, aL_sL, aL_wI, fR_sI, fR_sL, fR_wI, fR_wL, aN_sI, aN_sL, aN_wI, aN_wL, ne_eq, Nat.reduceEqDiff, not_false_eq_true]
            exact hf
        have stp : ∀ t x6 (k : Nat), k < 3 → P (t + x6 / 2) (x6 / 2) (nI k) (sI S 101 (A 9) (nI (q + d))) → P t x6 (nI (k + 1)) (sI S 101 (A 9) (nI (q + d))) := by
          intro t x6 k hk hg
          apply hP
          rw [if_neg (nI_nle (by omega) (by omega))]
          rintro _ rfl _ rfl _ rfl
          have e9 : nI (k + 1) + -1 = nI k := by rw [← nI_pred k, Int32.sub_eq_add_neg]
          rw [e9]; exact hg
        have hd4 : d = 0 ∨ d = 1 ∨ d = 2 ∨ d = 3 := by omega
        rcases hd4 with rfl | rfl | rfl | rfl
        · exact fin _ _ tk.1.symm
        · exact stp _ _ 0 (by omega) (fin _ _ tk.2.1.symm)
        · exact stp _ _ 1 (by omega) (stp _ _ 0 (by omega) (fin _ _ tk.2.2.1.symm))
        · exact stp _ _ 2 (by omega) (stp _ _ 1 (by omega) (stp _ _ 0 (by omega) (fin _ _ tk.2.2.2.symm)))
      · rw [e2] at hl
        rw [if_neg (by rw [c.2.1]; exact (hal_kd e2).ne)]
        exact h0 _ _ hl (hal_kd e2) c.m
    · rw [if_pos rfl]
      have hl : len B p = .ok (0, p) := (if_neg e).trans (if_neg (by rw [hd]; decide))
      exact h1 _ _ _ hl Keep.rf hp hf (uq_self hz).symm
end
