/-! The reference: items with numbers. -/
section
variable {S : PS} {A : Nat → Nat} {B : Nat → Int32} {n p x : Nat} {Q : PS → Prop}
def jHr (j : Nat) : Bool := decide (j = 101)
def rHr (r : Nat) : Bool := decide (r = 42 ∨ r = 44 ∨ r = 45)
def HR (S S1 : PS) (A : Nat → Nat) (x : Nat) (s a b : Int32) (q : Nat) : Prop := Keep jHr rHr S S1 ∧ fI S1 101 (A 9) = nI q ∧ aI S1 42 (A 42) = uq (aI S 42 (A 42)) x s ∧ aI S1 44 (A 44) = uq (aI S 44 (A 44)) x a ∧ aI S1 45 (A 45) = uq (aI S 45 (A 45)) x b
theorem HR.keep {S1 : PS} {s a b : Int32} {q : Nat} (h : HR S S1 A x s a b q) : KM S S1 := h.1.mono (fun j => by unfold jM jHr; simp only [decide_eq_false_iff_not]; omega) (fun r => by unfold rM rHr; simp only [decide_eq_false_iff_not]; omega)
theorem RFM.its {S1 : PS} {e : Nat × Nat} (hk : Kd e) (h : RFM S S1 A e) (hQ : Q S1) : wp_X12_itsBlock (A 9) (nI x) S1 Q := r_itsBlock_f (by rw [h.2.1]; exact hk.nle) (by rw [h.2.1]; exact hk.ne) hQ
theorem chn_76 (h : RT S A B n) (hp : fI S 101 (A 9) = nI (p + 1)) (hx : x < 3100) (h44 : aI S 44 (A 44) x = 0) (h45 : aI S 45 (A 45) x = 0)
    (h1 : ∀ a b q S1, hdr B 76 p = .ok (a, b, q) → HR S S1 A x 3 a b q → wp_X12_itsBlock (A 9) (nI x) S1 Q) : chn (A 9) 76 (nI x) S Q := by
  unfold chn
  rw [if_neg (by decide), if_neg (by decide), if_pos rfl]
  refine ⟨_, h.1.f105, by rw [h.1.n42]; exact vp_in_nI hx (by omega), ?_⟩
  rw [nI_clamp (by omega)]
  rintro _ rfl
  refine h1 0 0 (p + 1) _ rfl ⟨Keep.rf.wI rfl, hp, ?_, ?_, ?_⟩
  · simp only [fI_s, fI_sn, fL_s, fL_sn, aI_w, aI_wn, aL_w, aL_wn, fI_sL, fI_wI, fI_wL, fL_sI, fL_wI, fL_wL, aI_sI, aI_sL, aI_wL, aL_sI, aL_sL, aL_wI, fR_sI, fR_sL, fR_wI, fR_wL, aN_sI, aN_sL, aN_wI, aN_wL, ne_eq, Nat.reduceEqDiff, not_false_eq_true]
  · simp only [fI_s, fI_sn, fL_s, fL_sn, aI_w, aI_wn, aL_w, aL_wn, fI_sL, fI_wI, fI_wL, fL_sI, fL_wI, fL_wL, aI_sI, aI_sL, aI_wL, aL_sI, aL_sL, aL_wI, fR_sI, fR_sL, fR_wI, fR_wL, aN_sI, aN_sL, aN_wI, aN_wL, ne_eq, Nat.reduceEqDiff, not_false_eq_true]; exact (uq_self h44).symm
  · simp only [fI_s, fI_sn, fL_s, fL_sn, aI_w, aI_wn, aL_w, aL_wn, fI_sL, fI_wI, fI_wL, fL_sI, fL_wI, fL_wL, aI_sI, aI_sL, aI_wL, aL_sI, aL_sL, aL_wI, fR_sI, fR_sL, fR_wI, fR_wL, aN_sI, aN_sL, aN_wI, aN_wL, ne_eq, Nat.reduceEqDiff, not_false_eq_true]; exact (uq_self h45).symm
theorem chn_82 (h : RT S A B n) (hf : fI S 102 (A 9) = 0) (hp : fI S 101 (A 9) = nI (p + 1)) (hlt : p < n) (hx : x < 3100) (h45 : aI S 45 (A 45) x = 0)
    (h1 : ∀ a b q S1, hdr B 82 p = .ok (a, b, q) → HR S S1 A x 4 a b q → wp_X12_itsBlock (A 9) (nI x) S1 Q)
    (h0 : ∀ e S1, hdr B 82 p = .error e → Kd e → RFM S S1 A e → Q S1) : chn (A 9) 82 (nI x) S Q := by
  have hd : hdr B 82 p = rou B p := rfl
  unfold rou at hd
  unfold chn
  rw [if_neg (by decide), if_neg (by decide), if_neg (by decide), if_neg (by decide), if_pos rfl]
  refine ⟨_, h.1.f105, by rw [h.1.n42]; exact vp_in_nI hx (by omega), ?_⟩
  rw [nI_clamp (by omega)]
  rintro _ rfl
  have h2 : RT (wI S 42 (A 42) x 4) A B n := h.km (Keep.rf.wI rfl)
  refine ⟨_, h2.1.f107, ?_⟩
  refine r_number (lo := 0) (hi := 50) h2 hf hp hlt (by omega) (by omega) (fun v q e1 => ?_) (fun e r S1 e1 c1 _ => ?_)
  · rw [e1] at hd
    refine ⟨by show vp_in _ (aN S (A 44)); rw [h.1.n44]; exact vp_in_nI hx (by omega), ?_⟩
    rintro _ rfl
    refine h1 _ _ _ _ hd ⟨((Keep.rf.wI rfl).sI rfl).wI rfl, ?_, ?_, ?_, ?_⟩
    · simp only [fI_s, fI_sn, fL_s, fL_sn, aI_w, aI_wn, aL_w, aL_wn, fI_sL, fI_wI, fI_wL, fL_sI, fL_wI, fL_wL, aI_sI, aI_sL, aI_wL, aL_sI, aL_sL, aL_wI, fR_sI, fR_sL, fR_wI, fR_wL, aN_sI, aN_sL, aN_wI, aN_wL, ne_eq, Nat.reduceEqDiff, not_false_eq_true]
    · simp only [fI_s, fI_sn, fL_s, fL_sn, aI_w, aI_wn, aL_w, aL_wn, fI_sL, fI_wI, fI_wL, fL_sI, fL_wI, fL_wL, aI_sI, aI_sL, aI_wL, aL_sI, aL_sL, aL_wI, fR_sI, fR_sL, fR_wI, fR_wL, aN_sI, aN_sL, aN_wI, aN_wL, ne_eq, Nat.reduceEqDiff, not_false_eq_true]
    · simp only [fI_s, fI_sn, fL_s, fL_sn, aI_w, aI_wn, aL_w, aL_wn, fI_sL, fI_wI, fI_wL, fL_sI, fL_wI, fL_wL, aI_sI, aI_sL, aI_wL, aL_sI, aL_sL, aL_wI, fR_sI, fR_sL, fR_wI, fR_wL, aN_sI, aN_sL, aN_wI, aN_wL, ne_eq, Nat.reduceEqDiff, not_false_eq_true]
    · simp only [fI_s, fI_sn, fL_s, fL_sn, aI_w, aI_wn, aL_w, aL_wn, fI_sL, fI_wI, fI_wL, fL_sI, fL_wI, fL_wL, aI_sI, aI_sL, aI_wL, aL_sI, aL_sL, aL_wI, fR_sI, fR_sL, fR_wI, fR_wL, aN_sI, aN_sL, aN_wI, aN_wL, ne_eq, Nat.reduceEqDiff, not_false_eq_true]; exact (uq_self h45).symm
  · rw [e1] at hd
    have h3 := h2.kr c1.1
    have hk := hdr_kd hd
    refine ⟨by rw [h3.1.n44]; exact vp_in_nI hx (by omega), ?_⟩
    rintro _ rfl
    have hr : RFM S (wI S1 44 (A 44) x r) A e := ⟨Keep.tr (Keep.tr (Keep.rf.wI rfl) c1.1.m) (Keep.rf.wI rfl), c1.2.1, c1.2.2⟩
    exact hr.its hk (h0 e _ hd hk hr)
theorem chn_84 (h : RT S A B n) (hf : fI S 102 (A 9) = 0) (hp : fI S 101 (A 9) = nI (p + 1)) (hlt : p < n) (hx : x < 3100)
    (h1 : ∀ a b q S1, hdr B 84 p = .ok (a, b, q) → HR S S1 A x 5 a b q → wp_X12_itsBlock (A 9) (nI x) S1 Q)
    (h0 : ∀ e S1, hdr B 84 p = .error e → Kd e → RFM S S1 A e → Q S1) : chn (A 9) 84 (nI x) S Q := by
  have hB := h.2.2.1
  have hd : hdr B 84 p = tup B 1 9 p := rfl
  unfold tup at hd
  unfold chn
  rw [if_neg (by decide), if_neg (by decide), if_neg (by decide), if_neg (by decide), if_neg (by decide), if_pos rfl]
  refine ⟨_, h.1.f105, by rw [h.1.n42]; exact vp_in_nI hx (by omega), ?_⟩
  rw [nI_clamp (by omega)]
  rintro _ rfl
  have h2 : RT (wI S 42 (A 42) x 5) A B n := h.km (Keep.rf.wI rfl)
  refine ⟨_, h2.1.f107, ?_⟩
  refine r_number (lo := 1) (hi := 9) h2 hf hp hlt (by omega) (by omega) (fun v q e1 => ?_) (fun e r S1 e1 c1 _ => ?_)
  · rw [e1] at hd
    simp only [] at hd
    have hq := num_ok hB hlt e1
    refine ⟨by show vp_in _ (aN S (A 44)); rw [h.1.n44]; exact vp_in_nI hx (by omega), ?_⟩
    rintro _ rfl
    have k3 : KM S (wI (sI (wI S 42 (A 42) x 5) 101 (A 9) (nI q)) 44 (A 44) x (nI v)) := ((Keep.rf.wI rfl).sI rfl).wI rfl
    have h3 := h.km k3
    refine r_want h3 (by simp only [fI_s, fI_sn, fL_s, fL_sn, aI_w, aI_wn, aL_w, aL_wn, fI_sL, fI_wI, fI_wL, fL_sI, fL_wI, fL_wL, aI_sI, aI_sL, aI_wL, aL_sI, aL_sL, aL_wI, fR_sI, fR_sL, fR_wI, fR_wL, aN_sI, aN_sL, aN_wI, aN_wL, ne_eq, Nat.reduceEqDiff, not_false_eq_true]; exact hf) (by simp only [fI_s, fI_sn, fL_s, fL_sn, aI_w, aI_wn, aL_w, aL_wn, fI_sL, fI_wI, fI_wL, fL_sI, fL_wI, fL_wL, aI_sI, aI_sL, aI_wL, aL_sI, aL_sL, aL_wI, fR_sI, fR_sL, fR_wI, fR_wL, aN_sI, aN_sL, aN_wI, aN_wL, ne_eq, Nat.reduceEqDiff, not_false_eq_true]) hq.2.1 (fun e2 => ?_) (fun e2 S4 c4 _ => ?_)
    · rw [if_pos e2] at hd
      have hlt2 := hB.lt e2 (by decide)
      refine ⟨_, h3.pos.1.f108, ?_⟩
      refine r_number (lo := 1) (hi := 9) h3.pos (by simp only [fI_s, fI_sn, fL_s, fL_sn, aI_w, aI_wn, aL_w, aL_wn, fI_sL, fI_wI, fI_wL, fL_sI, fL_wI, fL_wL, aI_sI, aI_sL, aI_wL, aL_sI, aL_sL, aL_wI, fR_sI, fR_sL, fR_wI, fR_wL, aN_sI, aN_sL, aN_wI, aN_wL, ne_eq, Nat.reduceEqDiff, not_false_eq_true]; exact hf) fI_at hlt2 (by omega) (by omega) (fun w r e3 => ?_) (fun e r S5 e3 c5 _ => ?_)
      · rw [e3] at hd
        refine ⟨by show vp_in _ (aN S (A 45)); rw [h.1.n45]; exact vp_in_nI hx (by omega), ?_⟩
        rintro _ rfl
        refine h1 _ _ _ _ hd ⟨(((((Keep.rf.wI rfl).sI rfl).wI rfl).sI rfl).sI rfl).wI rfl, ?_, ?_, ?_, ?_⟩
        all_goals simp only [fI_s, fI_sn, fL_s, fL_sn, aI_w, aI_wn, aL_w, aL_wn, fI_sL, fI_wI, fI_wL, fL_sI, fL_wI, fL_wL, aI_sI, aI_sL, aI_wL, aL_sI, aL_sL, aL_wI, fR_sI, fR_sL, fR_wI, fR_wL, aN_sI, aN_sL, aN_wI, aN_wL, ne_eq, Nat.reduceEqDiff, not_false_eq_true]
      · rw [e3] at hd
        have h5 := h3.pos.kr c5.1
        have hk := hdr_kd hd
        refine ⟨by rw [h5.1.n45]; exact vp_in_nI hx (by omega), ?_⟩
        rintro _ rfl
        have hr : RFM S (wI S5 45 (A 45) x r) A e := ⟨Keep.tr k3 (Keep.tr (KR.m KR.pos) (Keep.tr c5.1.m (Keep.rf.wI rfl))), c5.2.1, c5.2.2⟩
        exact hr.its hk (h0 e _ hd hk hr)
    · rw [if_neg e2] at hd
      have h4 := h3.kr c4.1
      have hk := hdr_kd hd
      refine ⟨_, h4.1.f108, ?_⟩
      refine r_number_f (by rw [c4.2.1]; exact hk.nle) ?_
      refine ⟨by rw [h4.1.n45]; exact vp_in_nI hx (by omega), ?_⟩
      rintro _ rfl
      have hr : RFM S (wI S4 45 (A 45) x 0) A (1, bl B q) := ⟨Keep.tr k3 (Keep.tr c4.1.m (Keep.rf.wI rfl)), c4.2.1, c4.2.2⟩
      exact hr.its hk (h0 _ _ hd hk hr)
  · rw [e1] at hd
    have h3 := h2.kr c1.1
    have hk := hdr_kd hd
    refine ⟨by rw [h3.1.n44]; exact vp_in_nI hx (by omega), ?_⟩
    rintro _ rfl
    refine r_want_f (by rw [fI_wI, c1.2.1]; exact hk.ne) ?_
    refine ⟨_, h3.1.f108, ?_⟩
    refine r_number_f (by rw [fI_wI, c1.2.1]; exact hk.nle) ?_
    refine ⟨by show vp_in _ (aN S1 (A 45)); rw [h3.1.n45]; exact vp_in_nI hx (by omega), ?_⟩
    rintro _ rfl
    have hr : RFM S (wI (wI S1 44 (A 44) x r) 45 (A 45) x 0) A e := ⟨Keep.tr (Keep.tr (Keep.rf.wI rfl) c1.1.m) ((Keep.rf.wI rfl).wI rfl), c1.2.1, c1.2.2⟩
    exact hr.its hk (h0 e _ hd hk hr)
theorem chn_88 (h : RT S A B n) (hf : fI S 102 (A 9) = 0) (hp : fI S 101 (A 9) = nI (p + 1)) (hlt : p < n) (hx : x < 3100)
    (h1 : ∀ a b q S1, hdr B 88 p = .ok (a, b, q) → HR S S1 A x 6 a b q → wp_X12_itsBlock (A 9) (nI x) S1 Q)
    (h0 : ∀ e S1, hdr B 88 p = .error e → Kd e → RFM S S1 A e → Q S1) : chn (A 9) 88 (nI x) S Q := by
  have hB := h.2.2.1
  have hd : hdr B 88 p = mov B p := rfl
  unfold mov at hd
  unfold chn
  rw [if_neg (by decide), if_neg (by decide), if_neg (by decide), if_neg (by decide), if_neg (by decide), if_neg (by decide), if_neg (by decide), if_pos rfl]
  refine ⟨_, h.1.f105, by rw [h.1.n42]; exact vp_in_nI hx (by omega), ?_⟩
  rw [nI_clamp (by omega)]
  rintro _ rfl
  have h2 : RT (wI S 42 (A 42) x 6) A B n := h.km (Keep.rf.wI rfl)
  refine ⟨_, h2.1.f107, ?_⟩
  refine r_signed h2 hf hp hlt (fun v q e1 => ?_) (fun e r S1 e1 c1 => ?_)
  · rw [e1] at hd
    simp only [] at hd
    have hq := sgn_ok hB hlt e1
    refine ⟨by show vp_in _ (aN S (A 44)); rw [h.1.n44]; exact vp_in_nI hx (by omega), ?_⟩
    rintro _ rfl
    have k3 : KM S (wI (sI (wI S 42 (A 42) x 6) 101 (A 9) (nI q)) 44 (A 44) x v) := ((Keep.rf.wI rfl).sI rfl).wI rfl
    have h3 := h.km k3
    refine ⟨_, h3.1.f108, ?_⟩
    refine r_signed h3 (by simp only [fI_s, fI_sn, fL_s, fL_sn, aI_w, aI_wn, aL_w, aL_wn, fI_sL, fI_wI, fI_wL, fL_sI, fL_wI, fL_wL, aI_sI, aI_sL, aI_wL, aL_sI, aL_sL, aL_wI, fR_sI, fR_sL, fR_wI, fR_wL, aN_sI, aN_sL, aN_wI, aN_wL, ne_eq, Nat.reduceEqDiff, not_false_eq_true]; exact hf) (by simp only [fI_s, fI_sn, fL_s, fL_sn, aI_w, aI_wn, aL_w, aL_wn, fI_sL, fI_wI, fI_wL, fL_sI, fL_wI, fL_wL, aI_sI, aI_sL, aI_wL, aL_sI, aL_sL, aL_wI, fR_sI, fR_sL, fR_wI, fR_wL, aN_sI, aN_sL, aN_wI, aN_wL, ne_eq, Nat.reduceEqDiff, not_false_eq_true]) hq.2.1 (fun w r e3 => ?_) (fun e r S5 e3 c5 => ?_)
    · rw [e3] at hd
      refine ⟨by show vp_in _ (aN S (A 45)); rw [h.1.n45]; exact vp_in_nI hx (by omega), ?_⟩
      rintro _ rfl
      refine h1 _ _ _ _ hd ⟨((((Keep.rf.wI rfl).sI rfl).wI rfl).sI rfl).wI rfl, ?_, ?_, ?_, ?_⟩
      all_goals simp only [fI_s, fI_sn, fL_s, fL_sn, aI_w, aI_wn, aL_w, aL_wn, fI_sL, fI_wI, fI_wL, fL_sI, fL_wI, fL_wL, aI_sI, aI_sL, aI_wL, aL_sI, aL_sL, aL_wI, fR_sI, fR_sL, fR_wI, fR_wL, aN_sI, aN_sL, aN_wI, aN_wL, ne_eq, Nat.reduceEqDiff, not_false_eq_true]
    · rw [e3] at hd
      have h5 := h3.kr c5.1
      have hk := hdr_kd hd
      refine ⟨by rw [h5.1.n45]; exact vp_in_nI hx (by omega), ?_⟩
      rintro _ rfl
      have hr : RFM S (wI S5 45 (A 45) x r) A e := ⟨Keep.tr k3 (Keep.tr c5.1.m (Keep.rf.wI rfl)), c5.2.1, c5.2.2⟩
      exact hr.its hk (h0 e _ hd hk hr)
  · rw [e1] at hd
    have h3 := h2.kr c1.1
    have hk := hdr_kd hd
    refine ⟨by rw [h3.1.n44]; exact vp_in_nI hx (by omega), ?_⟩
    rintro _ rfl
    refine ⟨_, h3.1.f108, ?_⟩
    refine r_signed_f (by rw [fI_wI, c1.2.1]; exact hk.nle) ?_
    refine ⟨by show vp_in _ (aN S1 (A 45)); rw [h3.1.n45]; exact vp_in_nI hx (by omega), ?_⟩
    rintro _ rfl
    have hr : RFM S (wI (wI S1 44 (A 44) x r) 45 (A 45) x 0) A e := ⟨Keep.tr (Keep.tr (Keep.rf.wI rfl) c1.1.m) ((Keep.rf.wI rfl).wI rfl), c1.2.1, c1.2.2⟩
    exact hr.its hk (h0 e _ hd hk hr)
theorem chn_77 (h : RT S A B n) (hf : fI S 102 (A 9) = 0) (hp : fI S 101 (A 9) = nI (p + 1)) (hlt : p < n) (hx : x < 3100)
    (h1 : ∀ a b q S1, hdr B 77 p = .ok (a, b, q) → HR S S1 A x 2 a b q → Q S1)
    (h0 : ∀ e S1, hdr B 77 p = .error e → Kd e → RFM S S1 A e → Q S1) : chn (A 9) 77 (nI x) S Q := by
  have hB := h.2.2.1
  have hd : hdr B 77 p = met B p := rfl
  unfold met at hd
  unfold chn
  rw [if_neg (by decide), if_neg (by decide), if_neg (by decide), if_pos rfl]
  refine ⟨_, h.1.f105, by rw [h.1.n42]; exact vp_in_nI hx (by omega), ?_⟩
  rw [nI_clamp (by omega)]
  rintro _ rfl
  have h2 : RT (wI S 42 (A 42) x 2) A B n := h.km (Keep.rf.wI rfl)
  refine ⟨_, h2.1.f107, ?_⟩
  refine r_number (lo := 1) (hi := 32) h2 hf hp hlt (by omega) (by omega) (fun v q e1 => ?_) (fun e r S1 e1 c1 z1 => ?_)
  · rw [e1] at hd
    simp only [] at hd
    have hq := num_ok hB hlt e1
    refine ⟨by show vp_in _ (aN S (A 44)); rw [h.1.n44]; exact vp_in_nI hx (by omega), ?_⟩
    rintro _ rfl
    have k3 : KM S (wI (sI (wI S 42 (A 42) x 2) 101 (A 9) (nI q)) 44 (A 44) x (nI v)) := ((Keep.rf.wI rfl).sI rfl).wI rfl
    have h3 := h.km k3
    refine r_want h3 (by simp only [fI_s, fI_sn, fL_s, fL_sn, aI_w, aI_wn, aL_w, aL_wn, fI_sL, fI_wI, fI_wL, fL_sI, fL_wI, fL_wL, aI_sI, aI_sL, aI_wL, aL_sI, aL_sL, aL_wI, fR_sI, fR_sL, fR_wI, fR_wL, aN_sI, aN_sL, aN_wI, aN_wL, ne_eq, Nat.reduceEqDiff, not_false_eq_true]; exact hf) (by simp only [fI_s, fI_sn, fL_s, fL_sn, aI_w, aI_wn, aL_w, aL_wn, fI_sL, fI_wI, fI_wL, fL_sI, fL_wI, fL_wL, aI_sI, aI_sL, aI_wL, aL_sI, aL_sL, aL_wI, fR_sI, fR_sL, fR_wI, fR_wL, aN_sI, aN_sL, aN_wI, aN_wL, ne_eq, Nat.reduceEqDiff, not_false_eq_true]) hq.2.1 (fun e2 => ?_) (fun e2 S4 c4 z4 => ?_)
    · rw [if_pos e2] at hd
      have hlt2 := hB.lt e2 (by decide)
      refine r_blanks h3.pos fI_at hlt2 ?_
      rw [sI_sI]
      refine ⟨_, h3.pos.1.f108, ?_⟩
      intro K hK
      rw [if_pos (by simp only [fI_s, fI_sn, fL_s, fL_sn, aI_w, aI_wn, aL_w, aL_wn, fI_sL, fI_wI, fI_wL, fL_sI, fL_wI, fL_wL, aI_sI, aI_sL, aI_wL, aL_sI, aL_sL, aL_wI, fR_sI, fR_sL, fR_wI, fR_wL, aN_sI, aN_sL, aN_wI, aN_wL, ne_eq, Nat.reduceEqDiff, not_false_eq_true]; exact hf)]
      refine r_halved (m := 32) h3.pos (by simp only [fI_s, fI_sn, fL_s, fL_sn, aI_w, aI_wn, aL_w, aL_wn, fI_sL, fI_wI, fI_wL, fL_sI, fL_wI, fL_wL, aI_sI, aI_sL, aI_wL, aL_sI, aL_sL, aL_wI, fR_sI, fR_sL, fR_wI, fR_wL, aN_sI, aN_sL, aN_wI, aN_wL, ne_eq, Nat.reduceEqDiff, not_false_eq_true]; exact hf) fI_at (bl_le hB hlt2) (Or.inl rfl) (fun w r e3 => ?_) (fun e r S5 e3 c5 => ?_)
      · rw [e3] at hd
        apply hK
        refine ⟨by show vp_in _ (aN S (A 45)); rw [h.1.n45]; exact vp_in_nI hx (by omega), ?_⟩
        rw [lN_i, nI_clamp (by omega)]
        rintro _ rfl
        refine h1 _ _ _ _ hd ⟨(((((Keep.rf.wI rfl).sI rfl).wI rfl).sI rfl).sI rfl).wI rfl, ?_, ?_, ?_, ?_⟩
        all_goals simp only [fI_s, fI_sn, fL_s, fL_sn, aI_w, aI_wn, aL_w, aL_wn, fI_sL, fI_wI, fI_wL, fL_sI, fL_wI, fL_wL, aI_sI, aI_sL, aI_wL, aL_sI, aL_sL, aL_wI, fR_sI, fR_sL, fR_wI, fR_wL, aN_sI, aN_sL, aN_wI, aN_wL, ne_eq, Nat.reduceEqDiff, not_false_eq_true]
      · rw [e3] at hd
        have h5 := h3.pos.kr c5.1
        have hk := hdr_kd hd
        apply hK
        refine ⟨by rw [h5.1.n45]; exact vp_in_nI hx (by omega), ?_⟩
        rintro _ rfl
        exact h0 e _ hd hk ⟨Keep.tr k3 (Keep.tr (KR.m KR.pos) (Keep.tr c5.1.m (Keep.rf.wI rfl))), c5.2.1, c5.2.2⟩
    · rw [if_neg e2] at hd
      have h4 := h3.kr c4.1
      have hk := hdr_kd hd
      obtain ⟨p4, hp4, hp5⟩ := h4.at_of z4
      refine r_blanks h4 hp4 hp5 ?_
      refine ⟨_, h4.pos.1.f108, ?_⟩
      intro K hK
      rw [if_neg (by rw [fI_at2, c4.2.1]; exact hk.ne)]
      apply hK
      refine ⟨by show vp_in _ (aN S4 (A 45)); rw [h4.1.n45]; exact vp_in_nI hx (by omega), ?_⟩
      rintro _ rfl
      exact h0 _ _ hd hk ⟨Keep.tr k3 (Keep.tr c4.1.m ((Keep.rf.sI rfl).wI rfl)), c4.2.1, c4.2.2⟩
  · rw [e1] at hd
    have h3 := h2.kr c1.1
    have hk := hdr_kd hd
    refine ⟨by rw [h3.1.n44]; exact vp_in_nI hx (by omega), ?_⟩
    rintro _ rfl
    refine r_want_f (by rw [fI_wI, c1.2.1]; exact hk.ne) ?_
    obtain ⟨p4, hp4, hp5⟩ := h3.at_of z1
    have h6 : RT (wI S1 44 (A 44) x r) A B n := h3.km (Keep.rf.wI rfl)
    refine r_blanks h6 hp4 hp5 ?_
    refine ⟨_, h6.pos.1.f108, ?_⟩
    intro K hK
    rw [if_neg (by rw [fI_at2, fI_wI, c1.2.1]; exact hk.ne)]
    apply hK
    refine ⟨by show vp_in _ (aN S1 (A 45)); rw [h3.1.n45]; exact vp_in_nI hx (by omega), ?_⟩
    rintro _ rfl
    exact h0 e _ hd hk ⟨Keep.tr (Keep.tr (Keep.rf.wI rfl) c1.1.m) (((Keep.rf.wI rfl).sI rfl).wI rfl), c1.2.1, c1.2.2⟩
end
