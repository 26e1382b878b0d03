/-! The class's reader: numbers. -/
section
variable {S : PS} {A : Nat → Nat} {B : Nat → Int32} {n p : Nat}
theorem lN_tI {k : Nat} (h : k < 2 ^ 63) : (lN k).toInt = k := Int64.toInt_ofNat_of_lt h
theorem lN_leq {a b : Nat} (ha : a < 2 ^ 63) (hb : b < 2 ^ 63) : lN a ≤ lN b ↔ a ≤ b := Int64.ofNat_le_iff_le ha hb
theorem lN_ltq {a b : Nat} (ha : a < 2 ^ 63) (hb : b < 2 ^ 63) : lN a < lN b ↔ a < b := Int64.ofNat_lt_iff_lt ha hb
theorem lN_eqq {a b : Nat} (ha : a < 2 ^ 63) (hb : b < 2 ^ 63) : lN a = lN b ↔ a = b := by
  rw [← Int64.toInt_inj, lN_tI ha, lN_tI hb]; omega
theorem nI_ofi {x : Int32} {k : Nat} (h : x.toInt = k) (hk : k < 2 ^ 31) : x = nI k := Int32.toInt_inj.mp (by rw [nI_toInt hk, h])
def dg (c : Int32) : Nat := (c.toInt - 48).toNat
theorem isDig_iff {c : Int32} : isDig c = true ↔ 48 ≤ c.toInt ∧ c.toInt ≤ 57 := by
  unfold isDig; rw [decide_eq_true_iff, Int32.le_iff_toInt_le, Int32.le_iff_toInt_le]; exact Iff.rfl
theorem isDig_of {c : Int32} (h : isDig c = true) : c = nI (48 + dg c) ∧ dg c ≤ 9 := by
  rw [isDig_iff] at h
  have h1 : dg c ≤ 9 := by unfold dg; omega
  exact ⟨nI_ofi (by unfold dg; omega) (by omega), h1⟩
theorem dg_i {c : Int32} (h : isDig c = true) : c - 48 = nI (dg c) := by
  obtain ⟨h1, h2⟩ := isDig_of h
  conv => lhs; rw [h1]
  show nI (48 + dg c) - nI 48 = _
  rw [nI_sub (by omega)]; congr 1; omega
theorem dg_l {c : Int32} (h : isDig c = true) : (c - 48).toInt64 = lN (dg c) := by
  rw [dg_i h, nI_l (by have := (isDig_of h).2; omega)]
def dvl (B : Nat → Int32) : Nat → Nat → Nat
  | 0, _ => 0
  | k + 1, p => dvl B k p * 10 + dg (B (p + k))
theorem dvl_lt {k : Nat} (hd : ∀ q, p ≤ q → q < p + k → isDig (B q) = true) : dvl B k p < 10 ^ k := by
  induction k with
  | zero => exact Nat.one_pos
  | succ k ih =>
    have h1 := ih (fun q a b => hd q a (by omega))
    have h2 := (isDig_of (hd (p + k) (by omega) (by omega))).2
    rw [dvl, Nat.pow_succ]; omega
def dig (B : Nat → Int32) (w p : Nat) : Except (Nat × Nat) (Nat × Nat) := if sc isDig B p = p then .error (1, p) else if w < sc isDig B p - p then .error (2, p) else .ok (dvl B (sc isDig B p - p) p, sc isDig B p)
def ran (lo hi p : Nat) (r : Except (Nat × Nat) (Nat × Nat)) : Except (Nat × Nat) (Nat × Nat) := match r with
  | .error e => .error e
  | .ok (v, q) => if v < lo ∨ hi < v then .error (2, p) else .ok (v, q)
def num (B : Nat → Int32) (lo hi p : Nat) : Except (Nat × Nat) (Nat × Nat) := ran lo hi (bl B p) (dig B 3 (bl B p))
theorem dig_ok {w v q : Nat} (hB : Tx B n) (hp : p ≤ n) (h : dig B w p = .ok (v, q)) : p < q ∧ q ≤ n ∧ q ≤ p + w ∧ v < 10 ^ w := by
  unfold dig at h
  split at h
  · cases h
  · split at h
    · cases h
    · injection h with h
      injection h with h1 h2
      have a := sc_ge (f := isDig) (B := B) (p := p)
      have b := sc_le (f := isDig) hB (by decide) hp
      refine ⟨by omega, by omega, by omega, ?_⟩
      rw [← h1]
      refine Nat.lt_of_lt_of_le (dvl_lt (fun q c d => sc_in c (by omega))) (Nat.pow_le_pow_right (by omega) (by omega))
theorem ran_ok {lo hi v q : Nat} {r : Except (Nat × Nat) (Nat × Nat)} (h : ran lo hi p r = .ok (v, q)) : r = .ok (v, q) ∧ lo ≤ v ∧ v ≤ hi := by
  unfold ran at h
  split at h
  · cases h
  · split at h
    · cases h
    · injection h with h
      injection h with h1 h2
      subst h1 h2
      exact ⟨rfl, by omega, by omega⟩
theorem num_ok {lo hi v q : Nat} (hB : Tx B n) (hp : p ≤ n) (h : num B lo hi p = .ok (v, q)) : p < q ∧ q ≤ n ∧ lo ≤ v ∧ v ≤ hi := by
  obtain ⟨h1, h2, h3⟩ := ran_ok h
  have := dig_ok hB (bl_le hB hp) h1
  have := bl_ge (B := B) (p := p)
  exact ⟨by omega, by omega, h2, h3⟩
theorem s_isDigit {Q : Int32 → PS → Prop} {c : Int32} (h1 : isDig c = true → Q 1 S) (h0 : isDig c = false → Q 0 S) : wp_X7_isDigit c S Q := by
  unfold wp_X7_isDigit
  by_cases h : isDig c = true
  · have h2 := isDig_iff.mp h
    rw [if_neg, if_neg]
    · exact h1 h
    · rw [Int32.lt_iff_toInt_lt]; show ¬ (57 : Int) < _; omega
    · rw [Int32.lt_iff_toInt_lt]; show ¬ _ < (48 : Int); omega
  · have h3 := h0 (Bool.eq_false_iff.mpr h)
    rw [isDig_iff] at h
    by_cases e : c < 48
    · rw [if_pos e]; exact h3
    · rw [if_neg e, if_pos]; exact h3
      rw [Int32.lt_iff_toInt_lt] at e ⊢
      have e1 : (48 : Int32).toInt = 48 := by decide
      have e2 : (57 : Int32).toInt = 57 := by decide
      omega
theorem CF.tr {S1 S2 : PS} {e : Nat × Nat} (g : KL S S1) (h : CF S1 S2 A e) : CF S S2 A e := CF.of g h
theorem s_refuseNumber {Q : Int32 → PS → Prop} {q : Nat} (h : CT S A B n) (hp : fI S 66 (A 6) = nI q) (hQ : ∀ S1, CF S S1 A (2, q) → Q 0 S1) : wp_X7_refuseNumber (A 6) S Q := by
  unfold wp_X7_refuseNumber
  refine ⟨_, h.1.f59, ?_⟩
  rw [hp]
  exact s_tell (hQ _ (CF_tell (k := 2)))
theorem s_digits {Q : Int32 → PS → Prop} {w : Nat} (h : CT S A B n) (hp : fI S 60 (A 6) = nI p) (hpn : p ≤ n) (hw : w ≤ 10)
    (h1 : ∀ v q S1, dig B w p = .ok (v, q) → KL S S1 → fI S1 60 (A 6) = nI q → fL S1 65 (A 6) = lN v → fI S1 66 (A 6) = nI p → Q 1 S1)
    (h0 : ∀ e S1, dig B w p = .error e → CF S S1 A e → Q 0 S1) : wp_X7_digits (A 6) (nI w) S Q := by
  have hn := h.2.2.1.1
  unfold wp_X7_digits
  rintro _ rfl _ rfl P hP
  have key : ∀ k p1 S1, 1500 - p1 = k → p ≤ p1 → p1 ≤ n → sc isDig B p1 = sc isDig B p → KL S S1 → fI S1 60 (A 6) = nI p1 → fI S1 66 (A 6) = nI p → (p1 ≤ p + w → fL S1 65 (A 6) = lN (dvl B (p1 - p) p)) → P S1 := by
    intro k
    induction k with
    | zero =>
      intro p1 S1 a1 a2 a3 a4 a5 a6 a7 a8
      have hc := h.kl a5
      apply hP
      refine ⟨_, hc.1.f58, ?_⟩
      intro K hK
      rw [hc.2.1, a6, if_pos (nI_le (by omega) (by omega))]
      have e1 : sc isDig B p = p1 := by rw [← a4]; exact sc_stop (by rw [h.2.2.1.2.1 p1 (by omega)]; decide)
      apply hK
      rw [a6, a7]
      have hd : dig B w p = if p1 = p then .error (1, p) else if w < p1 - p then .error (2, p) else .ok (dvl B (p1 - p) p, p1) := by unfold dig; rw [e1]
      by_cases c1 : p1 = p
      · rw [if_pos (by rw [c1])]
        rw [if_pos c1] at hd
        exact s_refuse hc a6 (fun S2 h2 => h0 _ S2 (by rw [hd, c1]) (CF.of a5 h2))
      · rw [if_neg (by rw [nI_eq (by omega) (by omega)]; exact c1), nI_sub a2]
        rw [if_neg c1] at hd
        by_cases c2 : w < p1 - p
        · rw [if_neg (nI_ge c2 (by omega))]
          rw [if_pos c2] at hd
          refine s_refuseNumber hc a7 (fun S2 h2 => ?_)
          rw [if_pos rfl]; exact h0 _ S2 hd (CF.of a5 h2)
        · rw [if_pos (nI_le (by omega) (by omega))]
          rw [if_neg c2] at hd
          exact h1 _ _ S1 hd a5 a6 (a8 (by omega)) a7
    | succ k ih =>
      intro p1 S1 a1 a2 a3 a4 a5 a6 a7 a8
      have hc := h.kl a5
      apply hP
      refine ⟨_, hc.1.f58, ?_⟩
      intro K hK
      have hend : isDig (B p1) = false → K S1 := by
        intro hf
        have e1 : sc isDig B p = p1 := by rw [← a4]; exact sc_stop hf
        apply hK
        rw [a6, a7]
        have hd : dig B w p = if p1 = p then .error (1, p) else if w < p1 - p then .error (2, p) else .ok (dvl B (p1 - p) p, p1) := by unfold dig; rw [e1]
        by_cases c1 : p1 = p
        · rw [if_pos (by rw [c1])]
          rw [if_pos c1] at hd
          exact s_refuse hc a6 (fun S2 h2 => h0 _ S2 (by rw [hd, c1]) (CF.of a5 h2))
        · rw [if_neg (by rw [nI_eq (by omega) (by omega)]; exact c1), nI_sub a2]
          rw [if_neg c1] at hd
          by_cases c2 : w < p1 - p
          · rw [if_neg (nI_ge c2 (by omega))]
            rw [if_pos c2] at hd
            refine s_refuseNumber hc a7 (fun S2 h2 => ?_)
            rw [if_pos rfl]; exact h0 _ S2 hd (CF.of a5 h2)
          · rw [if_pos (nI_le (by omega) (by omega))]
            rw [if_neg c2] at hd
            exact h1 _ _ S1 hd a5 a6 (a8 (by omega)) a7
      rw [hc.2.1, a6]
      rcases Nat.lt_or_ge p1 n with hlt | hge
      · rw [if_neg (nI_ge hlt (by omega))]
        refine s_next hc a6 a3 ?_
        refine s_isDigit (fun hd => ?_) (fun hd => ?_)
        · rw [if_neg (by decide)]
          intro K2 hK2
          rw [a6, a7, nI_sub a2]
          by_cases c : w ≤ p1 - p
          · rw [if_pos (nI_le c (by omega))]
            apply hK2
            rintro _ rfl
            rw [a6, nI_1]
            refine ih (p1 + 1) _ (by omega) (by omega) (by omega) ?_ (a5.tr (Keep.rf.sI rfl)) fI_pos ?_ (fun c1 => by omega)
            · rw [← sc_go hd (by omega)]; exact a4
            · rw [fI_sn _ _ _ _ _ (by decide)]; exact a7
          · rw [if_neg (nI_ge (by omega) (by omega))]
            refine s_next hc a6 a3 ?_
            rintro _ rfl
            apply hK2
            rintro _ rfl
            rw [a8 (by omega), dg_l hd]
            have e2 : lN (dvl B (p1 - p) p) * 10 + lN (dg (B p1)) = lN (dvl B (p1 + 1 - p) p) := by
              have e3 : p1 + 1 - p = (p1 - p) + 1 := by omega
              have e4 : p + (p1 - p) = p1 := by omega
              rw [e3, dvl, e4, ← lN_add, ← lN_mul]; rfl
            rw [e2]
            have e5 : fI (sL S1 65 (A 6) (lN (dvl B (p1 + 1 - p) p))) 60 (A 6) = nI p1 := a6
            rw [e5, nI_1]
            refine ih (p1 + 1) _ (by omega) (by omega) (by omega) ?_ (a5.tr ((Keep.rf.sL rfl).sI rfl)) fI_pos ?_ (fun c1 => ?_)
            · rw [← sc_go hd (by omega)]; exact a4
            · rw [fI_sn _ _ _ _ _ (by decide)]; exact a7
            · show fL (sL S1 65 (A 6) _) 65 (A 6) = _
              rw [fL_sL, if_pos ⟨rfl, rfl⟩]
        · rw [if_pos rfl]; exact hend hd
      · rw [if_pos (nI_le hge (by omega))]
        exact hend (by rw [h.2.2.1.2.1 p1 hge]; decide)
  refine key _ p _ rfl (Nat.le_refl p) hpn rfl ((Keep.rf.sI rfl).sL rfl) ?_ ?_ (fun _ => ?_)
  · simp only [fI_s, fI_sn, fL_s, fL_sn, aI_w, aI_wn, aL_w, aL_wn, fI_sL, fI_wI, fI_wL, fL_sI, fL_wI, fL_wL, aI_sI, aI_sL, aI_wL, aL_sI, aL_sL, aL_wI, fR_sI, fR_sL, fR_wI, fR_wL, aN_sI, aN_sL, aN_wI, aN_wL, ne_eq, Nat.reduceEqDiff, not_false_eq_true]; exact hp
  · simp only [fI_s, fI_sn, fL_s, fL_sn, aI_w, aI_wn, aL_w, aL_wn, fI_sL, fI_wI, fI_wL, fL_sI, fL_wI, fL_wL, aI_sI, aI_sL, aI_wL, aL_sI, aL_sL, aL_wI, fR_sI, fR_sL, fR_wI, fR_wL, aN_sI, aN_sL, aN_wI, aN_wL, ne_eq, Nat.reduceEqDiff, not_false_eq_true]; exact hp
  · rw [fL_sL, if_pos ⟨rfl, rfl⟩, Nat.sub_self, dvl]; rfl
theorem s_inRange {Q : Int32 → PS → Prop} {lo hi v q : Nat} (h : CT S A B n) (hv : fL S 65 (A 6) = lN v) (hq : fI S 66 (A 6) = nI q) (b1 : lo < 2 ^ 63) (b2 : hi < 2 ^ 63) (b3 : v < 2 ^ 63)
    (h1 : lo ≤ v → v ≤ hi → Q 1 S) (h0 : v < lo ∨ hi < v → ∀ S1, CF S S1 A (2, q) → Q 0 S1) : wp_X7_inRange (A 6) (lN lo) (lN hi) S Q := by
  unfold wp_X7_inRange
  intro K hK
  have hk : (v < lo ∨ hi < v) → K S := fun c => by
    apply hK
    refine s_refuseNumber h hq (fun S2 h2 => ?_)
    rw [if_pos rfl]; exact h0 c S2 h2
  rw [hv]
  by_cases c : v < lo
  · rw [if_pos ((lN_ltq b3 b1).mpr c)]; exact hk (Or.inl c)
  · rw [if_neg (fun e => c ((lN_ltq b3 b1).mp e))]
    by_cases d : v ≤ hi
    · rw [if_pos ((lN_leq b3 b2).mpr d)]; exact h1 (by omega) d
    · rw [if_neg (fun e => d ((lN_leq b3 b2).mp e))]; exact hk (Or.inr (by omega))
theorem s_number {Q : Int32 → PS → Prop} {lo hi : Nat} (h : CT S A B n) (hp : fI S 60 (A 6) = nI p) (hpn : p ≤ n) (hl : lo < 1000) (hh : hi < 1000)
    (h1 : ∀ v q S1, num B lo hi p = .ok (v, q) → KL S S1 → fI S1 60 (A 6) = nI q → fL S1 65 (A 6) = lN v → fI S1 66 (A 6) = nI (bl B p) → Q 1 S1)
    (h0 : ∀ e S1, num B lo hi p = .error e → CF S S1 A e → Q 0 S1) : wp_X7_number (A 6) (nI lo) (nI hi) S Q := by
  unfold wp_X7_number
  refine s_blanks h hp hpn ?_
  refine s_digits (w := 3) h.pos fI_pos (bl_le h.2.2.1 hpn) (by omega) (fun v q S1 e1 k1 f1 f2 f3 => ?_) (fun e S1 e1 c1 => ?_)
  · rw [if_neg (by decide), nI_l (by omega), nI_l (by omega)]
    have hb := dig_ok h.2.2.1 (bl_le h.2.2.1 hpn) e1
    refine s_inRange (h.pos.kl k1) f2 f3 (by omega) (by omega) (by omega) (fun a b => ?_) (fun c S2 h2 => ?_)
    · rw [if_neg (by decide)]
      refine h1 v q S1 ?_ (KL.pos.tr k1) f1 f2 f3
      unfold num ran; rw [e1]; simp only []; rw [if_neg (by omega)]
    · rw [if_pos rfl]
      refine h0 _ S2 ?_ (CF.of (KL.pos.tr k1) h2)
      unfold num ran; rw [e1]; simp only []; rw [if_pos c]
  · rw [if_pos rfl]
    refine h0 _ S1 ?_ (CF.of KL.pos c1)
    unfold num ran; rw [e1]
end
