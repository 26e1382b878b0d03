/-! Bars. -/
section
variable {S S1 Sr Sr1 : PS} {A : Nat → Nat} {b m : Nat}
variable {E V M nd st t n : Nat} {vo ti le pc : Nat → Nat} {cs : Nat → Nat → Nat} {td co : Nat → Bool} {wp wz : Nat → Nat → Nat} {vb mt mu md : Nat → Nat} {od w : Nat → Int32}
/-- bar b lies in meter m -/
def Mob (M t : Nat) (mt mu md : Nat → Nat) (b m : Nat) : Prop := m < M ∧ bsm M t mt mu md m ≤ b ∧ b < bsm M t mt mu md (m + 1)
theorem mob_ex : ∀ k, k ≤ M → b < bsm M t mt mu md k → ∃ m, Mob M t mt mu md b m := by
  intro k
  induction k with
  | zero => intro _ h; exact absurd h (Nat.not_lt_zero _)
  | succ k ih =>
    intro hk h
    rcases Nat.lt_or_ge b (bsm M t mt mu md k) with z | z
    · exact ih (by omega) z
    · exact ⟨k, by omega, z, h⟩
theorem bsm_mono : ∀ j i, bsm M t mt mu md i ≤ bsm M t mt mu md (i + j) := by
  intro j
  induction j with
  | zero => intro i; exact Nat.le_refl _
  | succ j ih =>
    intro i
    have := ih i
    rw [show i + (j + 1) = i + j + 1 by omega, bsm]; omega
theorem Mob.ahead {i : Nat} (h : Mob M t mt mu md b m) (hi : i < m) : bsm M t mt mu md i + bof M t mt mu md i ≤ b := by
  have := bsm_mono (M := M) (t := t) (mt := mt) (mu := mu) (md := md) (m - (i + 1)) (i + 1)
  rw [show i + 1 + (m - (i + 1)) = m by omega, bsm] at this
  have := h.2.1
  omega
theorem Mob.left (h : Mob M t mt mu md b m) : b - bsm M t mt mu md m < bof M t mt mu md m := by
  have h3 := h.2.2
  rw [bsm] at h3
  have := h.2.1
  omega
theorem Mob.all (h : Mob M t mt mu md b m) : b < bsm M t mt mu md M := by
  have := bsm_mono (M := M) (t := t) (mt := mt) (mu := mu) (md := md) (M - (m + 1)) (m + 1)
  rw [show m + 1 + (M - (m + 1)) = M by have := h.1; omega] at this
  have := h.2.2
  omega
theorem c_meterOf {Q : Int32 → PS → Prop} (hc : Dcl S A E V M nd st t n vo ti le pc cs td co wp wz vb mt mu md od w) (hd : Dok E V M nd st t n vo ti le pc cs td co wp wz vb mt mu md od w) (hb : b < 2 ^ 31) (h : Mob M t mt mu md b m) (hQ : Q (nI m) S) : wp_X2_meterOfBar (A 2) (nI b) S Q := by
  have hM := hd.1
  have hm := h.1
  unfold wp_X2_meterOfBar
  intro P hP
  have key : ∀ j i, i + j = m → P (nI (b - bsm M t mt mu md i)) (nI i) S := by
    intro j
    induction j with
    | zero =>
      intro i hi
      have e : i = m := by omega
      subst e
      apply hP
      rw [hc.2.1.2.2.2.2.2, nI_pr (by omega)]
      by_cases c : i = M - 1
      · rw [if_pos (nI_le (by omega) (by omega)), ← c]; exact hQ
      · rw [if_neg (nI_ge (by omega) (by omega))]
        refine c_barsOf hc hd (by omega) ?_
        have bb := bof_b hd (k := i) (by omega)
        have := h.left
        rw [if_neg (nI_ge this (by omega))]
        exact hQ
    | succ j ih =>
      intro i hi
      apply hP
      have ha := h.ahead (i := i) (by omega)
      rw [hc.2.1.2.2.2.2.2, nI_pr (by omega), if_neg (nI_ge (by omega) (by omega))]
      refine c_barsOf hc hd (by omega) ?_
      rw [if_pos (nI_le (by omega) (by omega))]
      rintro _ rfl _ rfl
      rw [nI_sub (by omega), nI_1]
      have := ih (i + 1) (by omega)
      rw [bsm] at this
      rw [show b - bsm M t mt mu md i - bof M t mt mu md i = b - (bsm M t mt mu md i + bof M t mt mu md i) by omega]
      exact this
  exact key m 0 (by omega)
theorem c_beginOf {Q : Int64 → PS → Prop} (hc : Dcl S A E V M nd st t n vo ti le pc cs td co wp wz vb mt mu md od w) (hd : Dok E V M nd st t n vo ti le pc cs td co wp wz vb mt mu md od w) (hb : b < 2 ^ 31) (h : Mob M t mt mu md b m) (hQ : Q (lN (mt m + (b - bsm M t mt mu md m) * blg mu md m)) S) : wp_X2_beginOfBar (A 2) (nI b) S Q := by
  have hM := hd.1
  have hm := h.1
  have hl := hc.1
  unfold wp_X2_beginOfBar
  refine c_meterOf hc hd hb h ?_
  intro P hP
  have key : ∀ j i, i + j = m → P (nI (b - bsm M t mt mu md i)) (nI i) S := by
    intro j
    induction j with
    | zero =>
      intro i hi
      have e : i = m := by omega
      subst e
      apply hP
      rw [if_pos (nI_le (by omega) (by omega))]
      refine ⟨_, hl.f18, by rw [hl.n10]; exact vp_in_nI (by omega) (by omega), ?_⟩
      refine c_barT hc hd hm ?_
      rw [nI_clamp (by omega), (hc.2.2.2.2.1 i hm).1, nI_l (by omega), lN_mul, lN_add]
      exact hQ
    | succ j ih =>
      intro i hi
      apply hP
      have ha := h.ahead (i := i) (by omega)
      rw [if_neg (nI_ge (by omega) (by omega))]
      refine c_barsOf hc hd (by omega) ?_
      rintro _ rfl _ rfl
      rw [nI_sub (by omega), nI_1]
      have := ih (i + 1) (by omega)
      rw [bsm] at this
      rw [show b - bsm M t mt mu md i - bof M t mt mu md i = b - (bsm M t mt mu md i + bof M t mt mu md i) by omega]
      exact this
  exact key m 0 (by omega)
theorem c_begun {Q : Int32 → PS → Prop} {x y : Nat} (hc : Dcl S A E V M nd st t n vo ti le pc cs td co wp wz vb mt mu md od w) (hd : Dok E V M nd st t n vo ti le pc cs td co wp wz vb mt mu md od w) (hx : x < 2 ^ 62) (hy : y < 2 ^ 62) (hQ : Q (nI (cntf (fun e => decide (x ≤ ti e ∧ ti e < y)) E)) S) : wp_X8_countBegun (A 7) (lN x) (lN y) S Q := by
  have hE := hd.1.1
  have hl := hc.1
  unfold wp_X8_countBegun
  intro P hP
  have vi : ∀ {r k : Nat}, r = 300 → k < E → vp_in (nI k) r := fun h hk => by rw [h]; exact vp_in_nI (by omega) (by omega)
  have key : ∀ j i, i + j = E → P (nI (cntf (fun e => decide (x ≤ ti e ∧ ti e < y)) i)) (nI i) S := by
    intro j
    induction j with
    | zero =>
      intro i hi
      apply hP
      rw [hc.2.1.1, if_pos (nI_le (by omega) (by omega)), show i = E by omega]
      exact hQ
    | succ j ih =>
      intro i hi
      apply hP
      rw [hc.2.1.1, if_neg (nI_ge (by omega) (by omega))]
      refine ⟨_, hl.f72, vi hl.n29 (by omega), ?_⟩
      intro K hK
      have go := ih (i + 1) (by omega)
      rw [cntf] at go
      have tb := (hd.2.1 i (by omega)).1
      rw [nI_clamp (by omega), (hc.2.2.1 i (by omega)).2.1]
      have no : ¬ (x ≤ ti i ∧ ti i < y) → K (nI (cntf (fun e => decide (x ≤ ti e ∧ ti e < y)) i)) S := fun z => by
        rw [if_neg (by rw [decide_eq_true_iff]; exact z)] at go
        apply hK
        rintro _ rfl
        rw [nI_1]; exact go
      by_cases c1 : ti i < x
      · rw [if_pos ((lN_ltq (by omega) (by omega)).mpr c1)]; exact no (by omega)
      · rw [if_neg (fun z => c1 ((lN_ltq (by omega) (by omega)).mp z))]
        refine ⟨_, hl.f72, vi hl.n29 (by omega), ?_⟩
        rw [(hc.2.2.1 i (by omega)).2.1]
        by_cases c2 : y ≤ ti i
        · rw [if_pos ((lN_leq (by omega) (by omega)).mpr c2)]; exact no (by omega)
        · rw [if_neg (fun z => c2 ((lN_leq (by omega) (by omega)).mp z))]
          rw [if_pos (by rw [decide_eq_true_iff]; omega)] at go
          rintro _ rfl
          apply hK
          rintro _ rfl
          rw [nI_1, nI_1]; exact go
  exact key E 0 (by omega)
/-- where a bar begins -/
def bgn (M t : Nat) (mt mu md : Nat → Nat) (b m : Nat) : Nat := mt m + (b - bsm M t mt mu md m) * blg mu md m
theorem bgn_b (hd : Dok E V M nd st t n vo ti le pc cs td co wp wz vb mt mu md od w) (h : Mob M t mt mu md b m) : bgn M t mt mu md b m < 2 ^ 60 := by
  have b1 := blg_b hd h.1
  have b2 := bof_b hd h.1
  have b3 := h.left
  have b4 := mt_t hd h.1
  have b5 := hd.1.2.2.2.2.2.2
  have : (b - bsm M t mt mu md m) * blg mu md m ≤ 32001 * 123863040 := Nat.mul_le_mul (by omega) b1.2
  unfold bgn
  omega
def bAn (E M t : Nat) (ti mt mu md : Nat → Nat) (b m k : Nat) : Int64 := if k = 0 then lN (bgn M t mt mu md b m) else if k = 1 then (nI (mu m)).toInt64 else if k = 2 then (nI (md m)).toInt64 else lN (cntf (fun e => decide (bgn M t mt mu md b m ≤ ti e ∧ ti e < bgn M t mt mu md b m + blg mu md m)) E)
theorem c_bar {Q : Int64 → PS → Prop} {QX : String → PS → Prop} {p p2 : Int32} (hc : Dcl S A E V M nd st t n vo ti le pc cs td co wp wz vb mt mu md od w) (hd : Dok E V M nd st t n vo ti le pc cs td co wp wz vb mt mu md od w) (h94 : fR S 94 (A 8) = some (A 7)) (h1 : ∀ b m k, p = nI b → b < 2 ^ 31 → Mob M t mt mu md b m → p2 = nI k → k ≤ 3 → Q (bAn E M t ti mt mu md b m k) S) (h0 : (∀ b, b < 2 ^ 31 → p = nI b → ¬ b < bsm M t mt mu md M) → QX "java/lang/IndexOutOfBoundsException" S) (h2 : ∀ b m, p = nI b → b < 2 ^ 31 → Mob M t mt mu md b m → (∀ k, k ≤ 3 → p2 ≠ nI k) → QX "java/lang/IllegalArgumentException" S) : wp_X11_bar (A 8) p p2 S Q QX := by
  have hM := hd.1
  have hl := hc.1
  unfold wp_X11_bar
  refine ⟨_, h94, _, hl.f83, ?_⟩
  intro K hK
  by_cases c : p < 0
  · rw [if_pos c]
    exact hK _ (h0 (fun i hi e => absurd (by rw [← e]; exact c) (nI_pos (n := i) hi)))
  rw [if_neg c]
  obtain ⟨b, hb, rfl⟩ := nI_of c
  refine ⟨_, h94, ?_⟩
  rw [hc.2.1.2.2.2.2.1]
  refine c_ahead hc hd ?_
  have bb := bsm_b hd M (Nat.le_refl M)
  by_cases c2 : b < bsm M t mt mu md M
  · rw [if_pos (nI_lt c2 (by omega))]
    obtain ⟨m, hm⟩ := mob_ex M (Nat.le_refl M) c2
    have h1' := fun k => h1 b m k rfl hb hm
    have b1 := blg_b hd hm.1
    have b6 := bgn_b hd hm
    refine c_meterOf hc hd hb hm (c_beginOf hc hd hb hm ?_)
    have hm1 := hm.1
    obtain ⟨_, g2, g3⟩ := hc.2.2.2.2.1 m hm1
    have vi : ∀ {r : Nat}, r = 40 → vp_in (nI m) r := fun h => by rw [h]; exact vp_in_nI (by omega) (by omega)
    by_cases e0 : p2 = 0
    · rw [if_pos e0]; exact h1' 0 e0 (by omega)
    rw [if_neg e0]
    by_cases e1 : p2 = 1
    · rw [if_pos e1]; refine ⟨_, hl.f19, vi hl.n11, ?_⟩; rw [nI_clamp (by omega), g2]; exact h1' 1 e1 (by omega)
    rw [if_neg e1]
    by_cases e2 : p2 = 2
    · rw [if_pos e2]; refine ⟨_, hl.f20, vi hl.n12, ?_⟩; rw [nI_clamp (by omega), g3]; exact h1' 2 e2 (by omega)
    rw [if_neg e2]
    by_cases e3 : p2 = 3
    · rw [if_pos e3]
      refine ⟨_, h94, c_barT hc hd hm1 ?_⟩
      rw [lN_add]
      have h3 := h1' 3 e3 (by omega)
      unfold bAn at h3
      rw [if_neg (by decide), if_neg (by decide), if_neg (by decide)] at h3
      refine c_begun (x := bgn M t mt mu md b m) (y := bgn M t mt mu md b m + blg mu md m) hc hd (by omega) (by omega) ?_
      have ce := cntf_le (f := fun e => decide (bgn M t mt mu md b m ≤ ti e ∧ ti e < bgn M t mt mu md b m + blg mu md m)) E
      rw [nI_l (by omega)]
      exact h3
    rw [if_neg e3]
    refine h2 b m rfl hb hm (fun k hk e => ?_)
    have hh : k = 0 ∨ k = 1 ∨ k = 2 ∨ k = 3 := by omega
    rcases hh with rfl | rfl | rfl | rfl
    · exact e0 e
    · exact e1 e
    · exact e2 e
    · exact e3 e
  · rw [if_neg (nI_nlt (by omega) hb)]
    exact hK _ (h0 (fun b' hb' e => by rw [nI_eq hb hb'] at e; rw [← e]; exact c2))
theorem r_bar {Q : Int64 → PS → Prop} {p p2 : Int32} (hr0 : Drf Sr A E V M nd st t n vo ti le pc cs td co wp wz vb mt mu md od w) (hd : Dok E V M nd st t n vo ti le pc cs td co wp wz vb mt mu md od w) (h1 : ∀ b m k, p = nI b → b < 2 ^ 31 → Mob M t mt mu md b m → p2 = nI k → k ≤ 3 → Q (bAn E M t ti mt mu md b m k) (sI Sr 96 (A 9) 0)) (h0 : (∀ b, b < 2 ^ 31 → p = nI b → ¬ b < bsm M t mt mu md M) → Q 0 (sI Sr 96 (A 9) 1)) (h2 : ∀ b m, p = nI b → b < 2 ^ 31 → Mob M t mt mu md b m → (∀ k, k ≤ 3 → p2 ≠ nI k) → Q 0 (sI Sr 96 (A 9) 2)) : wp_X12_bar (A 9) p p2 Sr Q := by
  have hM := hd.1
  unfold wp_X12_bar
  rintro _ rfl
  intro P hP
  by_cases c : p < 0
  · have h0' := h0 (fun i hi e => absurd (by rw [← e]; exact c) (nI_pos (n := i) hi))
    apply hP
    intro K hK
    rw [hr0.2.1.2.2.2.2.1, show (0 : Int32) = nI 0 from rfl, if_neg (nI_ge (by omega) (by omega))]
    refine r_barsOf hr0 hd (by omega) ?_
    have bb := bof_b hd (k := 0) (by omega)
    rw [if_pos (by
      rw [Int64.lt_iff_toInt_lt, Int32.toInt_toInt64, lN_tI (by omega)]
      rw [Int32.lt_iff_toInt_lt] at c
      have : (0 : Int32).toInt = 0 := by decide
      omega)]
    apply hK
    intro K2 hK2
    rw [if_pos c]
    apply hK2
    rintro _ rfl
    rw [fI_s, if_neg (by decide)]
    exact h0'
  · obtain ⟨b, hb, rfl⟩ := nI_of c
    rw [nI_l hb, show (0 : Int32) = nI 0 from rfl]
    by_cases c2 : b < bsm M t mt mu md M
    · obtain ⟨m, hm⟩ := mob_ex M (Nat.le_refl M) c2
      have hm1 := hm.1
      have key : ∀ j i, i + j = m → P (nI i) (lN (b - bsm M t mt mu md i)) Sr := by
        intro j
        induction j with
        | zero =>
          intro i hi
          have e : i = m := by omega
          subst e
          apply hP
          intro K hK
          have bb := bof_b hd (k := i) hm1
          have hlf := hm.left
          rw [hr0.2.1.2.2.2.2.1, if_neg (nI_ge hm1 (by omega))]
          refine r_barsOf hr0 hd hm1 ?_
          rw [if_pos ((lN_ltq (by omega) (by omega)).mpr hlf)]
          apply hK
          intro K2 hK2
          rw [if_neg c, hr0.2.1.2.2.2.2.1, if_neg (by rw [nI_eq (by omega) (by omega)]; omega)]
          refine in_n (a := 0) (b := 3) rfl rfl (by omega) (by omega) (fun k hp2 _ hk => ?_) (fun hn => ?_)
          · rw [if_neg (by decide)]
            apply hK2
            rintro _ rfl
            have hr := hr0.s96 (v := 0)
            have lm := hr.1
            have h1' := h1 b i k rfl hb hm hp2 hk
            rw [fI_s, if_pos (by decide)]
            generalize sI Sr 96 (A 9) 0 = S7 at *
            clear hK hK2 hP h1 h0 h2
            obtain ⟨a1, a2, a3⟩ := hd.2.2.2.1.1 i hm1
            obtain ⟨g1, g2, g3⟩ := hr.2.2.2.2.1 i hm1
            have vi : ∀ {r : Nat}, r = 40 → vp_in (nI i) r := fun h => by rw [h]; exact vp_in_nI (by omega) (by omega)
            have ci : (nI i).toNatClampNeg = i := nI_clamp (by omega)
            have b1 := blg_b hd hm1
            have b6 := bgn_b hd hm
            refine ⟨_, lm.f203, vi lm.n115, _, lm.f204, vi lm.n116, _, lm.f205, vi lm.n117, ?_⟩
            rw [ci, g1, g2, g3]
            unfold wp_X12_barLong
            refine ⟨(bl_e a2 a3).2, ?_⟩
            rw [(bl_e a2 a3).1]
            rintro _ rfl
            refine ⟨_, lm.f204, vi lm.n116, _, lm.f205, vi lm.n117, ?_⟩
            rw [g2, g3]
            refine ⟨(bl_e a2 a3).2, ?_⟩
            rw [(bl_e a2 a3).1]
            have hz : mu i * 3870720 / md i = blg mu md i := rfl
            rw [hz, lN_mul, lN_add]
            have hz2 : mt i + (b - bsm M t mt mu md i) * blg mu md i = bgn M t mt mu md b i := rfl
            rw [hz2]
            rintro _ rfl
            rw [lN_add]
            have pk : ∀ {a : Nat}, a ≤ 3 → p2 = nI a → k = a := fun ha e => by rw [hp2] at e; exact (nI_eq (by omega) (by omega)).mp e
            unfold bAn at h1'
            by_cases e3 : p2 = 3
            · rw [if_pos e3]
              have := pk (a := 3) (by omega) e3
              subst this
              rw [if_neg (by decide), if_neg (by decide), if_neg (by decide)] at h1'
              intro P2 hP2
              generalize hx : bgn M t mt mu md b i = x at *
              generalize hy : blg mu md i = y at *
              have key2 : ∀ j q, q + j = E → P2 (lN (cntf (fun e => decide (x ≤ ti e ∧ ti e < x + y)) q)) (nI q) S7 := by
                intro j
                induction j with
                | zero =>
                  intro q hq
                  apply hP2
                  rw [hr.2.1.1, if_pos (nI_le (by omega) (by omega)), show q = E by omega]
                  exact h1'
                | succ j ih =>
                  intro q hq
                  apply hP2
                  rw [hr.2.1.1, if_neg (nI_ge (by omega) (by omega))]
                  refine ⟨_, lm.f194, by rw [lm.n106]; exact vp_in_nI (by omega) (by omega), ?_⟩
                  have go := ih (q + 1) (by omega)
                  rw [cntf] at go
                  have tb := (hd.2.1 q (by omega)).1
                  rw [nI_clamp (by omega), (hr.2.2.1 q (by omega)).1.2.2.2.2.1, show (1 : Int64) = lN 1 from rfl, lN_sub (by omega)]
                  refine r_in (by omega) (by omega) (by omega) (fun y1 y2 => ?_) (fun y1 => ?_)
                  · intro K3 hK3
                    rw [if_neg (by decide)]
                    apply hK3
                    rw [if_pos (by rw [decide_eq_true_iff]; omega)] at go
                    rintro _ rfl _ rfl
                    rw [nI_1, lN_add]; exact go
                  · intro K3 hK3
                    rw [if_pos rfl]
                    apply hK3
                    rw [if_neg (by rw [decide_eq_true_iff]; omega)] at go
                    rintro _ rfl _ rfl
                    rw [nI_1, show (0 : Int64) = lN 0 from rfl, lN_add]; exact go
              exact key2 E 0 (by omega)
            rw [if_neg e3]
            by_cases e0 : p2 = 0
            · rw [if_pos e0]
              have := pk (a := 0) (by omega) e0
              subst this
              exact h1'
            rw [if_neg e0]
            by_cases e1 : p2 = 1
            · rw [if_pos e1]
              have := pk (a := 1) (by omega) e1
              subst this
              refine ⟨_, lm.f204, vi lm.n116, ?_⟩
              rw [g2]; exact h1'
            rw [if_neg e1]
            have ek : k = 2 := by
              have hh : k = 0 ∨ k = 1 ∨ k = 2 ∨ k = 3 := by omega
              rcases hh with rfl | rfl | rfl | rfl
              · exact absurd hp2 e0
              · exact absurd hp2 e1
              · rfl
              · exact absurd hp2 e3
            subst ek
            refine ⟨_, lm.f205, vi lm.n117, ?_⟩
            rw [g3]; exact h1'
          · rw [if_pos rfl]
            apply hK2
            rintro _ rfl
            rw [fI_s, if_neg (by decide)]
            exact h2 b i rfl hb hm (fun k hk => hn k (by omega) hk)
        | succ j ih =>
          intro i hi
          apply hP
          intro K hK
          have ha := hm.ahead (i := i) (by omega)
          rw [hr0.2.1.2.2.2.2.1, if_neg (nI_ge (by omega) (by omega))]
          refine r_barsOf hr0 hd (by omega) ?_
          rw [if_neg (fun z => by rw [lN_ltq (by omega) (by omega)] at z; omega)]
          refine r_barsOf hr0 hd (by omega) ?_
          rintro _ rfl _ rfl
          rw [lN_sub (by omega), nI_1]
          have := ih (i + 1) (by omega)
          rw [bsm] at this
          rw [show b - bsm M t mt mu md i - bof M t mt mu md i = b - (bsm M t mt mu md i + bof M t mt mu md i) by omega]
          exact this
      exact key m 0 (by omega)
    · have h0' := h0 (fun b' hb' e => by rw [nI_eq hb hb'] at e; rw [← e]; exact c2)
      have key : ∀ j i, i + j = M → P (nI i) (lN (b - bsm M t mt mu md i)) Sr := by
        intro j
        induction j with
        | zero =>
          intro i hi
          apply hP
          intro K hK
          rw [hr0.2.1.2.2.2.2.1, if_pos (nI_le (by omega) (by omega))]
          apply hK
          intro K2 hK2
          rw [if_neg c, hr0.2.1.2.2.2.2.1, if_pos (by rw [show i = M by omega])]
          apply hK2
          rintro _ rfl
          rw [fI_s, if_neg (by decide)]
          exact h0'
        | succ j ih =>
          intro i hi
          apply hP
          intro K hK
          have ha := bsm_mono (M := M) (t := t) (mt := mt) (mu := mu) (md := md) (M - (i + 1)) (i + 1)
          rw [show i + 1 + (M - (i + 1)) = M by omega, bsm] at ha
          rw [hr0.2.1.2.2.2.2.1, if_neg (nI_ge (by omega) (by omega))]
          refine r_barsOf hr0 hd (by omega) ?_
          rw [if_neg (fun z => by rw [lN_ltq (by omega) (by omega)] at z; omega)]
          refine r_barsOf hr0 hd (by omega) ?_
          rintro _ rfl _ rfl
          rw [lN_sub (by omega), nI_1]
          have := ih (i + 1) (by omega)
          rw [bsm] at this
          rw [show b - bsm M t mt mu md i - bof M t mt mu md i = b - (bsm M t mt mu md i + bof M t mt mu md i) by omega]
          exact this
      exact key M 0 (by omega)
end
