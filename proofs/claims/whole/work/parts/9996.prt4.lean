/-! Writing: how long it is at most; the reference writes. -/
section
variable {u j : Nat}
variable {E V M nd st t n : Nat} {vo ti le pc : Nat → Nat} {cs : Nat → Nat → Nat} {td co : Nat → Bool} {wp wz : Nat → Nat → Nat} {vb mt mu md : Nat → Nat} {od w : Nat → Int32}
theorem chL_len {f : Nat → Nat} : ∀ k, (∀ i, i < k → f i < 350) → (chL f k).length ≤ 9 * k := by
  intro k
  induction k with
  | zero => intro _; exact Nat.le_refl _
  | succ k ih =>
    intro h
    have := ih (fun i hi => h i (by omega))
    have := pitL_len (h k (by omega))
    rw [chL, List.length_append, List.length_cons]; omega
theorem evL_len {e : Nat} (hd : Dok E V M nd st t n vo ti le pc cs td co wp wz vb mt mu md od w) (he : e < E) : (evL le pc cs td e).length ≤ 67 := by
  obtain ⟨p6, pb⟩ := (hd.2.1 e he).2.1
  have hl := (hd.2.1 e he).1
  have n := numL_len (v := le e) (by omega)
  have t : (tonL (pc e) (cs e)).length ≤ 55 := by
    unfold tonL
    split
    · decide
    · split
      · have := pitL_len (pb 0 (by omega)); omega
      · have := chL_len (pc e) pb
        rw [List.length_append]
        show _ + 1 ≤ 55
        omega
  unfold evL
  rw [List.length_append, List.length_append, List.length_cons]
  have : (if td e = true then [126] else ([] : List Int32)).length ≤ 1 := by split <;> decide
  omega
theorem vEv_len (hd : Dok E V M nd st t n vo ti le pc cs td co wp wz vb mt mu md od w) (hu : u < V) : ∀ e, e ≤ E → (vEv vo le pc cs td vb u e).length ≤ 12 + 68 * cntf (fun i => decide (vo i = u)) e := by
  intro e
  induction e with
  | zero =>
    intro _
    have := hd.2.2.1 u hu
    rw [vEv]
    unfold vbL
    split
    · exact Nat.zero_le _
    · have := numL_len (v := vb u) (by omega)
      show _ + 1 + 1 ≤ _
      omega
  | succ e ih =>
    intro he
    have := ih (by omega)
    have := evL_len hd (e := e) (by omega)
    have := gpL_len (l := vEv vo le pc cs td vb u e)
    rw [vEv, cntf]
    by_cases z : vo e = u
    · rw [if_pos z, if_pos (decide_eq_true z), List.length_append, List.length_append]; omega
    · rw [if_neg z]; omega
theorem syL_len {e : Nat} (hd : Dok E V M nd st t n vo ti le pc cs td co wp wz vb mt mu md od w) (he : e < E) (hj : j < 3) : 1 ≤ (syL w wp wz e j).length ∧ (syL w wp wz e j).length ≤ 12 := by
  have := ((hd.2.1 e he).2.2.2 j hj).1.1
  unfold syL
  split
  · decide
  · rw [sbL_len]; omega
theorem wdL_len (hd : Dok E V M nd st t n vo ti le pc cs td co wp wz vb mt mu md od w) (hj : j < 3) : ∀ e, e ≤ E → (wdL vo pc co wp wz w u j e).length ≤ 13 * cntf (fun i => decide (vo i = u)) e := by
  intro e
  induction e with
  | zero => intro _; exact Nat.le_refl _
  | succ e ih =>
    intro he
    have := ih (by omega)
    have := syL_len hd (e := e) (by omega) hj
    have := gpL_len (l := wdL vo pc co wp wz w u j e)
    rw [wdL, cntf]
    by_cases z : vo e = u ∧ 0 < pc e ∧ co e = false
    · rw [if_pos z, if_pos (decide_eq_true z.1), List.length_append, List.length_append]; omega
    · rw [if_neg z]; omega
theorem vVr_len (hd : Dok E V M nd st t n vo ti le pc cs td co wp wz vb mt mu md od w) (hu : u < V) : ∀ j, j ≤ 3 → (vVr E V vo le pc cs td co wp wz vb w u j).length ≤ 12 + 68 * cntf (fun i => decide (vo i = u)) E + j * (7 + 13 * cntf (fun i => decide (vo i = u)) E) := by
  intro j
  induction j with
  | zero =>
    intro _
    have := vEv_len hd hu E (Nat.le_refl _)
    rw [vVr]; omega
  | succ j ih =>
    intro hj
    have h1 := ih (by omega)
    have h2 := gpL_len (l := vVr E V vo le pc cs td co wp wz vb w u j)
    have h3 := wdL_len hd (u := u) (j := j) (by omega) E (Nat.le_refl _)
    have h4 := mono_len (f := wdL vo pc co wp wz w u j) wdL_mono (i := lsu vo wz u j E) (m := E) (lsu_le E)
    have h5 : (vsL vo pc co wp wz w u j (lsu vo wz u j E)).length = 6 + (wdL vo pc co wp wz w u j (lsu vo wz u j E)).length := by unfold vsL; simp only [List.length_append, List.length_cons, List.length_nil]; omega
    have h6 : (j + 1) * (7 + 13 * cntf (fun i => decide (vo i = u)) E) = j * (7 + 13 * cntf (fun i => decide (vo i = u)) E) + (7 + 13 * cntf (fun i => decide (vo i = u)) E) := Nat.succ_mul _ _
    rw [vVr]
    split
    · omega
    · rw [List.length_append, List.length_append]; omega
def csum (vo : Nat → Nat) (E : Nat) : Nat → Nat
  | 0 => 0
  | u + 1 => csum vo E u + cntf (fun i => decide (vo i = u)) E
theorem csum_s {E : Nat} : ∀ V, csum vo (E + 1) V = csum vo E V + (if vo E < V then 1 else 0) := by
  intro V
  induction V with
  | zero => rw [csum, csum, if_neg (Nat.not_lt_zero _)]
  | succ V ih =>
    rw [csum, csum, ih, cntf]
    by_cases z : vo E = V
    · rw [if_pos (decide_eq_true z), if_neg (by omega), if_pos (by omega)]; omega
    · rw [if_neg (show ¬ decide (vo E = V) = true by rw [decide_eq_true_iff]; exact z)]
      by_cases y : vo E < V
      · rw [if_pos y, if_pos (by omega)]; omega
      · rw [if_neg y, if_neg (by omega)]; omega
theorem csum_le : ∀ E, csum vo E V ≤ E := by
  intro E
  induction E with
  | zero =>
    have : ∀ V, csum vo 0 V = 0 := by
      intro V
      induction V with
      | zero => rfl
      | succ V ih => rw [csum, ih]; rfl
    rw [this]; exact Nat.le_refl _
  | succ E ih => rw [csum_s]; split <;> omega
theorem toL_len (hd : Dok E V M nd st t n vo ti le pc cs td co wp wz vb mt mu md od w) : ∀ u, u ≤ V → (toL E V vo le pc cs td co wp wz vb w u).length ≤ 36 * u + 107 * csum vo E u := by
  intro u
  induction u with
  | zero => intro _; exact Nat.le_refl _
  | succ u ih =>
    intro hu
    have h1 := ih (by omega)
    have h2 := vVr_len hd (u := u) (by omega) 3 (Nat.le_refl _)
    have h3 : (spL V u).length ≤ 3 := by unfold spL; (repeat' split) <;> decide
    rw [toL, csum, List.length_append, List.length_append]; omega
theorem alL_len (hd : Dok E V M nd st t n vo ti le pc cs td co wp wz vb mt mu md od w) : (alL E V vo le pc cs td co wp wz vb w).length ≤ 40000 := by
  have h1 := toL_len hd V (Nat.le_refl _)
  have h2 := csum_le (vo := vo) (V := V) E
  have hV := hd.1
  have h3 : (if 1 < V then [32, 93] else ([] : List Int32)).length ≤ 2 := by split <;> decide
  unfold alL
  rw [List.length_append]; omega
end
def jPr (j : Nat) : Bool := decide (j = 213 ∨ j = 214)
def rPr (r : Nat) : Bool := decide (r = 118)
/-- the reference in writing -/
def Rp (S0 S : PS) (A : Nat → Nat) (f : Int32) (l : List Int32) : Prop := Keep jPr rPr S0 S ∧ fI S 213 (A 9) = nI l.length ∧ (∀ i, i < l.length → aI S 118 (A 118) i = bt (l.getD i 0)) ∧ fI S 214 (A 9) = f
section
variable {S S0 S1 : PS} {A : Nat → Nat} {l l0 lv : List Int32} {x f : Int32} {u j : Nat}
variable {E V M nd st t n : Nat} {vo ti le pc : Nat → Nat} {cs : Nat → Nat → Nat} {td co : Nat → Bool} {wp wz : Nat → Nat → Nat} {vb mt mu md : Nat → Nat} {od w : Nat → Int32}
theorem Rp.lay (hr : LayM S0 A) (h : Rp S0 S A f l) : LayM S A := hr.st h.1.1
theorem Rp.drf (hr : Drf S0 A E V M nd st t n vo ti le pc cs td co wp wz vb mt mu md od w) (h : Rp S0 S A f l) : Drf S A E V M nd st t n vo ti le pc cs td co wp wz vb mt mu md od w := by
  refine hr.se h.1.1 (fun j h1 h2 => ?_) (fun r h1 h2 => ?_)
  · have := h.1.2.1 j (by unfold jPr; rw [decide_eq_false_iff_not]; omega)
    exact ⟨congrFun this.1 _, congrFun this.2 _⟩
  · have := h.1.2.2 r (by unfold rPr; rw [decide_eq_false_iff_not]; omega)
    exact ⟨congrFun this.1 _, congrFun this.2 _⟩
theorem r_put {Q : PS → Prop} (lm : LayM S0 A) (rp : Rp S0 S A f l) (hL : (l ++ [x]).length ≤ 40000) (hQ : ∀ S1, Rp S0 S1 A f (l ++ [x]) → Q S1) : wp_X12_put (A 9) x S Q := by
  have l1 := rp.lay lm
  obtain ⟨k, h1, h2, h3⟩ := rp
  have e : (l ++ [x]).length = l.length + 1 := by rw [List.length_append]; rfl
  unfold wp_X12_put
  refine ⟨_, l1.f212, by rw [l1.n118, h1]; exact vp_in_nI (by omega) (by omega), ?_⟩
  rintro _ rfl _ rfl
  rw [fI_wI, h1, nI_1, nI_clamp (by omega)]
  refine hQ _ ⟨(k.wI rfl).sI rfl, by rw [fI_s, e], fun i hi => ?_, by rw [fI_sn _ _ _ _ _ (by decide), fI_wI]; exact h3⟩
  rw [aI_sI, aI_wI]
  by_cases z : i = l.length
  · rw [if_pos ⟨rfl, rfl, z⟩, z, gd_at]; rfl
  · rw [if_neg (fun y => z y.2.2), gd_lt (by omega)]; exact h2 i (by omega)
theorem r_apart {Q : PS → Prop} (lm : LayM S0 A) (rp : Rp S0 S A (bI (!lv.isEmpty)) (l0 ++ lv)) (hL : (l0 ++ lv ++ gpL lv).length ≤ 40000) (hQ : ∀ S1, Rp S0 S1 A 1 (l0 ++ lv ++ gpL lv) → Q S1) : wp_X12_apart (A 9) S Q := by
  unfold wp_X12_apart
  intro K hK
  have fin : ∀ S2 f2, Rp S0 S2 A f2 (l0 ++ lv ++ gpL lv) → K S2 := by
    intro S2 f2 rp2
    apply hK
    rintro _ rfl
    obtain ⟨k, h1, h2, h3⟩ := rp2
    exact hQ _ ⟨k.sI rfl, by rw [fI_sn _ _ _ _ _ (by decide)]; exact h1, h2, fI_s _ _ _ _⟩
  rw [rp.2.2.2]
  cases lv with
  | nil =>
    rw [if_pos (by decide)]
    have eg : l0 ++ [] ++ gpL ([] : List Int32) = l0 ++ [] := by rw [show gpL ([] : List Int32) = [] from rfl, List.append_nil]
    exact fin S (bI (!([] : List Int32).isEmpty)) (by rw [eg]; exact rp)
  | cons y t =>
    have eg : gpL (y :: t) = [32] := if_neg (by rw [List.length_cons]; omega)
    rw [eg] at hL fin
    rw [if_neg (by show ¬ bI true = 0; decide)]
    exact r_put lm rp hL (fun S2 rp2 => fin S2 _ rp2)
theorem r_putNum {Q : PS → Prop} {v : Nat} (lm : LayM S0 A) (rp : Rp S0 S A f l) (hv : v < 10 ^ 10) (hL : (l ++ numL v).length ≤ 40000) (hQ : ∀ S1, Rp S0 S1 A f (l ++ numL v) → Q S1) : wp_X12_putNumber (A 9) (lN v) S Q := by
  obtain ⟨n1, n2, n3⟩ := ndg_ok hv 9 0 (by omega) (fun q h => absurd h (Nat.not_lt_zero _))
  have p10 : ∀ m, m ≤ 9 → 1 ≤ 10 ^ m ∧ 10 ^ m ≤ 10 ^ 9 := fun m hm => ⟨Nat.pos_of_ne_zero (by simp), Nat.pow_le_pow_right (by omega) hm⟩
  unfold wp_X12_putNumber
  intro P hP
  have key : ∀ i m, m + i = ndg v 9 0 → P (lN (10 ^ m)) S := by
    intro i
    induction i with
    | zero =>
      intro m hm
      have em : m = ndg v 9 0 := by omega
      have pm := p10 m (by omega)
      apply hP
      refine ⟨fun z => by rw [show (0 : Int64) = lN 0 from rfl, lN_eqq (by omega) (by omega)] at z; omega, ?_⟩
      have vb : v / 10 ^ m ≤ v := Nat.div_le_self _ _
      rw [lN_div (by omega) (by omega) (by omega), show (9 : Int64) = lN 9 from rfl, if_pos ((lN_leq (by omega) (by omega)).mpr (by rw [em]; exact n2))]
      intro R hR
      have key2 : ∀ m lc S2, m ≤ 9 → Rp S0 S2 A f lc → lc ++ dgu v (m + 1) = l ++ numL v → R (lN (10 ^ m)) S2 := by
        intro m
        induction m with
        | zero =>
          intro lc S2 _ rp2 hl
          apply hR
          rw [show lN (10 ^ 0) = 1 from rfl, if_neg (by decide)]
          refine ⟨by decide, ?_⟩
          rw [show (1 : Int64) = lN 1 from rfl, lN_div (by omega) (by omega) (by omega), Nat.div_one, show (10 : Int64) = lN 10 from rfl, lN_div (by omega) (by omega) (by omega), lN_mul, lN_sub (by omega), lN_i, show (48 : Int32) = nI 48 from rfl, nI_add]
          have ed : nI (48 + (v - v / 10 * 10)) = nI (48 + v / 10 ^ 0 % 10) := by rw [Nat.pow_zero, Nat.div_one]; congr 1; omega
          rw [ed]
          have e : lc ++ [nI (48 + v / 10 ^ 0 % 10)] = l ++ numL v := hl
          refine r_put lm rp2 (by rw [e]; exact hL) (fun S3 rp3 => ?_)
          rintro _ rfl
          apply hR
          rw [lN_div (by omega) (by omega) (by omega), show 1 / 10 = 0 from rfl, if_pos (by decide)]
          rw [e] at rp3
          exact hQ S3 rp3
        | succ m ih =>
          intro lc S2 hm rp2 hl
          have pm := p10 (m + 1) hm
          have vb : v / 10 ^ (m + 1) ≤ v := Nat.div_le_self _ _
          apply hR
          rw [show (0 : Int64) = lN 0 from rfl, if_neg (fun z => by rw [lN_leq (by omega) (by omega)] at z; omega)]
          refine ⟨fun z => by rw [lN_eqq (by omega) (by omega)] at z; omega, ?_⟩
          rw [lN_div (by omega) (by omega) (by omega), show (10 : Int64) = lN 10 from rfl, lN_div (by omega) (by omega) (by omega), lN_mul, lN_sub (Nat.div_mul_le_self _ _), lN_i, show (48 : Int32) = nI 48 from rfl, nI_add, dm10]
          have e : lc ++ [nI (48 + v / 10 ^ (m + 1) % 10)] ++ dgu v (m + 1) = l ++ numL v := by rw [List.append_assoc]; exact hl
          refine r_put lm rp2 (by have := congrArg List.length e; rw [List.length_append (bs := dgu v (m + 1))] at this; omega) (fun S3 rp3 => ?_)
          rintro _ rfl
          rw [lN_div (by omega) (by omega) (by omega), show 10 ^ (m + 1) / 10 = 10 ^ m by rw [Nat.pow_succ]; omega]
          exact ih _ S3 (by omega) rp3 e
      rw [em]
      exact key2 (ndg v 9 0) l S n1 rp rfl
    | succ i ih =>
      intro m hm
      have pm := p10 m (by omega)
      apply hP
      refine ⟨fun z => by rw [show (0 : Int64) = lN 0 from rfl, lN_eqq (by omega) (by omega)] at z; omega, ?_⟩
      have vb : v / 10 ^ m ≤ v := Nat.div_le_self _ _
      have := n3 m (by omega)
      rw [lN_div (by omega) (by omega) (by omega), show (9 : Int64) = lN 9 from rfl, if_neg (fun z => by rw [lN_leq (by omega) (by omega)] at z; omega)]
      rintro _ rfl
      rw [show (10 : Int64) = lN 10 from rfl, lN_mul, ← Nat.pow_succ]
      exact ih (m + 1) (by omega)
  exact key (ndg v 9 0) 0 (by omega)
theorem r_many {Q : PS → Prop} {z : Int} {p : Int32} (lm : LayM S0 A) (rp : Rp S0 S A f l) (hp : p = iJ z) (h1 : -100 ≤ z) (h2 : z ≤ 100) (hL : (l ++ List.replicate z.toNat x).length ≤ 40000) (hQ : ∀ S1, Rp S0 S1 A f (l ++ List.replicate z.toNat x) → Q S1) : wp_X12_putMany (A 9) x p S Q := by
  subst hp
  unfold wp_X12_putMany
  intro P hP
  have key : ∀ j i S2, i + j = z.toNat → Rp S0 S2 A f (l ++ List.replicate i x) → P (nI i) S2 := by
    intro j
    induction j with
    | zero =>
      intro i S2 hi rp2
      apply hP
      rw [iJ_n, if_pos (by rw [iJ_le (by omega) (by omega) (by omega) (by omega)]; omega)]
      rw [show i = z.toNat by omega] at rp2
      exact hQ S2 rp2
    | succ j ih =>
      intro i S2 hi rp2
      apply hP
      have e : l ++ List.replicate i x ++ [x] = l ++ List.replicate (i + 1) x := by rw [List.append_assoc, ← List.replicate_succ']
      rw [iJ_n, if_neg (by rw [iJ_le (by omega) (by omega) (by omega) (by omega)]; omega)]
      refine r_put lm rp2 (by rw [e]; simp only [List.length_append, List.length_replicate] at hL ⊢; omega) (fun S3 rp3 => ?_)
      rintro _ rfl
      rw [← iJ_n, nI_1]
      rw [e] at rp3
      exact ih (i + 1) S3 (by omega) rp3
  exact key z.toNat 0 S (by omega) (by rw [List.replicate_zero, List.append_nil]; exact rp)
theorem pitL_r {c : Nat} : pitL c = [nI (97 + (c / 5 % 7 + 2) % 7)] ++ List.replicate (((c : Int) % 5 - 2).toNat) 43 ++ List.replicate ((-((c : Int) % 5 - 2)).toNat) 45 ++ List.replicate ((((c / 35 : Nat) : Int) - 4).toNat) 39 ++ List.replicate ((4 - ((c / 35 : Nat) : Int)).toNat) 44 := by
  unfold pitL
  have a : (if 2 ≤ c % 5 then List.replicate (c % 5 - 2) (43 : Int32) else List.replicate (2 - c % 5) 45) = List.replicate (((c : Int) % 5 - 2).toNat) 43 ++ List.replicate ((-((c : Int) % 5 - 2)).toNat) 45 := by
    by_cases z : 2 ≤ c % 5
    · rw [if_pos z, show ((c : Int) % 5 - 2).toNat = c % 5 - 2 by omega, show (-((c : Int) % 5 - 2)).toNat = 0 by omega, List.replicate_zero, List.append_nil]
    · rw [if_neg z, show ((c : Int) % 5 - 2).toNat = 0 by omega, show (-((c : Int) % 5 - 2)).toNat = 2 - c % 5 by omega, List.replicate_zero, List.nil_append]
  have b : (if 4 ≤ c / 35 then List.replicate (c / 35 - 4) (39 : Int32) else List.replicate (4 - c / 35) 44) = List.replicate ((((c / 35 : Nat) : Int) - 4).toNat) 39 ++ List.replicate ((4 - ((c / 35 : Nat) : Int)).toNat) 44 := by
    by_cases z : 4 ≤ c / 35
    · rw [if_pos z, show (((c / 35 : Nat) : Int) - 4).toNat = c / 35 - 4 by omega, show (4 - ((c / 35 : Nat) : Int)).toNat = 0 by omega, List.replicate_zero, List.append_nil]
    · rw [if_neg z, show (((c / 35 : Nat) : Int) - 4).toNat = 0 by omega, show (4 - ((c / 35 : Nat) : Int)).toNat = 4 - c / 35 by omega, List.replicate_zero, List.nil_append]
  rw [a, b]
  simp only [List.append_assoc]
set_option maxHeartbeats 4000000 in
theorem r_putPitch {Q : PS → Prop} {e k : Nat} (hr0 : Drf S0 A E V M nd st t n vo ti le pc cs td co wp wz vb mt mu md od w) (hd : Dok E V M nd st t n vo ti le pc cs td co wp wz vb mt mu md od w) (he : e < E) (hk : k < pc e) (rp : Rp S0 S A f l) (hL : (l ++ pitL (cs e k)).length ≤ 40000) (hQ : ∀ S1, Rp S0 S1 A f (l ++ pitL (cs e k)) → Q S1) : wp_X12_putPitch (A 9) (nI (6 * e + k)) S Q := by
  have lm := hr0.1
  have hE := hd.1.1
  obtain ⟨p6, pb⟩ := (hd.2.1 e he).2.1
  have cb := pb k hk
  generalize hc : cs e k = c at *
  have hD : ∀ {S2 l2}, Rp S0 S2 A f l2 → LayM S2 A ∧ aI S2 108 (A 108) (6 * e + k) = nI (c / 5 % 7) ∧ aI S2 109 (A 109) (6 * e + k) = iJ ((c : Int) % 5 - 2) ∧ aI S2 110 (A 110) (6 * e + k) = nI (c / 35) := fun p => by
    have d := p.drf hr0
    have := (d.2.2.1 e he).2.1 k hk
    rw [hc] at this
    exact ⟨d.1, this⟩
  have ck : (nI (6 * e + k)).toNatClampNeg = 6 * e + k := nI_clamp (by omega)
  have vi : ∀ {r : Nat}, r = 1800 → vp_in (nI (6 * e + k)) r := fun h => by rw [h]; exact vp_in_nI (by omega) (by omega)
  have e1 : (97 : Int32) + ((nI (c / 5 % 7) + 2) - (nI (c / 5 % 7) + 2) / 7 * 7) = nI (97 + (c / 5 % 7 + 2) % 7) := by
    rw [show (2 : Int32) = nI 2 from rfl, nI_add, show (7 : Int32) = nI 7 from rfl, nI_div (by omega) (by omega) (by omega), nI_mul, nI_sub (by omega), show (97 : Int32) = nI 97 from rfl, nI_add]
    congr 1; omega
  rw [pitL_r] at hL hQ
  generalize nI (97 + (c / 5 % 7 + 2) % 7) = xa at *
  simp only [← List.append_assoc] at hL hQ
  simp only [List.length_append, List.length_replicate, List.length_cons, List.length_nil] at hL
  unfold wp_X12_putPitch
  obtain ⟨l1, a1, a2, a3⟩ := hD rp
  refine ⟨_, l1.f196, vi l1.n108, ?_⟩
  rw [ck, a1, e1]
  refine r_put lm rp (by simp only [List.length_append, List.length_cons, List.length_nil]; omega) (fun S2 rp2 => ?_)
  obtain ⟨l2, _, b2, b3⟩ := hD rp2
  refine ⟨_, l2.f197, vi l2.n109, ?_⟩
  rw [b2]
  refine r_many lm rp2 rfl (by omega) (by omega) (by simp only [List.length_append, List.length_replicate, List.length_cons, List.length_nil]; omega) (fun S3 rp3 => ?_)
  obtain ⟨l3, _, c2, c3⟩ := hD rp3
  refine ⟨_, l3.f197, vi l3.n109, ?_⟩
  rw [c2, iJ_neg]
  refine r_many lm rp3 rfl (by omega) (by omega) (by simp only [List.length_append, List.length_replicate, List.length_cons, List.length_nil]; omega) (fun S4 rp4 => ?_)
  obtain ⟨l4, _, d2, d3⟩ := hD rp4
  refine ⟨_, l4.f198, vi l4.n110, ?_⟩
  rw [d3, iJ_n, show (4 : Int32) = iJ 4 from rfl, iJ_sub]
  refine r_many lm rp4 rfl (by omega) (by omega) (by simp only [List.length_append, List.length_replicate, List.length_cons, List.length_nil]; omega) (fun S5 rp5 => ?_)
  obtain ⟨l5, _, g2, g3⟩ := hD rp5
  refine ⟨_, l5.f198, vi l5.n110, ?_⟩
  rw [g3, iJ_n, iJ_sub]
  refine r_many lm rp5 rfl (by omega) (by omega) (by simp only [List.length_append, List.length_replicate, List.length_cons, List.length_nil]; omega) (fun S6 rp6 => ?_)
  exact hQ S6 rp6
theorem ne_app {a b : List Int32} (h : 1 ≤ b.length) : (!(a ++ b).isEmpty) = true := by
  cases a with
  | nil => cases b with
    | nil => exact absurd h (by decide)
    | cons _ _ => rfl
  | cons _ _ => rfl
set_option maxHeartbeats 4000000 in
theorem r_putEvent {Q : PS → Prop} {e : Nat} (hr0 : Drf S0 A E V M nd st t n vo ti le pc cs td co wp wz vb mt mu md od w) (hd : Dok E V M nd st t n vo ti le pc cs td co wp wz vb mt mu md od w) (he : e < E) (rp : Rp S0 S A (bI (!lv.isEmpty)) (l0 ++ lv)) (hL : (l0 ++ lv ++ gpL lv ++ evL le pc cs td e).length ≤ 40000) (hQ : ∀ S1, Rp S0 S1 A 1 (l0 ++ lv ++ gpL lv ++ evL le pc cs td e) → Q S1) : wp_X12_putEvent (A 9) (nI e) S Q := by
  have lm := hr0.1
  have hE := hd.1.1
  obtain ⟨p6, pb⟩ := (hd.2.1 e he).2.1
  have hle := (hd.2.1 e he).1
  have ce : (nI e).toNatClampNeg = e := nI_clamp (by omega)
  have vi : ∀ {r : Nat}, r = 300 → vp_in (nI e) r := fun h => by rw [h]; exact vp_in_nI (by omega) (by omega)
  have hD : ∀ {S2 f2 l2}, Rp S0 S2 A f2 l2 → Drf S2 A E V M nd st t n vo ti le pc cs td co wp wz vb mt mu md od w := fun p => p.drf hr0
  unfold wp_X12_putEvent
  refine r_apart lm rp (by rw [List.length_append] at hL; omega) (fun S1 rp1 => ?_)
  generalize hlb : l0 ++ lv ++ gpL lv = lb at *
  have eA : lb ++ evL le pc cs td e = lb ++ tonL (pc e) (cs e) ++ [58] ++ numL (le e) ++ (if td e = true then [126] else []) := by unfold evL; simp only [List.append_assoc, List.cons_append, List.nil_append]
  rw [eA] at hL hQ
  have hL' : lb.length + (tonL (pc e) (cs e)).length + 1 + (numL (le e)).length + (if td e = true then [126] else ([] : List Int32)).length ≤ 40000 := by simpa only [List.length_append, List.length_cons, List.length_nil] using hL
  have d1 := hD rp1
  refine ⟨_, d1.1.f191, vi d1.1.n103, ?_⟩
  intro K hK
  have fin : ∀ S3, Rp S0 S3 A 1 (lb ++ tonL (pc e) (cs e)) → K S3 := by
    intro S3 rp3
    apply hK
    refine r_put lm rp3 (by simp only [List.length_append, List.length_cons, List.length_nil]; omega) (fun S4 rp4 => ?_)
    have d4 := hD rp4
    refine ⟨_, d4.1.f195, vi d4.1.n107, ?_⟩
    rw [ce, (d4.2.2.1 e he).1.2.2.2.2.2]
    refine r_putNum lm rp4 (by omega) (by simp only [List.length_append, List.length_cons, List.length_nil]; omega) (fun S5 rp5 => ?_)
    have d5 := hD rp5
    refine ⟨_, d5.1.f192, vi d5.1.n104, ?_⟩
    rw [(d5.2.2.1 e he).1.2.2.1, bI_if]
    by_cases z : td e = true
    · rw [if_pos z] at hQ hL ⊢
      exact r_put lm rp5 hL (fun S6 rp6 => hQ S6 rp6)
    · rw [if_neg z] at hQ ⊢
      rw [List.append_nil] at hQ
      exact hQ S5 rp5
  have dm := (d1.2.2.1 e he).1.2.1
  rw [ce, dm]
  by_cases z0 : pc e = 0
  · rw [if_pos (by rw [z0]; rfl)]
    have et : tonL (pc e) (cs e) = [114] := if_pos z0
    rw [et] at fin hL'
    exact r_put lm rp1 (by simp only [List.length_append, List.length_cons, List.length_nil] at hL' ⊢; omega) (fun S2 rp2 => fin S2 rp2)
  · rw [if_neg (nI_ne0 (by omega) (by omega))]
    refine ⟨_, d1.1.f191, vi d1.1.n103, ?_⟩
    rw [dm]
    by_cases z1 : pc e = 1
    · rw [if_pos (by rw [z1]; rfl), show (6 : Int32) = nI 6 from rfl, nI_mul]
      have et : tonL (pc e) (cs e) = pitL (cs e 0) := by unfold tonL; rw [if_neg z0, if_pos z1]
      rw [et] at fin hL'
      exact r_putPitch (k := 0) hr0 hd he (by omega) rp1 (by rw [List.length_append]; omega) (fun S2 rp2 => fin S2 rp2)
    · rw [if_neg (by rw [show (1 : Int32) = nI 1 from rfl, nI_eq (by omega) (by omega)]; exact z1)]
      have et : tonL (pc e) (cs e) = chL (cs e) (pc e) ++ [62] := by unfold tonL; rw [if_neg z0, if_neg z1]
      rw [et, List.length_append, List.length_cons, List.length_nil] at hL'
      rw [et] at fin
      have mono : ∀ i, i ≤ pc e → (chL (cs e) i).length ≤ (chL (cs e) (pc e)).length := fun i hi => mono_len (f := chL (cs e)) (fun i => by rw [chL, List.length_append]; omega) hi
      intro P hP
      have key : ∀ j i S2, i + j = pc e → Rp S0 S2 A 1 (lb ++ chL (cs e) i) → P (nI i) S2 := by
        intro j
        induction j with
        | zero =>
          intro i S2 hi rp2
          have d2 := hD rp2
          apply hP
          refine ⟨_, d2.1.f191, vi d2.1.n103, ?_⟩
          rw [(d2.2.2.1 e he).1.2.1, if_pos (nI_le (by omega) (by omega))]
          rw [show i = pc e by omega] at rp2
          refine r_put lm rp2 (by simp only [List.length_append, List.length_cons, List.length_nil]; omega) (fun S3 rp3 => ?_)
          rw [List.append_assoc] at rp3
          exact fin S3 rp3
        | succ j ih =>
          intro i S2 hi rp2
          have d2 := hD rp2
          have m1 := mono (i + 1) (by omega)
          have el : (chL (cs e) (i + 1)).length = (chL (cs e) i).length + 1 + (pitL (cs e i)).length := by rw [chL, List.length_append, List.length_cons]; omega
          apply hP
          refine ⟨_, d2.1.f191, vi d2.1.n103, ?_⟩
          rw [(d2.2.2.1 e he).1.2.1, if_neg (nI_ge (by omega) (by omega))]
          intro K2 hK2
          have pit : ∀ t, t = (if i = 0 then (60 : Int32) else 32) → K2 (A 9) t S2 := by
            intro t ht
            apply hK2
            refine r_put lm rp2 (by simp only [List.length_append, List.length_cons, List.length_nil]; omega) (fun S3 rp3 => ?_)
            rw [show (6 : Int32) = nI 6 from rfl, nI_mul, nI_add]
            refine r_putPitch (k := i) hr0 hd he (by omega) rp3 (by simp only [List.length_append, List.length_cons, List.length_nil]; omega) (fun S4 rp4 => ?_)
            rintro _ rfl
            rw [nI_1]
            have ea : lb ++ chL (cs e) i ++ [t] ++ pitL (cs e i) = lb ++ chL (cs e) (i + 1) := by rw [chL, ht]; simp only [List.append_assoc, List.cons_append, List.nil_append]
            rw [ea] at rp4
            exact ih (i + 1) S4 (by omega) rp4
          by_cases zi : i = 0
          · rw [if_pos (by rw [zi]; rfl)]; exact pit 60 (by rw [if_pos zi])
          · rw [if_neg (nI_ne0 (by omega) (by omega))]; exact pit 32 (by rw [if_neg zi])
      exact key (pc e) 0 S1 (by omega) (by rw [chL, List.append_nil]; exact rp1)
end
