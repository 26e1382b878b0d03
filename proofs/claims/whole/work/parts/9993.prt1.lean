/-! Writing: numbers, pitches, what is printed of them. -/
def dgu (v : Nat) : Nat → List Int32
  | 0 => []
  | j + 1 => nI (48 + v / 10 ^ j % 10) :: dgu v j
def ndg (v : Nat) : Nat → Nat → Nat
  | 0, i => i
  | k + 1, i => if v / 10 ^ i ≤ 9 then i else ndg v k (i + 1)
def numL (v : Nat) : List Int32 := dgu v (ndg v 9 0 + 1)
theorem dgu_len {v : Nat} : ∀ j, (dgu v j).length = j := by
  intro j
  induction j with
  | zero => rfl
  | succ j ih => rw [dgu, List.length_cons, ih]
theorem ndg_ok {v : Nat} (hv : v < 10 ^ 10) : ∀ k i, i + k = 9 → (∀ q, q < i → 9 < v / 10 ^ q) → ndg v k i ≤ 9 ∧ v / 10 ^ (ndg v k i) ≤ 9 ∧ ∀ q, q < ndg v k i → 9 < v / 10 ^ q := by
  intro k
  induction k with
  | zero =>
    intro i hi hq
    have e : i = 9 := by omega
    subst e
    rw [ndg]
    exact ⟨Nat.le_refl _, by omega, hq⟩
  | succ k ih =>
    intro i hi hq
    rw [ndg]
    by_cases c : v / 10 ^ i ≤ 9
    · rw [if_pos c]; exact ⟨by omega, c, hq⟩
    · rw [if_neg c]
      refine ih (i + 1) (by omega) (fun q h => ?_)
      rcases Nat.lt_or_ge q i with z | z
      · exact hq q z
      · rw [show q = i by omega]; omega
theorem numL_len {v : Nat} (hv : v < 10 ^ 10) : 1 ≤ (numL v).length ∧ (numL v).length ≤ 10 := by
  have := (ndg_ok hv 9 0 (by omega) (fun q h => absurd h (Nat.not_lt_zero _))).1
  unfold numL
  rw [dgu_len]; omega
theorem dm10 (q : Nat) : q - q / 10 * 10 = q % 10 := by omega
theorem md10 (q : Nat) : q % 10 < 10 := Nat.mod_lt _ (by omega)
theorem bt_dig : ∀ d : Fin 10, bt (nI (48 + d.val)) = nI (48 + d.val) := by decide +kernel
def pitL (c : Nat) : List Int32 := [nI (97 + (c / 5 % 7 + 2) % 7)] ++ (if 2 ≤ c % 5 then List.replicate (c % 5 - 2) 43 else List.replicate (2 - c % 5) 45) ++ (if 4 ≤ c / 35 then List.replicate (c / 35 - 4) 39 else List.replicate (4 - c / 35) 44)
theorem pitL_len {c : Nat} (h : c < 350) : 1 ≤ (pitL c).length ∧ (pitL c).length ≤ 8 := by
  unfold pitL
  simp only [List.length_append, List.length_cons, List.length_nil]
  repeat' split
  all_goals simp only [List.length_replicate]
  all_goals omega
/-! state and room while printing, counted from the room c0 at the beginning -/
def Pc (S0 S : PS) (A : Nat → Nat) (c0 : Nat) (l : List Int32) : Prop := ∃ P, PrS S0 S A P (mxl c0 l.length) l
def df (c0 : Nat) (l l1 : List Int32) : Nat × Nat := dif (mxl c0 l.length) (mxl c0 l1.length)
def Bu (c0 : Nat) (l l1 : List Int32) (k : Nat × Nat) : Prop := Dle (mxl c0 l.length) (mxl c0 l1.length) k
section
variable {S S0 S1 : PS} {A : Nat → Nat} {P c0 : Nat} {l l1 l2 : List Int32} {k : Nat × Nat} {x : Int32}
theorem Bu.fst (h : Bu c0 l l2 k) (h1 : l.length ≤ l1.length) (h2 : l1.length ≤ l2.length) : (df c0 l l1).1 ≤ k.1 ∧ (df c0 l l1).2 ≤ k.2 := Dle.fst h (mxl_mono h1) (mxl_mono h2)
theorem Bu.snd (h : Bu c0 l l2 k) (h1 : l.length ≤ l1.length) (h2 : l1.length ≤ l2.length) : Bu c0 l1 l2 (k.1 - (df c0 l l1).1, k.2 - (df c0 l l1).2) := Dle.snd h (mxl_mono h1) (mxl_mono h2)
theorem Bu.rf : Bu c0 l l1 (df c0 l l1) := Dle.rf
theorem Bu.ca (h : Bu c0 l l2 k) (e : l = l1) : Bu c0 l1 l2 k := by subst e; exact h
theorem q_put {Q : PS → Prop} (pa : PrA S0 A) (pr : Pc S0 S A c0 l) (hL : (l ++ [x]).length ≤ 40000) (hk : Bu c0 l (l ++ [x]) k) (hQ : ∀ S1, aI S1 15 (A 15) = aI S 15 (A 15) → Pc S0 S1 A c0 (l ++ [x]) → Q S1) : wp_X5_put (A 4) x k S Q := by
  obtain ⟨P, pr⟩ := pr
  have e : (l ++ [x]).length = l.length + 1 := by rw [List.length_append]; rfl
  have em : mxl (mxl c0 l.length) (l.length + 1) = mxl c0 (l.length + 1) := mxl_mxl (by omega)
  unfold Bu at hk
  rw [e] at hk hL
  refine p_put pa pr hL (by rw [em]; exact hk) (fun S1 P1 hd pr1 => hQ S1 hd ⟨P1, ?_⟩)
  rw [e, ← em]; exact pr1
theorem q_times {Q : PS → Prop} {n : Nat} (pa : PrA S0 A) (pr : Pc S0 S A c0 l) (hn : n < 2 ^ 31) (hL : (l ++ List.replicate n x).length ≤ 40000) (hk : Bu c0 l (l ++ List.replicate n x) k) (hQ : ∀ S1, Pc S0 S1 A c0 (l ++ List.replicate n x) → Q S1) : wp_X5_putTimes (A 4) x (nI n) k S Q := by
  unfold wp_X5_putTimes
  intro P hP
  have key : ∀ j i k S, i + j = n → Pc S0 S A c0 (l ++ List.replicate i x) → Bu c0 (l ++ List.replicate i x) (l ++ List.replicate n x) k → P (nI i) k S := by
    intro j
    induction j with
    | zero =>
      intro i k S hi pr hk
      apply hP
      rw [if_pos (nI_le (by omega) (by omega))]
      rw [show i = n by omega] at pr
      exact hQ S pr
    | succ j ih =>
      intro i k S hi pr hk
      apply hP
      rw [if_neg (nI_ge (by omega) (by omega))]
      have e : (l ++ List.replicate i x) ++ [x] = l ++ List.replicate (i + 1) x := by rw [List.append_assoc, ← List.replicate_succ']
      have l1 : (l ++ List.replicate i x).length ≤ (l ++ List.replicate (i + 1) x).length := by simp only [List.length_append, List.length_replicate]; omega
      have l2 : (l ++ List.replicate (i + 1) x).length ≤ (l ++ List.replicate n x).length := by simp only [List.length_append, List.length_replicate]; omega
      refine ⟨_, hk.fst l1 l2, q_put pa pr (by rw [e]; omega) (by rw [e]; exact Bu.rf) (fun S1 _ pr1 => ?_)⟩
      rintro _ rfl
      rw [e] at pr1
      rw [nI_1]
      exact ih (i + 1) _ S1 (by omega) pr1 (hk.snd l1 l2)
  exact key n 0 k S (by omega) (by rw [List.replicate_zero, List.append_nil]; exact pr) (by rw [List.replicate_zero, List.append_nil]; exact hk)
/-- the constant texts -/
def txt (s : Nat) : List Int32 := bytS.getD s []
theorem txt_ok : ∀ s : Fin 6, 1 ≤ s.val → ∀ i : Fin 3, i.val < (txt s.val).length → (txt s.val).take i.val ++ [((((txt s.val).getD i.val 0) &&& 255).toUInt32 % 65536).toInt32] = (txt s.val).take (i.val + 1) := by decide +kernel
theorem txt_len : ∀ s : Fin 6, 1 ≤ s.val → lenS.getD s.val 0 = (txt s.val).length ∧ (txt s.val).length ≤ 3 ∧ (nI (lenS.getD s.val 0)) >>> ((0 : Int32) &&& 31) = nI (txt s.val).length := by decide +kernel
theorem q_text {Q : PS → Prop} {s : Nat} (pa : PrA S0 A) (pr : Pc S0 S A c0 l) (h1 : 1 ≤ s) (h6 : s < 6) (hL : (l ++ txt s).length ≤ 40000) (hk : Bu c0 l (l ++ txt s) k) (hQ : ∀ S1, Pc S0 S1 A c0 (l ++ txt s) → Q S1) : wp_X5_putText (A 4) s k S Q := by
  obtain ⟨t1, t2, t3⟩ := txt_len ⟨s, h6⟩ h1
  have t4 := txt_ok ⟨s, h6⟩ h1
  simp only at t1 t2 t3 t4
  unfold wp_X5_putText
  intro P hP
  have key : ∀ j i k S, i + j = (txt s).length → Pc S0 S A c0 (l ++ (txt s).take i) → Bu c0 (l ++ (txt s).take i) (l ++ txt s) k → P (nI i) k S := by
    intro j
    induction j with
    | zero =>
      intro i k S hi pr hk
      apply hP
      unfold wp_J0_length_8abf5 wp_J0_coder_7d493
      rw [if_neg (by decide)]
      dsimp only
      rw [t3, if_pos (nI_le (by omega) (by omega))]
      rw [List.take_of_length_le (by omega)] at pr
      exact hQ S pr
    | succ j ih =>
      intro i k S hi pr hk
      apply hP
      unfold wp_J0_length_8abf5 wp_J0_coder_7d493
      rw [if_neg (by decide)]
      dsimp only
      rw [t3, if_neg (nI_ge (by omega) (by omega))]
      have t5 := t4 ⟨i, by omega⟩ (by show i < _; omega)
      simp only at t5
      have l1 : (l ++ (txt s).take i).length ≤ (l ++ (txt s).take (i + 1)).length := by simp only [List.length_append, List.length_take]; omega
      have l2 : (l ++ (txt s).take (i + 1)).length ≤ (l ++ txt s).length := by simp only [List.length_append, List.length_take]; omega
      have put : ∃ k10 : Nat × Nat, (k10.1 ≤ k.1 ∧ k10.2 ≤ k.2) ∧ wp_X5_put (A 4) (((((bytS.getD s []).getD i 0) &&& 255).toUInt32 % 65536).toInt32) k10 S (fun (S9 : PS) => (∀ v11, v11 = nI i + 1 → P v11 (k.1 - k10.1, k.2 - k10.2) S9)) := by
        have e : (l ++ (txt s).take i) ++ [((((txt s).getD i 0) &&& 255).toUInt32 % 65536).toInt32] = l ++ (txt s).take (i + 1) := by rw [List.append_assoc, t5]
        refine ⟨_, hk.fst l1 l2, q_put pa pr ?_ ?_ (fun S1 _ pr1 => ?_)⟩
        · show ((l ++ (txt s).take i) ++ [((((txt s).getD i 0) &&& 255).toUInt32 % 65536).toInt32]).length ≤ _
          rw [e]; omega
        · show Bu c0 _ ((l ++ (txt s).take i) ++ [((((txt s).getD i 0) &&& 255).toUInt32 % 65536).toInt32]) _
          rw [e]; exact Bu.rf
        · rintro _ rfl
          have pr2 : Pc S0 S1 A c0 ((l ++ (txt s).take i) ++ [((((txt s).getD i 0) &&& 255).toUInt32 % 65536).toInt32]) := pr1
          rw [e] at pr2
          rw [nI_1]
          exact ih (i + 1) _ S1 (by omega) pr2 (hk.snd l1 l2)
      have ci : (nI i).toNatClampNeg = i := nI_clamp (by omega)
      unfold wp_J0_charAt_5068e wp_J0_isLatin1_aae02
      rw [if_neg (by decide), if_pos rfl]
      dsimp only
      rw [if_neg (by decide)]
      unfold wp_J1_charAt_3b067 wp_J0_checkIndex_df160
      have vi : vp_in (nI i) (lenS.getD s 0) := by rw [t1]; exact vp_in_nI (by omega) (by omega)
      rw [ci, t1]
      rw [t1] at vi
      refine ⟨?_, fun w1 => ?_⟩
      · unfold wp_J3_checkIndex_8e157n
        intro K _
        rw [if_neg (nI_pos (by omega)), if_pos (nI_lt (by omega) (by omega))]
        exact ⟨vi, put⟩
      · unfold wp_J3_checkIndex_8e157r
        intro K _
        rw [if_neg (nI_pos (by omega)), if_pos (nI_lt (by omega) (by omega))]
        exact ⟨vi, put⟩
  exact key (txt s).length 0 k S (by omega) (by rw [List.take_zero, List.append_nil]; exact pr) (by rw [List.take_zero, List.append_nil]; exact hk)
/-- a byte of the digits' row changes nothing printed -/
theorem Pc.dg {i : Nat} {y : Int32} (pr : Pc S0 S A c0 l) : Pc S0 (wI S 15 (A 15) i y) A c0 l := by
  obtain ⟨P, kw, h1, h2, h3, hb, h4, h5⟩ := pr
  refine ⟨P, kw.wI (Or.inl (Or.inr (Or.inl rfl))), h1, h2, fun i hi => ?_, fun i => ?_, h4, h5⟩
  · rw [aI_wn _ _ _ _ _ _ (by decide)]; exact h3 i hi
  · rw [aI_wn _ _ _ _ _ _ (by decide)]; exact hb i
theorem q_ticks {Q : PS → Prop} {v : Nat} (pa : PrA S0 A) (pr : Pc S0 S A c0 l) (hv : v < 10 ^ 10) (hL : (l ++ (58 :: numL v)).length ≤ 40000) (hk : Bu c0 l (l ++ (58 :: numL v)) k) (hQ : ∀ S1, Pc S0 S1 A c0 (l ++ (58 :: numL v)) → Q S1) : wp_X5_putTicks (A 4) (lN v) k S Q := by
  obtain ⟨n1, n2, n3⟩ := ndg_ok hv 9 0 (by omega) (fun q h => absurd h (Nat.not_lt_zero _))
  have el : (58 :: numL v).length = ndg v 9 0 + 2 := by unfold numL; rw [List.length_cons, dgu_len]
  have el1 : (l ++ [58]).length ≤ (l ++ (58 :: numL v)).length := by rw [List.length_append, List.length_append, el, List.length_cons, List.length_nil]; omega
  have el0 : l.length ≤ (l ++ [58]).length := by rw [List.length_append]; omega
  unfold wp_X5_putTicks
  refine ⟨_, hk.fst el0 el1, q_put pa pr (by omega) Bu.rf (fun S1 _ pr1 => ?_)⟩
  have hk1 := hk.snd el0 el1
  generalize (k.1 - (df c0 l (l ++ [58])).1, k.2 - (df c0 l (l ++ [58])).2) = k1 at *
  have hN : l ++ (58 :: numL v) = (l ++ [58]) ++ dgu v (ndg v 9 0 + 1) := by unfold numL; rw [List.append_assoc]; rfl
  -- the second loop
  have fin : ∀ (R : Int32 → Nat × Nat → PS → Prop), (∀ (x6 : Int32) (k19 : Nat × Nat) (S18 : PS), (if x6 < 0 then Q S18 else (∃ b20, fR S18 42 (A 4) = some b20 ∧ (vp_in x6 (aN S18 b20) ∧ (∃ k22 : Nat × Nat, (k22.1 ≤ k19.1 ∧ k22.2 ≤ k19.2) ∧ wp_X5_put (A 4) (aI S18 15 b20 (x6).toNatClampNeg) k22 S18 (fun (S21 : PS) => (∀ v23, v23 = x6 + (-1) → R v23 (k19.1 - k22.1, k19.2 - k22.2) S21)))))) → R x6 k19 S18) →
      ∀ S2, Pc S0 S2 A c0 (l ++ [58]) → (∀ q, q ≤ ndg v 9 0 → aI S2 15 (A 15) q = nI (48 + v / 10 ^ q % 10)) → R (nI (ndg v 9 0)) k1 S2 := by
    intro R hR S2 pr2 hd2
    have key : ∀ m lc k S2, Pc S0 S2 A c0 lc → m ≤ ndg v 9 0 → lc ++ dgu v (m + 1) = l ++ (58 :: numL v) → Bu c0 lc (l ++ (58 :: numL v)) k → (∀ q, q ≤ ndg v 9 0 → aI S2 15 (A 15) q = nI (48 + v / 10 ^ q % 10)) → R (nI m) k S2 := by
      intro m
      induction m with
      | zero =>
        intro lc k S2 pr2 hm hl hk hd2
        apply hR
        have p42 := pr2.choose_spec.2.2.2.2.2.1
        have p15 := pr2.choose_spec.2.2.2.2.2.2
        rw [if_neg (by decide)]
        have l1 : lc.length ≤ (lc ++ [nI (48 + v / 10 ^ 0 % 10)]).length := by rw [List.length_append]; omega
        have e : lc ++ [nI (48 + v / 10 ^ 0 % 10)] = l ++ (58 :: numL v) := hl
        refine ⟨_, p42, by rw [p15]; exact vp_in_nI (n := 0) (by omega) (by omega), _, hk.fst (l1 := lc ++ [nI (48 + v / 10 ^ 0 % 10)]) l1 (by rw [e]; exact Nat.le_refl _), ?_⟩
        rw [show (nI 0).toNatClampNeg = 0 from rfl, hd2 0 (by omega)]
        refine q_put pa pr2 (by rw [e]; exact hL) Bu.rf (fun S3 _ pr3 => ?_)
        rintro _ rfl
        apply hR
        rw [if_pos (by decide)]
        rw [e] at pr3
        exact hQ S3 pr3
      | succ m ih =>
        intro lc k S2 pr2 hm hl hk hd2
        apply hR
        have p42 := pr2.choose_spec.2.2.2.2.2.1
        have p15 := pr2.choose_spec.2.2.2.2.2.2
        rw [if_neg (nI_pos (by omega))]
        have l1 : lc.length ≤ (lc ++ [nI (48 + v / 10 ^ (m + 1) % 10)]).length := by rw [List.length_append]; omega
        have e : lc ++ [nI (48 + v / 10 ^ (m + 1) % 10)] ++ dgu v (m + 1) = l ++ (58 :: numL v) := by rw [List.append_assoc]; exact hl
        have l2 : (lc ++ [nI (48 + v / 10 ^ (m + 1) % 10)]).length ≤ (l ++ (58 :: numL v)).length := by rw [← e, List.length_append (as := lc ++ _)]; omega
        refine ⟨_, p42, by rw [p15]; exact vp_in_nI (by omega) (by omega), _, hk.fst l1 l2, ?_⟩
        rw [nI_clamp (by omega), hd2 (m + 1) hm]
        refine q_put pa pr2 (by omega) Bu.rf (fun S3 h15 pr3 => ?_)
        rintro _ rfl
        rw [nI_dn]
        exact ih _ _ S3 pr3 (by omega) e (hk.snd l1 l2) (fun q hq => by rw [h15]; exact hd2 q hq)
    exact key (ndg v 9 0) (l ++ [58]) k1 S2 pr2 (Nat.le_refl _) hN.symm hk1 hd2
  intro P hP
  have key : ∀ j i S2, i + j = ndg v 9 0 → Pc S0 S2 A c0 (l ++ [58]) → (∀ q, q < i → aI S2 15 (A 15) q = nI (48 + v / 10 ^ q % 10)) → P (nI i) (lN (v / 10 ^ i)) k1 S2 := by
    intro j
    induction j with
    | zero =>
      intro i S2 hi pr2 hd2
      have ei : i = ndg v 9 0 := by omega
      have p42 := pr2.choose_spec.2.2.2.2.2.1
      have p15 := pr2.choose_spec.2.2.2.2.2.2
      apply hP
      refine ⟨_, p42, by rw [p15]; exact vp_in_nI (by omega) (by omega), ?_⟩
      rintro _ rfl _ rfl _ rfl
      have vb : v / 10 ^ i ≤ v := Nat.div_le_self _ _
      intro K hK
      have n2' : v / 10 ^ i ≤ 9 := by rw [ei]; exact n2
      rw [show (10 : Int64) = lN 10 from rfl, lN_div (by omega) (by omega) (by omega), show v / 10 ^ i / 10 = 0 from Nat.div_eq_of_lt (Nat.lt_succ_of_le n2'), if_pos (by decide)]
      apply hK
      rintro _ rfl
      intro R hR
      rw [nI_clamp (by omega), nI_1, nI_pred, lN_mul, Nat.zero_mul, lN_sub (Nat.zero_le _), Nat.sub_zero, show (48 : Int64) = lN 48 from rfl, lN_add, lN_i, ei]
      refine fin R hR _ pr2.dg (fun q hq => ?_)
      rw [aI_wI]
      by_cases z : q = ndg v 9 0
      · rw [if_pos ⟨rfl, rfl, z⟩, z]
        rw [ei] at n2'
        have := bt_dig ⟨v / 10 ^ (ndg v 9 0) % 10, md10 _⟩
        simp only at this
        rw [← this, Nat.mod_eq_of_lt (Nat.lt_succ_of_le n2')]
        rfl
      · rw [if_neg (fun y => z y.2.2)]; exact hd2 q (by omega)
    | succ j ih =>
      intro i S2 hi pr2 hd2
      have p42 := pr2.choose_spec.2.2.2.2.2.1
      have p15 := pr2.choose_spec.2.2.2.2.2.2
      apply hP
      refine ⟨_, p42, by rw [p15]; exact vp_in_nI (by omega) (by omega), ?_⟩
      rintro _ rfl _ rfl _ rfl
      have vb : v / 10 ^ i ≤ v := Nat.div_le_self _ _
      intro K hK
      have n3' := n3 i (by omega)
      have ed : v / 10 ^ i / 10 = v / 10 ^ (i + 1) := by rw [Nat.div_div_eq_div_mul, ← Nat.pow_succ]
      rw [show (10 : Int64) = lN 10 from rfl, lN_div (by omega) (by omega) (by omega), show (0 : Int64) = lN 0 from rfl, if_neg (fun z => by rw [lN_leq (by omega) (by omega)] at z; omega), nI_1, show (20 : Int32) = nI 20 from rfl, if_pos (nI_lt (by omega) (by omega)), nI_clamp (by omega), lN_mul, lN_sub (Nat.div_mul_le_self _ _), dm10, show (48 : Int64) = lN 48 from rfl, lN_add, lN_i, ed]
      refine ih (i + 1) _ (by omega) pr2.dg (fun q hq => ?_)
      rw [aI_wI]
      by_cases z : q = i
      · rw [if_pos ⟨rfl, rfl, z⟩, z]
        have := bt_dig ⟨v / 10 ^ i % 10, md10 _⟩
        simp only at this
        exact this
      · rw [if_neg (fun y => z y.2.2)]; exact hd2 q (by omega)
  have k0 := key (ndg v 9 0) 0 S1 (by omega) pr1 (fun q hq => absurd hq (Nat.not_lt_zero _))
  rw [Nat.pow_zero, Nat.div_one] at k0
  exact k0
theorem q_pitch {Q : PS → Prop} {c : Nat} (pa : PrA S0 A) (pr : Pc S0 S A c0 l) (hc : c < 350) (hL : (l ++ pitL c).length ≤ 40000) (hk : Bu c0 l (l ++ pitL c) k) (hQ : ∀ S1, Pc S0 S1 A c0 (l ++ pitL c) → Q S1) : wp_X5_putPitch (A 4) (nI c) k S Q := by
  unfold wp_X5_putPitch
  refine c_let hc (c_alt hc (c_oct hc ?_))
  rintro _ rfl
  have e1 : (97 : Int32) + ((nI (c / 5 % 7) + 2) - (nI (c / 5 % 7) + 2) / 7 * 7) = nI (97 + (c / 5 % 7 + 2) % 7) := by
    rw [show (2 : Int32) = nI 2 from rfl, nI_add, show (7 : Int32) = nI 7 from rfl, nI_div (by omega) (by omega) (by omega), nI_mul, nI_sub (by omega), show (97 : Int32) = nI 97 from rfl, nI_add]
    congr 1; omega
  have e2 : nI (c / 35) - 4 = iJ (((c / 35 : Nat) : Int) - 4) := by rw [iJ_n, show (4 : Int32) = iJ 4 from rfl, iJ_sub]
  rw [e1, e2]
  generalize ha : nI (97 + (c / 5 % 7 + 2) % 7) = xa at *
  unfold pitL at hL hk hQ
  rw [ha] at hL hk hQ
  have alt : ∃ n y, n ≤ 2 ∧ (if 2 ≤ c % 5 then List.replicate (c % 5 - 2) (43 : Int32) else List.replicate (2 - c % 5) 45) = List.replicate n y ∧ ((0 ≤ iJ ((c : Int) % 5 - 2) ∧ y = 43 ∧ iJ ((c : Int) % 5 - 2) = nI n) ∨ (¬ 0 ≤ iJ ((c : Int) % 5 - 2) ∧ y = 45 ∧ 0 - iJ ((c : Int) % 5 - 2) = nI n)) := by
    by_cases z : 2 ≤ c % 5
    · refine ⟨c % 5 - 2, 43, by omega, if_pos z, Or.inl ⟨?_, rfl, ?_⟩⟩
      · rw [show (0 : Int32) = iJ 0 from rfl, iJ_le (by omega) (by omega) (by omega) (by omega)]; omega
      · rw [iJ_n]; congr 1; omega
    · refine ⟨2 - c % 5, 45, by omega, if_neg z, Or.inr ⟨?_, rfl, ?_⟩⟩
      · rw [show (0 : Int32) = iJ 0 from rfl, iJ_le (by omega) (by omega) (by omega) (by omega)]; omega
      · rw [show (0 : Int32) = iJ 0 from rfl, iJ_sub, iJ_n]; congr 1; omega
  have oct : ∃ n y, n ≤ 5 ∧ (if 4 ≤ c / 35 then List.replicate (c / 35 - 4) (39 : Int32) else List.replicate (4 - c / 35) 44) = List.replicate n y ∧ ((0 ≤ iJ (((c / 35 : Nat) : Int) - 4) ∧ y = 39 ∧ iJ (((c / 35 : Nat) : Int) - 4) = nI n) ∨ (¬ 0 ≤ iJ (((c / 35 : Nat) : Int) - 4) ∧ y = 44 ∧ 0 - iJ (((c / 35 : Nat) : Int) - 4) = nI n)) := by
    by_cases z : 4 ≤ c / 35
    · refine ⟨c / 35 - 4, 39, by omega, if_pos z, Or.inl ⟨?_, rfl, ?_⟩⟩
      · rw [show (0 : Int32) = iJ 0 from rfl, iJ_le (by omega) (by omega) (by omega) (by omega)]; omega
      · rw [iJ_n]; congr 1; omega
    · refine ⟨4 - c / 35, 44, by omega, if_neg z, Or.inr ⟨?_, rfl, ?_⟩⟩
      · rw [show (0 : Int32) = iJ 0 from rfl, iJ_le (by omega) (by omega) (by omega) (by omega)]; omega
      · rw [show (0 : Int32) = iJ 0 from rfl, iJ_sub, iJ_n]; congr 1; omega
  obtain ⟨n1, y1, b1, s1, t1⟩ := alt
  obtain ⟨n2, y2, b2, s2, t2⟩ := oct
  rw [s1, s2] at hL hk hQ
  have q1 : l.length ≤ (l ++ [xa]).length := by rw [List.length_append]; omega
  have q2 : (l ++ [xa]).length ≤ (l ++ [xa] ++ List.replicate n1 y1).length := by rw [List.length_append (bs := List.replicate n1 y1)]; omega
  have e : l ++ ([xa] ++ List.replicate n1 y1 ++ List.replicate n2 y2) = l ++ [xa] ++ List.replicate n1 y1 ++ List.replicate n2 y2 := by simp only [List.append_assoc]
  rw [e] at hL hk hQ
  have q3 : (l ++ [xa] ++ List.replicate n1 y1).length ≤ (l ++ [xa] ++ List.replicate n1 y1 ++ List.replicate n2 y2).length := by rw [List.length_append (bs := List.replicate n2 y2)]; omega
  refine ⟨_, hk.fst q1 (Nat.le_trans q2 q3), q_put pa pr (by omega) Bu.rf (fun S1 _ pr1 => ?_)⟩
  have hk1 := hk.snd q1 (Nat.le_trans q2 q3)
  intro K hK
  have step : ∀ t, t = y1 → (∀ w, w = nI n1 → ((if 0 ≤ iJ ((c : Int) % 5 - 2) then iJ ((c : Int) % 5 - 2) else 0 - iJ ((c : Int) % 5 - 2)) = w) → K (A 4) t (k.1 - (df c0 l (l ++ [xa])).1, k.2 - (df c0 l (l ++ [xa])).2) S1) := by
    intro t ht w hw1 hw2
    apply hK
    rw [hw2, hw1, ht]
    refine ⟨_, hk1.fst q2 q3, q_times pa pr1 (by omega) (by omega) Bu.rf (fun S2 pr2 => ?_)⟩
    have hk2 := hk1.snd q2 q3
    intro K2 hK2
    have fin : ∀ t2, t2 = y2 → ∀ w, w = nI n2 → ((if 0 ≤ iJ (((c / 35 : Nat) : Int) - 4) then iJ (((c / 35 : Nat) : Int) - 4) else 0 - iJ (((c / 35 : Nat) : Int) - 4)) = w) → ∀ kk, Bu c0 (l ++ [xa] ++ List.replicate n1 y1) (l ++ [xa] ++ List.replicate n1 y1 ++ List.replicate n2 y2) kk → K2 (A 4) t2 kk S2 := by
      intro t2 ht2 w hw1 hw2 kk hkk
      apply hK2
      rw [hw2, hw1, ht2]
      exact ⟨_, hkk.fst q3 (Nat.le_refl _), q_times pa pr2 (by omega) hL Bu.rf (fun S3 pr3 => hQ S3 pr3)⟩
    rcases t2 with ⟨z1, z2, z3⟩ | ⟨z1, z2, z3⟩
    · rw [if_pos z1]; exact fin 39 z2.symm _ z3 (by rw [if_pos z1]) _ hk2
    · rw [if_neg z1]; exact fin 44 z2.symm _ z3 (by rw [if_neg z1]) _ hk2
  rcases t1 with ⟨z1, z2, z3⟩ | ⟨z1, z2, z3⟩
  · rw [if_pos z1]; exact step 43 z2.symm _ z3 (by rw [if_pos z1])
  · rw [if_neg z1]; exact step 45 z2.symm _ z3 (by rw [if_neg z1])
end
