/-! Names: the class. -/
section
variable {S : PS} {A : Nat → Nat} {B : Nat → Int32} {n p : Nat} {Q : Int32 → PS → Prop}
theorem isLet_iff {c : Int32} : isLet c = true ↔ 97 ≤ c.toInt ∧ c.toInt ≤ 122 := by
  unfold isLet; rw [decide_eq_true_iff, Int32.le_iff_toInt_le, Int32.le_iff_toInt_le]; exact Iff.rfl
theorem s_isLet {c : Int32} (h1 : isLet c = true → Q 1 S) (h0 : isLet c = false → Q 0 S) : wp_X7_isNameLetter c S Q := by
  unfold wp_X7_isNameLetter
  have e1 : (97 : Int32).toInt = 97 := by decide
  have e2 : (122 : Int32).toInt = 122 := by decide
  by_cases h : isLet c = true
  · have h2 := isLet_iff.mp h
    rw [if_neg, if_neg]
    · exact h1 h
    · rw [Int32.lt_iff_toInt_lt]; omega
    · rw [Int32.lt_iff_toInt_lt]; omega
  · have h3 := h0 (Bool.eq_false_iff.mpr h)
    rw [isLet_iff] at h
    by_cases e : c < 97
    · rw [if_pos e]; exact h3
    · rw [if_neg e, if_pos]; exact h3
      rw [Int32.lt_iff_toInt_lt] at e ⊢
      omega
theorem r_isLet {c : Int32} (h1 : isLet c = true → Q 1 S) (h0 : isLet c = false → Q 0 S) : wp_X12_isLetter c S Q := s_isLet h1 h0
theorem isLet_lt (hB : Tx B n) (h : isLet (B p) = true) : p < n := by
  rcases Nat.lt_or_ge p n with q | q
  · exact q
  · rw [hB.2.1 p q] at h; cases h
def dl (c : Int32) : Nat := (c.toInt - 96).toNat
theorem isLet_of {c : Int32} (h : isLet c = true) : c = nI (96 + dl c) ∧ 1 ≤ dl c ∧ dl c ≤ 26 := by
  rw [isLet_iff] at h
  have h1 : dl c ≤ 26 := by unfold dl; omega
  have h2 : 1 ≤ dl c := by unfold dl; omega
  exact ⟨nI_ofi (by unfold dl; omega) (by omega), h2, h1⟩
theorem dl_i {c : Int32} (h : isLet c = true) : c - 97 + 1 = nI (dl c) := by
  obtain ⟨h1, h2, h3⟩ := isLet_of h
  conv => lhs; rw [h1]
  show nI (96 + dl c) - nI 97 + 1 = _
  rw [nI_sub (by omega), nI_1]; congr 1; omega
theorem dl_inj {c d : Int32} (hc : isLet c = true) (hd : isLet d = true) (h : dl c = dl d) : c = d := by
  rw [(isLet_of hc).1, (isLet_of hd).1, h]
def nh (B : Nat → Int32) (q : Nat) : Nat → Nat
  | 0 => 0
  | k + 1 => nh B q k * 32 + dl (B (q + k))
def hs (B : Nat → Int32) (w : Nat × Nat) : Int32 := if w.2 ≤ 6 then nI (nh B w.1 w.2) else -1
/-- letters -/
def Lt (B : Nat → Int32) (q k : Nat) : Prop := ∀ j, j < k → isLet (B (q + j)) = true
theorem nh_lt {q : Nat} : ∀ k, Lt B q k → nh B q k < 32 ^ k := by
  intro k
  induction k with
  | zero => intro _; exact Nat.one_pos
  | succ k ih =>
    intro h
    have h1 := ih (fun j hj => h j (by omega))
    have h2 := (isLet_of (h k (by omega))).2.2
    rw [nh, Nat.pow_succ]; omega
theorem nh_bd {q k : Nat} (h : Lt B q k) (hk : k ≤ 6) : nh B q k < 2 ^ 30 := Nat.lt_of_lt_of_le (nh_lt k h) (Nat.le_trans (Nat.pow_le_pow_right (by omega) hk) (by decide))
theorem nh_inj {q r : Nat} : ∀ k m, Lt B q k → Lt B r m → nh B q k = nh B r m → k = m ∧ ∀ j, j < k → B (q + j) = B (r + j) := by
  intro k
  induction k with
  | zero =>
    intro m h1 h2 h
    cases m with
    | zero => exact ⟨rfl, fun j hj => by omega⟩
    | succ m =>
      have := (isLet_of (h2 m (by omega))).2.1
      rw [nh, nh] at h; omega
  | succ k ih =>
    intro m h1 h2 h
    cases m with
    | zero =>
      have := (isLet_of (h1 k (by omega))).2.1
      rw [nh, nh] at h; omega
    | succ m =>
      have a := (isLet_of (h1 k (by omega))).2
      have b := (isLet_of (h2 m (by omega))).2
      rw [nh, nh] at h
      have e1 : nh B q k = nh B r m := by omega
      have e2 : dl (B (q + k)) = dl (B (r + m)) := by omega
      obtain ⟨e3, e4⟩ := ih m (fun j hj => h1 j (by omega)) (fun j hj => h2 j (by omega)) e1
      subst e3
      refine ⟨rfl, fun j hj => ?_⟩
      by_cases c : j = k
      · rw [c]; exact dl_inj (h1 k (by omega)) (h2 k (by omega)) e2
      · exact e4 j (by omega)
theorem nh_congr {q r : Nat} : ∀ k, (∀ j, j < k → B (q + j) = B (r + j)) → nh B q k = nh B r k := by
  intro k
  induction k with
  | zero => intro _; rfl
  | succ k ih => intro h; rw [nh, nh, ih (fun j hj => h j (by omega)), h k (by omega)]
theorem nI_or5 {a d : Nat} (ha : a < 2 ^ 25) (hd : d < 32) : (nI a <<< (5 &&& 31 : Int32)) ||| nI d = nI (a * 32 + d) := by
  apply Int32.toBitVec_inj.mp
  show (BitVec.ofNat 32 a <<< 5 ||| BitVec.ofNat 32 d) = BitVec.ofNat 32 (a * 32 + d)
  apply BitVec.eq_of_toNat_eq
  rw [BitVec.toNat_or, BitVec.toNat_shiftLeft, BitVec.toNat_ofNat, BitVec.toNat_ofNat, BitVec.toNat_ofNat, Nat.mod_eq_of_lt (a := a) (by omega), Nat.mod_eq_of_lt (a := d) (by omega), Nat.mod_eq_of_lt (a := a * 32 + d) (by omega)]
  rw [Nat.shiftLeft_eq, Nat.mod_eq_of_lt (by omega), ← Nat.shiftLeft_eq, ← Nat.shiftLeft_add_eq_or_of_lt (by omega), Nat.shiftLeft_eq]
theorem sc_let {q r : Nat} (h : sc isLet B q = r) : Lt B q (r - q) := fun j hj => sc_in (f := isLet) (p := q) (by omega) (by omega)
theorem hs_eq {q r k m : Nat} (h1 : Lt B q k) (h2 : Lt B r m) (hm : m ≤ 6) : hs B (q, k) = nI (nh B r m) ↔ k = m ∧ ∀ j, j < k → B (q + j) = B (r + j) := by
  have b2 := nh_bd h2 hm
  unfold hs
  by_cases c : k ≤ 6
  · have b1 := nh_bd h1 c
    rw [if_pos c]
    show nI (nh B q k) = nI (nh B r m) ↔ _
    rw [nI_eq (by omega) (by omega)]
    refine ⟨nh_inj k m h1 h2, ?_⟩
    rintro ⟨rfl, e⟩
    exact nh_congr k e
  · rw [if_neg c]
    refine ⟨fun e => absurd e.symm (nI_ne_neg (by omega)), ?_⟩
    rintro ⟨rfl, e⟩
    exact absurd hm c
theorem s_findName (h : CT S A B n) (hp : fI S 60 (A 6) = nI p) (hpn : p ≤ n)
    (h1 : sc isLet B (bl B p) ≠ bl B p → ∀ S1, KL S S1 → fI S1 60 (A 6) = nI (sc isLet B (bl B p)) → fI S1 68 (A 6) = nI (bl B p) → fI S1 67 (A 6) = hs B (bl B p, sc isLet B (bl B p) - bl B p) → Q 1 S1)
    (h0 : sc isLet B (bl B p) = bl B p → ∀ S1, CF S S1 A (1, bl B p) → Q 0 S1) : wp_X7_findName (A 6) S Q := by
  have hB := h.2.2.1
  have hn := hB.1
  have hbn := bl_le hB hpn
  unfold wp_X7_findName
  refine s_blanks h hp hpn ?_
  rintro _ rfl _ rfl
  rw [fI_pos]
  generalize bl B p = q at *
  intro P hP
  have key : ∀ k p1 S1, 1500 - p1 = k → q ≤ p1 → p1 ≤ n → sc isLet B p1 = sc isLet B q → KL S S1 → fI S1 60 (A 6) = nI p1 → fI S1 68 (A 6) = nI q → fI S1 67 (A 6) = hs B (q, p1 - q) → P S1 := by
    have fin : ∀ p1 S1, q ≤ p1 → p1 ≤ n → sc isLet B q = p1 → KL S S1 → fI S1 60 (A 6) = nI p1 → fI S1 68 (A 6) = nI q → fI S1 67 (A 6) = hs B (q, p1 - q) → ∀ K : PS → Prop, (∀ (S7 : PS), (if fI S7 68 (A 6) < fI S7 60 (A 6) then Q 1 S7 else wp_X7_refuse (A 6) S7 (fun (r10 : Int32) (S9 : PS) => (if r10 = 0 then Q 0 S9 else Q 1 S9))) → K S7) → K S1 := by
      intro p1 S1 a2 a3 a4 a5 a6 a7 a8 K hK
      rw [a4] at h1 h0
      apply hK
      rw [a6, a7]
      by_cases c : p1 = q
      · rw [if_neg (nI_nlt (by omega) (by omega))]
        refine s_refuse (h.kl a5) a6 (fun S2 h2 => ?_)
        rw [if_pos rfl]
        exact h0 c S2 (CF.of a5 (by rw [← c]; exact h2))
      · rw [if_pos (nI_lt (by omega) (by omega))]
        exact h1 c S1 a5 a6 a7 a8
    intro k
    induction k with
    | zero =>
      intro p1 S1 a1 a2 a3 a4 a5 a6 a7 a8
      have hc := h.kl a5
      apply hP
      refine ⟨_, hc.1.f58, ?_⟩
      intro K hK
      rw [hc.2.1, a6, if_pos (nI_le (by omega) (by omega))]
      exact fin p1 S1 a2 a3 (by rw [← a4]; exact sc_stop (by rw [hB.2.1 p1 (by omega)]; decide)) a5 a6 a7 a8 K hK
    | succ k ih =>
      intro p1 S1 a1 a2 a3 a4 a5 a6 a7 a8
      have hc := h.kl a5
      apply hP
      refine ⟨_, hc.1.f58, ?_⟩
      intro K hK
      rw [hc.2.1, a6]
      rcases Nat.lt_or_ge p1 n with hlt | hge
      · rw [if_neg (nI_ge hlt (by omega))]
        refine s_next hc a6 a3 ?_
        refine s_isLet (fun hl => ?_) (fun hl => ?_)
        · rw [if_neg (by decide)]
          intro K2 hK2
          rw [a6, a7, nI_sub a2]
          have go : ∀ v : Int32, v = hs B (q, p1 + 1 - q) → ∀ S2, S2 = sI (sI S1 67 (A 6) v) 60 (A 6) (nI (p1 + 1)) → P S2 := by
            rintro v hv _ rfl
            refine ih (p1 + 1) _ (by omega) (by omega) (by omega) (by rw [← sc_go hl (by omega)]; exact a4) (a5.tr ((Keep.rf.sI rfl).sI rfl)) fI_pos ?_ ?_
            · simp only [fI_s, fI_sn, fL_s, fL_sn, aI_w, aI_wn, aL_w, aL_wn, fI_sL, fI_wI, fI_wL, fL_sI, fL_wI, fL_wL, aI_sI, aI_sL, aI_wL, aL_sI, aL_sL, aL_wI, fR_sI, fR_sL, fR_wI, fR_wL, aN_sI, aN_sL, aN_wI, aN_wL, ne_eq, Nat.reduceEqDiff, not_false_eq_true]; exact a7
            · simp only [fI_s, fI_sn, fL_s, fL_sn, aI_w, aI_wn, aL_w, aL_wn, fI_sL, fI_wI, fI_wL, fL_sI, fL_wI, fL_wL, aI_sI, aI_sL, aI_wL, aL_sI, aL_sL, aL_wI, fR_sI, fR_sL, fR_wI, fR_wL, aN_sI, aN_sL, aN_wI, aN_wL, ne_eq, Nat.reduceEqDiff, not_false_eq_true]; exact hv
          by_cases c : 6 ≤ p1 - q
          · rw [if_pos (cle_yes 6 (by rfl) c (by omega))]
            apply hK2
            intro K3 hK3
            rw [if_pos rfl]
            apply hK3
            rintro _ rfl
            rw [fI_sn _ _ _ _ _ (by decide), a6, nI_1]
            exact go (-1) (by unfold hs; rw [if_neg (by omega)])
          · rw [if_neg (cle_no 6 (by rfl) (by omega) (by omega))]
            apply hK2
            intro K3 hK3
            rw [if_neg (by decide)]
            refine s_next hc a6 a3 ?_
            apply hK3
            rintro _ rfl
            rw [fI_sn _ _ _ _ _ (by decide), a6, nI_1]
            refine go _ ?_
            have hlt2 : Lt B q (p1 - q) := fun j hj => sc_in (f := isLet) (p := q) (q := q + j) (by omega) (by
              have := sc_ge (f := isLet) (B := B) (p := p1)
              omega)
            have e1 : p1 + 1 - q = (p1 - q) + 1 := by omega
            have e2 : q + (p1 - q) = p1 := by omega
            rw [a8]
            unfold hs
            rw [if_pos (by omega), if_pos (by omega), dl_i hl, e1, nh, e2, nI_or5]
            · have h5 : p1 - q ≤ 5 := by omega
              exact Nat.lt_of_lt_of_le (nh_lt _ hlt2) (Nat.le_trans (Nat.pow_le_pow_right (by omega) h5) (by decide))
            · have := (isLet_of hl).2.2; omega
        · rw [if_pos rfl]
          exact fin p1 S1 a2 a3 (by rw [← a4]; exact sc_stop hl) a5 a6 a7 a8 K hK
      · rw [if_pos (nI_le hge (by omega))]
        exact fin p1 S1 a2 a3 (by rw [← a4]; exact sc_stop (by rw [hB.2.1 p1 hge]; decide)) a5 a6 a7 a8 K hK
  refine key _ q _ rfl (Nat.le_refl q) hbn rfl (((Keep.rf.sI rfl).sI rfl).sI rfl) ?_ ?_ ?_
  · simp only [fI_s, fI_sn, fL_s, fL_sn, aI_w, aI_wn, aL_w, aL_wn, fI_sL, fI_wI, fI_wL, fL_sI, fL_wI, fL_wL, aI_sI, aI_sL, aI_wL, aL_sI, aL_sL, aL_wI, fR_sI, fR_sL, fR_wI, fR_wL, aN_sI, aN_sL, aN_wI, aN_wL, ne_eq, Nat.reduceEqDiff, not_false_eq_true]
  · simp only [fI_s, fI_sn, fL_s, fL_sn, aI_w, aI_wn, aL_w, aL_wn, fI_sL, fI_wI, fI_wL, fL_sI, fL_wI, fL_wL, aI_sI, aI_sL, aI_wL, aL_sI, aL_sL, aL_wI, fR_sI, fR_sL, fR_wI, fR_wL, aN_sI, aN_sL, aN_wI, aN_wL, ne_eq, Nat.reduceEqDiff, not_false_eq_true]
  · simp only [fI_s, fI_sn, fL_s, fL_sn, aI_w, aI_wn, aL_w, aL_wn, fI_sL, fI_wI, fI_wL, fL_sI, fL_wI, fL_wL, aI_sI, aI_sL, aI_wL, aL_sI, aL_sL, aL_wI, fR_sI, fR_sL, fR_wI, fR_wL, aN_sI, aN_sL, aN_wI, aN_wL, ne_eq, Nat.reduceEqDiff, not_false_eq_true]; rw [Nat.sub_self]; rfl
/-- the first of k from i on -/
def fnd (f : Nat → Int32) (key : Int32) : Nat → Nat → Int32
  | 0, _ => -1
  | k + 1, i => if f i = key then nI i else fnd f key k (i + 1)
theorem fnd_none {f : Nat → Int32} {key : Int32} : ∀ k i, i + k < 2 ^ 31 → (fnd f key k i = -1 ↔ ∀ j, i ≤ j → j < i + k → f j ≠ key) := by
  intro k
  induction k with
  | zero => intro i _; exact ⟨fun _ j h1 h2 => by omega, fun _ => rfl⟩
  | succ k ih =>
    intro i hi
    rw [fnd]
    by_cases c : f i = key
    · rw [if_pos c]
      exact ⟨fun e => absurd e (nI_ne_neg (by omega)), fun e => absurd c (e i (by omega) (by omega))⟩
    · rw [if_neg c, ih (i + 1) (by omega)]
      refine ⟨fun e j h1 h2 => ?_, fun e j h1 h2 => e j (by omega) (by omega)⟩
      by_cases d : j = i
      · rw [d]; exact c
      · exact e j (by omega) (by omega)
theorem fnd_some {f : Nat → Int32} {key : Int32} : ∀ k i, fnd f key k i = -1 ∨ ∃ j, i ≤ j ∧ j < i + k ∧ fnd f key k i = nI j ∧ f j = key := by
  intro k
  induction k with
  | zero => intro i; exact Or.inl rfl
  | succ k ih =>
    intro i
    rw [fnd]
    by_cases c : f i = key
    · rw [if_pos c]; exact Or.inr ⟨i, by omega, by omega, rfl, c⟩
    · rw [if_neg c]
      rcases ih (i + 1) with e | ⟨j, h1, h2, h3, h4⟩
      · exact Or.inl e
      · exact Or.inr ⟨j, by omega, by omega, h3, h4⟩
theorem fnd_congr {f g : Nat → Int32} {key key2 : Int32} : ∀ k i, (∀ j, i ≤ j → j < i + k → (f j = key ↔ g j = key2)) → fnd f key k i = fnd g key2 k i := by
  intro k
  induction k with
  | zero => intro i _; rfl
  | succ k ih =>
    intro i h
    rw [fnd, fnd, ih (i + 1) (fun j h1 h2 => h j (by omega) (by omega))]
    have := h i (by omega) (by omega)
    by_cases c : f i = key
    · rw [if_pos c, if_pos (this.mp c)]
    · rw [if_neg c, if_neg (fun d => c (this.mpr d))]
theorem s_indexOfName {nd : Nat} {key : Int32} (h : LayC S A) (hd : fI S 54 (A 5) = nI nd) (hb : nd ≤ 20) (hQ : Q (fnd (aI S 23 (A 23)) key nd 0) S) : wp_X6_indexOfName (A 5) key S Q := by
  unfold wp_X6_indexOfName
  intro P hP
  have go : ∀ k i, i + k = nd → fnd (aI S 23 (A 23)) key k i = fnd (aI S 23 (A 23)) key nd 0 → P (nI i) S := by
    intro k
    induction k with
    | zero =>
      intro i a1 a2
      apply hP
      rw [hd, if_pos (nI_le (by omega) (by omega))]
      rw [fnd] at a2; rw [a2]; exact hQ
    | succ k ih =>
      intro i a1 a2
      apply hP
      rw [hd, if_neg (nI_ge (by omega) (by omega))]
      refine ⟨_, h.f55, by rw [h.n23]; exact vp_in_nI (by omega) (by omega), ?_⟩
      rw [nI_clamp (by omega)]
      rw [fnd] at a2
      by_cases c : aI S 23 (A 23) i = key
      · rw [if_pos c] at a2 ⊢; rw [a2]; exact hQ
      · rw [if_neg c] at a2 ⊢
        rintro _ rfl
        rw [nI_1]
        exact ih (i + 1) (by omega) a2
  exact go nd 0 (by omega) rfl
theorem s_indexOfParam {pq : Nat} (h : LayC S A) (hd : fI S 64 (A 6) = nI pq) (hb : pq ≤ 4) (hQ : Q (fnd (aI S 26 (A 26)) (fI S 67 (A 6)) pq 0) S) : wp_X7_indexOfParameter (A 6) S Q := by
  unfold wp_X7_indexOfParameter
  intro P hP
  have go : ∀ k i, i + k = pq → fnd (aI S 26 (A 26)) (fI S 67 (A 6)) k i = fnd (aI S 26 (A 26)) (fI S 67 (A 6)) pq 0 → P (nI i) S := by
    intro k
    induction k with
    | zero =>
      intro i a1 a2
      apply hP
      rw [hd, if_pos (nI_le (by omega) (by omega))]
      rw [fnd] at a2; rw [a2]; exact hQ
    | succ k ih =>
      intro i a1 a2
      apply hP
      rw [hd, if_neg (nI_ge (by omega) (by omega))]
      refine ⟨_, h.f63, by rw [h.n26]; exact vp_in_nI (by omega) (by omega), ?_⟩
      rw [nI_clamp (by omega)]
      rw [fnd] at a2
      by_cases c : aI S 26 (A 26) i = fI S 67 (A 6)
      · rw [if_pos c] at a2 ⊢; rw [a2]; exact hQ
      · rw [if_neg c] at a2 ⊢
        rintro _ rfl
        rw [nI_1]
        exact ih (i + 1) (by omega) a2
  exact go pq 0 (by omega) rfl
end
