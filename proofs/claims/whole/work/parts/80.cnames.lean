/-! New names: the class. -/
section
variable {S : PS} {A : Nat → Nat} {B : Nat → Int32} {n p : Nat} {Q : Int32 → PS → Prop}
theorem app_get {α : Type} {l : List α} {w v : α} {j : Nat} (h : (l ++ [w])[j]? = some v) : (j < l.length ∧ l[j]? = some v) ∨ (j = l.length ∧ v = w) := by
  rw [List.getElem?_append] at h
  split at h
  · rename_i c; exact Or.inl ⟨c, h⟩
  · rename_i c
    have e : j - l.length = 0 := by
      rcases Nat.eq_zero_or_pos (j - l.length) with e | e
      · exact e
      · rw [List.getElem?_eq_none (by simp only [List.length_cons, List.length_nil]; omega)] at h; cases h
    rw [e] at h
    have : w = v := by simpa using h
    exact Or.inr ⟨by omega, this.symm⟩
def nms (B : Nat → Int32) (c : Nat → Int32) (nd : Nat) : Nat → List (Nat × Nat) → Nat → Except (Nat × Nat) (List (Nat × Nat) × Nat)
  | 0, _, p => .error (1, p)
  | k + 1, qs, q => if hs B (q, sc isLet B q - q) ≠ -1 ∧ (fnd c (hs B (q, sc isLet B q - q)) nd 0 ≠ -1 ∨ ∃ w, w ∈ qs ∧ hs B w = hs B (q, sc isLet B q - q)) then .error (4, q)
    else if 4 < qs.length ∨ 6 < sc isLet B q - q then .error (5, q)
    else if isLet (B (bl B (sc isLet B q))) = true then nms B c nd k (qs ++ [(q, sc isLet B q - q)]) (bl B (sc isLet B q))
    else .ok (qs ++ [(q, sc isLet B q - q)], bl B (sc isLet B q))
/-- names that may be stored -/
def Wn (B : Nat → Int32) (n : Nat) (w : Nat × Nat) : Prop := 1 ≤ w.2 ∧ w.2 ≤ 6 ∧ w.1 + w.2 ≤ n ∧ Lt B w.1 w.2
theorem Wn.ne {w : Nat × Nat} (h : Wn B n w) : hs B w = nI (nh B w.1 w.2) ∧ nh B w.1 w.2 < 2 ^ 30 := ⟨if_pos h.2.1, nh_bd h.2.2.2 h.2.1⟩
theorem nms_ok {c : Nat → Int32} {nd : Nat} (hB : Tx B n) : ∀ k qs q l r, isLet (B q) = true → (∀ w, w ∈ qs → Wn B n w) → nms B c nd k qs q = .ok (l, r) → q < r ∧ r ≤ n ∧ (∀ w, w ∈ l → Wn B n w) ∧ 1 ≤ l.length ∧ l.length ≤ 5 ∧ (qs.length ≤ 5 → bl B r = r) := by
  intro k
  induction k with
  | zero => intro qs q l r _ _ h; rw [nms] at h; cases h
  | succ k ih =>
    intro qs q l r hq hw h
    have hlt := isLet_lt hB hq
    have g1 := sc_go hq (by have := hB.1; omega)
    have g2 := sc_ge (f := isLet) (B := B) (p := q + 1)
    have g3 := sc_le (f := isLet) hB (by decide) (Nat.le_of_lt hlt)
    have g4 := bl_ge (B := B) (p := sc isLet B q)
    have g5 := bl_le hB g3
    rw [nms] at h
    split at h
    · cases h
    · split at h
      · cases h
      · rename_i c2
        have hw2 : ∀ w, w ∈ qs ++ [(q, sc isLet B q - q)] → Wn B n w := fun w hm => by
          rcases List.mem_append.mp hm with e | e
          · exact hw w e
          · rw [List.mem_singleton.mp e]
            exact ⟨by show 1 ≤ sc isLet B q - q; omega, by show sc isLet B q - q ≤ 6; omega, by show q + (sc isLet B q - q) ≤ n; omega, sc_let rfl⟩
        split at h
        · rename_i c3
          have := ih _ _ _ _ c3 hw2 h
          refine ⟨by omega, this.2.1, this.2.2.1, this.2.2.2.1, this.2.2.2.2.1, fun z => this.2.2.2.2.2 (by rw [List.length_append, List.length_singleton]; omega)⟩
        · injection h with h; injection h with h1 h2
          subst h1 h2
          refine ⟨by omega, g5, hw2, by rw [List.length_append, List.length_singleton]; omega, by rw [List.length_append, List.length_singleton]; omega, fun _ => bl_bl hB⟩
theorem nms_kd {c : Nat → Int32} {nd : Nat} : ∀ k qs q e, nms B c nd k qs q = .error e → Kd e := by
  intro k
  induction k with
  | zero => intro qs q e h; rw [nms] at h; injection h with h; rw [← h]; exact kdm (by decide) (by decide)
  | succ k ih =>
    intro qs q e h
    rw [nms] at h
    split at h
    · injection h with h; rw [← h]; exact kdm (by decide) (by decide)
    · split at h
      · injection h with h; rw [← h]; exact kdm (by decide) (by decide)
      · split at h
        · exact ih _ _ _ h
        · cases h
theorem s_newName {nd pq q : Nat} {own tm key : Int32} (h : CT S A B n) (hd : fI S 54 (A 5) = nI nd) (hnd : nd ≤ 20) (hq : fI S 64 (A 6) = nI pq) (hpq : pq ≤ 4) (hk : fI S 67 (A 6) = key) (hp : fI S 68 (A 6) = nI q)
    (h4 : key ≠ -1 → (key = own ∨ fnd (aI S 23 (A 23)) key nd 0 ≠ -1 ∨ fnd (aI S 26 (A 26)) key pq 0 ≠ -1) → ∀ S1, CF S S1 A (4, q) → Q 0 S1)
    (h5 : (key = -1 ∨ tm ≠ 0) → (key ≠ -1 → ¬ (key = own ∨ fnd (aI S 23 (A 23)) key nd 0 ≠ -1 ∨ fnd (aI S 26 (A 26)) key pq 0 ≠ -1)) → ∀ S1, CF S S1 A (5, q) → Q 0 S1)
    (h1 : key ≠ -1 → tm = 0 → ¬ (key = own ∨ fnd (aI S 23 (A 23)) key nd 0 ≠ -1 ∨ fnd (aI S 26 (A 26)) key pq 0 ≠ -1) → Q 1 S) : wp_X7_newName (A 6) own tm S Q := by
  unfold wp_X7_newName
  rw [hk]
  by_cases c : key = -1
  all_goals
    intro K hK
    have goal : ∀ t1 : Int32, (t1 = 0 ↔ key ≠ -1) → K t1 S := by
      intro t1 ht
      apply hK
      intro K2 hK2
      have taken : (key = own ∨ fnd (aI S 23 (A 23)) key nd 0 ≠ -1 ∨ fnd (aI S 26 (A 26)) key pq 0 ≠ -1) → K2 1 S := by
        intro z
        apply hK2
        intro K3 hK3
        rw [if_neg (by decide)]
        by_cases c2 : key = -1
        · rw [if_neg (fun y => ht.mp y c2)]
          apply hK3
          intro K4 hK4
          rw [if_neg (fun y => ht.mp y c2)]
          apply hK4
          refine ⟨_, h.1.f59, ?_⟩
          rw [hp]
          refine s_tell ?_
          rw [if_pos rfl]
          exact h5 (Or.inl c2) (fun y => absurd c2 y) _ (CF_tell (k := 5))
        · rw [if_pos (ht.mpr c2)]
          refine ⟨_, h.1.f59, ?_⟩
          rw [hp]
          exact s_tell (h4 c2 z _ (CF_tell (k := 4)))
      have free : ¬ (key = own ∨ fnd (aI S 23 (A 23)) key nd 0 ≠ -1 ∨ fnd (aI S 26 (A 26)) key pq 0 ≠ -1) → K2 0 S := by
        intro z
        apply hK2
        intro K3 hK3
        rw [if_pos rfl]
        apply hK3
        intro K4 hK4
        have bad : (key = -1 ∨ tm ≠ 0) → K4 S := by
          intro y
          apply hK4
          refine ⟨_, h.1.f59, ?_⟩
          rw [hp]
          refine s_tell ?_
          rw [if_pos rfl]
          exact h5 y (fun _ => z) _ (CF_tell (k := 5))
        by_cases c2 : key = -1
        · rw [if_neg (fun y => ht.mp y c2)]; exact bad (Or.inl c2)
        · rw [if_pos (ht.mpr c2)]
          by_cases c3 : tm = 0
          · rw [if_pos c3]; exact h1 c2 c3 z
          · rw [if_neg c3]; exact bad (Or.inr c3)
      rw [hk]
      by_cases c1 : key = own
      · rw [if_pos c1]; exact taken (Or.inl c1)
      · rw [if_neg c1]
        refine ⟨_, h.1.f58, ?_⟩
        refine s_indexOfName h.1 hd hnd ?_
        by_cases c2 : fnd (aI S 23 (A 23)) key nd 0 = -1
        · rw [if_pos c2]
          refine s_indexOfParam h.1 hq hpq ?_
          rw [hk]
          by_cases c3 : fnd (aI S 26 (A 26)) key pq 0 = -1
          · rw [if_pos c3]; exact free (fun z => by rcases z with z | z | z; exact c1 z; exact z c2; exact z c3)
          · rw [if_neg c3]; exact taken (Or.inr (Or.inr c3))
        · rw [if_neg c2]; exact taken (Or.inr (Or.inl c2))
    first
    | (rw [if_pos c]; exact goal 1 ⟨fun y => absurd y (by decide), fun y => absurd c y⟩)
    | (rw [if_neg c]; exact goal 0 ⟨fun _ => c, fun _ => rfl⟩)
def jQ (j : Nat) : Bool := decide (j = 0 ∨ j = 1 ∨ j = 60 ∨ j = 64 ∨ (65 ≤ j ∧ j ≤ 68))
def rQ (r : Nat) : Bool := decide (r = 26)
def KQ (S S1 : PS) : Prop := Keep jQ rQ S S1
theorem KL.q {S1 : PS} (h : KL S S1) : KQ S S1 := h.mono (fun j => by unfold jQ jL; simp only [decide_eq_false_iff_not]; omega) (fun _ _ => rfl)
theorem CT.kq {S1 : PS} (h : CT S A B n) (g : KQ S S1) : CT S1 A B n := h.keep g rfl rfl
def CFQ (S S1 : PS) (A : Nat → Nat) (e : Nat × Nat) : Prop := KQ S S1 ∧ fI S1 0 (A 0) = nI e.1 ∧ fI S1 1 (A 0) = nI e.2
theorem CF.toQ {S1 : PS} {e : Nat × Nat} (h : CF S S1 A e) : CFQ S S1 A e := ⟨h.1.q, h.2⟩
theorem CFQ.of {S1 S2 : PS} {e : Nat × Nat} (g : KQ S S1) (h : CFQ S1 S2 A e) : CFQ S S2 A e := ⟨g.tr h.1, h.2⟩
/-- the class's parameters are these names -/
def Pm (S : PS) (A : Nat → Nat) (B : Nat → Int32) (ps : List (Nat × Nat)) : Prop := fI S 64 (A 6) = nI ps.length ∧ ∀ (j : Nat) (w : Nat × Nat), ps[j]? = some w → aI S 26 (A 26) j = hs B w
theorem Pm.fnd {ps : List (Nat × Nat)} (h : Pm S A B ps) {key : Int32} (hl : ps.length ≤ 4) : fnd (aI S 26 (A 26)) key ps.length 0 ≠ -1 ↔ ∃ w, w ∈ ps ∧ hs B w = key := by
  rw [Ne, fnd_none ps.length 0 (by omega)]
  constructor
  · intro z
    by_cases e : ∃ w, w ∈ ps ∧ hs B w = key
    · exact e
    · exfalso
      apply z
      intro j _ hj e2
      have hj' : j < ps.length := by omega
      refine e ⟨ps[j], List.getElem_mem hj', ?_⟩
      rw [← h.2 j ps[j] (List.getElem?_eq_getElem hj')]; exact e2
  · rintro ⟨w, hw, e⟩ z
    obtain ⟨j, hj, e2⟩ := List.getElem_of_mem hw
    refine z j (Nat.zero_le j) (by omega) ?_
    rw [h.2 j w (by rw [← e2]; exact List.getElem?_eq_getElem hj)]; exact e
theorem s_params {nd : Nat} {w0 : Nat × Nat} (h : CT S A B n) (hp : fI S 60 (A 6) = nI p) (hpn : p ≤ n) (hd : fI S 54 (A 5) = nI nd) (hnd : nd ≤ 20) (hm : Pm S A B []) (hw0 : Wn B n w0)
    (h1 : ∀ l q S1, (if isLet (B (bl B p)) = true then nms B (aI S 23 (A 23)) nd 5 [w0] (bl B p) else .ok ([w0], bl B p)) = .ok (w0 :: l, q) → KQ S S1 → fI S1 60 (A 6) = nI q → Pm S1 A B l → Q 1 S1)
    (h0 : ∀ e S1, (if isLet (B (bl B p)) = true then nms B (aI S 23 (A 23)) nd 5 [w0] (bl B p) else .ok ([w0], bl B p)) = .error e → CFQ S S1 A e → Q 0 S1) : wp_X7_findParameters (A 6) (hs B w0) S Q := by
  have hB := h.2.2.1
  have hn := hB.1
  unfold wp_X7_findParameters
  intro P hP
  have key : ∀ k p1 ps S1, ps.length + k = 4 → KQ S S1 → fI S1 60 (A 6) = nI p1 → p1 ≤ n → Pm S1 A B ps →
      (∀ l q S2, (if isLet (B (bl B p1)) = true then nms B (aI S 23 (A 23)) nd (k + 1) (w0 :: ps) (bl B p1) else .ok (w0 :: ps, bl B p1)) = .ok (w0 :: l, q) → KQ S S2 → fI S2 60 (A 6) = nI q → Pm S2 A B l → Q 1 S2) →
      (∀ e S2, (if isLet (B (bl B p1)) = true then nms B (aI S 23 (A 23)) nd (k + 1) (w0 :: ps) (bl B p1) else .ok (w0 :: ps, bl B p1)) = .error e → CFQ S S2 A e → Q 0 S2) → P (nI ps.length) S1 := by
    intro k
    induction k with
    | zero =>
      intro p1 ps S1 a1 a2 a3 a4 a5 a6 a7
      have hc := h.kq a2
      have hbn := bl_le hB a4
      have hl4 : ps.length = 4 := by omega
      apply hP
      rw [if_neg (clt_no 4 (by rfl) (by omega) (by omega))]
      refine s_blanks hc a3 a4 ?_
      refine s_next hc.pos fI_pos hbn ?_
      refine s_isLet (fun hl => ?_) (fun hl => ?_)
      · rw [if_neg (by decide)]
        rw [if_pos hl] at a7
        refine s_findName hc.pos fI_pos hbn (fun c S2 k2 f2 g2 n2 => ?_) (fun c S2 c2 => ?_)
        · rw [bl_bl hB] at c f2 g2 n2
          rw [if_neg (by decide)]
          intro K hK
          have k3 : KL S1 S2 := KL.pos.tr k2
          have k4 : KQ S S2 := a2.tr k3.q
          have h2 := h.kq k4
          have hm2 : Pm S2 A B ps := ⟨by rw [(k3.2.1 64 rfl).1]; exact a5.1, by rw [(k3.2.2 26 rfl).1]; exact a5.2⟩
          rw [if_pos (by rw [hl4]; decide)]
          apply hK
          rw [nms] at a7
          refine s_newName (q := bl B p1) h2 (by rw [(k4.2.1 54 rfl).1]; exact hd) hnd hm2.1 (by omega) n2 g2 (fun y1 y2 S3 c3 => ?_) (fun y1 y2 S3 c3 => ?_) (fun _ y2 => absurd y2 (by decide))
          · rw [if_pos rfl]
            have y3 : fnd (aI S 23 (A 23)) (hs B (bl B p1, sc isLet B (bl B p1) - bl B p1)) nd 0 ≠ -1 ∨ ∃ w, w ∈ w0 :: ps ∧ hs B w = hs B (bl B p1, sc isLet B (bl B p1) - bl B p1) := by
              rcases y2 with y | y | y
              · exact Or.inr ⟨w0, List.mem_cons_self .., y.symm⟩
              · rw [(k4.2.2 23 rfl).1] at y; exact Or.inl y
              · obtain ⟨w, z1, z2⟩ := (hm2.fnd (by omega)).mp y
                exact Or.inr ⟨w, List.mem_cons_of_mem _ z1, z2⟩
            rw [if_pos ⟨y1, y3⟩] at a7
            exact a7 _ S3 rfl (CFQ.of k4 c3.toQ)
          · rw [if_pos rfl]
            rw [if_neg, if_pos (Or.inl (by rw [List.length_cons]; omega))] at a7
            · exact a7 _ S3 rfl (CFQ.of k4 c3.toQ)
            · rintro ⟨z1, z2⟩
              apply y2 z1
              rcases z2 with z | ⟨w, z3, z4⟩
              · exact Or.inr (Or.inl (by rw [(k4.2.2 23 rfl).1]; exact z))
              · rcases List.mem_cons.mp z3 with e | e
                · exact Or.inl (by rw [← z4, e])
                · exact Or.inr (Or.inr ((hm2.fnd (by omega)).mpr ⟨w, e, z4⟩))
        · exfalso
          rw [bl_bl hB] at c
          have := sc_go hl (by have := isLet_lt hB hl; omega)
          have := sc_ge (f := isLet) (B := B) (p := bl B p1 + 1)
          omega
      · rw [if_pos rfl]
        rw [if_neg (by rw [hl]; decide)] at a6
        exact a6 ps _ _ rfl (a2.tr KL.pos.q) fI_pos ⟨by simp only [fI_s, fI_sn, fL_s, fL_sn, aI_w, aI_wn, aL_w, aL_wn, fI_sL, fI_wI, fI_wL, fL_sI, fL_wI, fL_wL, aI_sI, aI_sL, aI_wL, aL_sI, aL_sL, aL_wI, fR_sI, fR_sL, fR_wI, fR_wL, aN_sI, aN_sL, aN_wI, aN_wL, ne_eq, Nat.reduceEqDiff, not_false_eq_true]; exact a5.1, by simp only [fI_s, fI_sn, fL_s, fL_sn, aI_w, aI_wn, aL_w, aL_wn, fI_sL, fI_wI, fI_wL, fL_sI, fL_wI, fL_wL, aI_sI, aI_sL, aI_wL, aL_sI, aL_sL, aL_wI, fR_sI, fR_sL, fR_wI, fR_wL, aN_sI, aN_sL, aN_wI, aN_wL, ne_eq, Nat.reduceEqDiff, not_false_eq_true]; exact a5.2⟩
    | succ k ih =>
      intro p1 ps S1 a1 a2 a3 a4 a5 a6 a7
      have hc := h.kq a2
      have hbn := bl_le hB a4
      apply hP
      rw [if_neg (clt_no 4 (by rfl) (by omega) (by omega))]
      refine s_blanks hc a3 a4 ?_
      refine s_next hc.pos fI_pos hbn ?_
      refine s_isLet (fun hl => ?_) (fun hl => ?_)
      · rw [if_neg (by decide)]
        rw [if_pos hl] at a6 a7
        refine s_findName hc.pos fI_pos hbn (fun c S2 k2 f2 g2 n2 => ?_) (fun c S2 c2 => ?_)
        · rw [bl_bl hB] at c f2 g2 n2
          rw [if_neg (by decide)]
          intro K hK
          have k3 : KL S1 S2 := KL.pos.tr k2
          have k4 : KQ S S2 := a2.tr k3.q
          have h2 := h.kq k4
          have hm2 : Pm S2 A B ps := ⟨by rw [(k3.2.1 64 rfl).1]; exact a5.1, by rw [(k3.2.2 26 rfl).1]; exact a5.2⟩
          rw [if_neg (ceq_no 4 (by rfl) (by omega) (by omega) (by omega))]
          apply hK
          rw [nms] at a6 a7
          refine s_newName (q := bl B p1) h2 (by rw [(k4.2.1 54 rfl).1]; exact hd) hnd hm2.1 (by omega) n2 g2 (fun y1 y2 S3 c3 => ?_) (fun y1 y2 S3 c3 => ?_) (fun y1 _ y2 => ?_)
          · rw [if_pos rfl]
            have y3 : fnd (aI S 23 (A 23)) (hs B (bl B p1, sc isLet B (bl B p1) - bl B p1)) nd 0 ≠ -1 ∨ ∃ w, w ∈ w0 :: ps ∧ hs B w = hs B (bl B p1, sc isLet B (bl B p1) - bl B p1) := by
              rcases y2 with y | y | y
              · exact Or.inr ⟨w0, List.mem_cons_self .., y.symm⟩
              · rw [(k4.2.2 23 rfl).1] at y; exact Or.inl y
              · obtain ⟨w, z1, z2⟩ := (hm2.fnd (by omega)).mp y
                exact Or.inr ⟨w, List.mem_cons_of_mem _ z1, z2⟩
            rw [if_pos ⟨y1, y3⟩] at a7
            exact a7 _ S3 rfl (CFQ.of k4 c3.toQ)
          · rw [if_pos rfl]
            have y3 : hs B (bl B p1, sc isLet B (bl B p1) - bl B p1) = -1 := by
              rcases y1 with y | y
              · exact y
              · exact absurd rfl y
            rw [if_neg (fun z => z.1 y3), if_pos (Or.inr ?_)] at a7
            · exact a7 _ S3 rfl (CFQ.of k4 c3.toQ)
            · rcases Nat.lt_or_ge 6 (sc isLet B (bl B p1) - bl B p1) with z | z
              · exact z
              · exfalso
                unfold hs at y3
                rw [if_pos z] at y3
                have hb9 := nh_bd (sc_let (B := B) (q := bl B p1) rfl) z
                exact nI_ne_neg (Nat.lt_of_lt_of_le hb9 (by decide)) y3
          · rw [if_neg (by decide)]
            have hs6 : ¬ 6 < sc isLet B (bl B p1) - bl B p1 := fun z => by
              apply y1; unfold hs; rw [if_neg (by omega)]
            have hnt : ¬ (hs B (bl B p1, sc isLet B (bl B p1) - bl B p1) ≠ -1 ∧ (fnd (aI S 23 (A 23)) (hs B (bl B p1, sc isLet B (bl B p1) - bl B p1)) nd 0 ≠ -1 ∨ ∃ w, w ∈ w0 :: ps ∧ hs B w = hs B (bl B p1, sc isLet B (bl B p1) - bl B p1))) := by
              rintro ⟨z1, z2⟩
              apply y2
              rcases z2 with z | ⟨w, z3, z4⟩
              · exact Or.inr (Or.inl (by rw [(k4.2.2 23 rfl).1]; exact z))
              · rcases List.mem_cons.mp z3 with e | e
                · exact Or.inl (by rw [← z4, e])
                · exact Or.inr (Or.inr ((hm2.fnd (by omega)).mpr ⟨w, e, z4⟩))
            rw [if_neg hnt, if_neg (by rw [List.length_cons]; omega)] at a6 a7
            intro K2 hK2
            rw [if_neg (cle_no 4 (by rfl) (by omega) (by omega))]
            refine ⟨_, h2.1.f63, by rw [h2.1.n26]; exact vp_in_nI (by omega) (by omega), ?_⟩
            rw [nI_clamp (by omega), n2, nI_1]
            rintro _ rfl _ rfl
            apply hK2
            rintro _ rfl
            rw [nI_1]
            have el : ps.length + 1 = (ps ++ [(bl B p1, sc isLet B (bl B p1) - bl B p1)]).length := by rw [List.length_append, List.length_singleton]
            rw [el]
            have ea : w0 :: ps ++ [(bl B p1, sc isLet B (bl B p1) - bl B p1)] = w0 :: (ps ++ [(bl B p1, sc isLet B (bl B p1) - bl B p1)]) := rfl
            rw [ea] at a6 a7
            refine ih (sc isLet B (bl B p1)) _ _ (by omega) (k4.tr ((Keep.rf.wI rfl).sI rfl)) (by simp only [fI_s, fI_sn, fL_s, fL_sn, aI_w, aI_wn, aL_w, aL_wn, fI_sL, fI_wI, fI_wL, fL_sI, fL_wI, fL_wL, aI_sI, aI_sL, aI_wL, aL_sI, aL_sL, aL_wI, fR_sI, fR_sL, fR_wI, fR_wL, aN_sI, aN_sL, aN_wI, aN_wL, ne_eq, Nat.reduceEqDiff, not_false_eq_true]; exact f2) (sc_le hB (by decide) hbn) ⟨?_, ?_⟩ a6 a7
            · simp only [fI_s, fI_sn, fL_s, fL_sn, aI_w, aI_wn, aL_w, aL_wn, fI_sL, fI_wI, fI_wL, fL_sI, fL_wI, fL_wL, aI_sI, aI_sL, aI_wL, aL_sI, aL_sL, aL_wI, fR_sI, fR_sL, fR_wI, fR_wL, aN_sI, aN_sL, aN_wI, aN_wL, ne_eq, Nat.reduceEqDiff, not_false_eq_true]
            · intro j w hj
              simp only [fI_s, fI_sn, fL_s, fL_sn, aI_w, aI_wn, aL_w, aL_wn, fI_sL, fI_wI, fI_wL, fL_sI, fL_wI, fL_wL, aI_sI, aI_sL, aI_wL, aL_sI, aL_sL, aL_wI, fR_sI, fR_sL, fR_wI, fR_wL, aN_sI, aN_sL, aN_wI, aN_wL, ne_eq, Nat.reduceEqDiff, not_false_eq_true]
              rcases app_get hj with ⟨e1, e2⟩ | ⟨e1, e2⟩
              · rw [uq_ne (by omega)]; exact hm2.2 j w e2
              · rw [e1, uq_at, e2]
        · exfalso
          rw [bl_bl hB] at c
          have := sc_go hl (by have := isLet_lt hB hl; omega)
          have := sc_ge (f := isLet) (B := B) (p := bl B p1 + 1)
          omega
      · rw [if_pos rfl]
        rw [if_neg (by rw [hl]; decide)] at a6
        exact a6 ps _ _ rfl (a2.tr KL.pos.q) fI_pos ⟨by simp only [fI_s, fI_sn, fL_s, fL_sn, aI_w, aI_wn, aL_w, aL_wn, fI_sL, fI_wI, fI_wL, fL_sI, fL_wI, fL_wL, aI_sI, aI_sL, aI_wL, aL_sI, aL_sL, aL_wI, fR_sI, fR_sL, fR_wI, fR_wL, aN_sI, aN_sL, aN_wI, aN_wL, ne_eq, Nat.reduceEqDiff, not_false_eq_true]; exact a5.1, by simp only [fI_s, fI_sn, fL_s, fL_sn, aI_w, aI_wn, aL_w, aL_wn, fI_sL, fI_wI, fI_wL, fL_sI, fL_wI, fL_wL, aI_sI, aI_sL, aI_wL, aL_sI, aL_sL, aL_wI, fR_sI, fR_sL, fR_wI, fR_wL, aN_sI, aN_sL, aN_wI, aN_wL, ne_eq, Nat.reduceEqDiff, not_false_eq_true]; exact a5.2⟩
  exact key 4 p [] S rfl Keep.rf hp hpn hm h1 h0
end
