/-! Performing: the class asks its program; a frame is pushed. -/
section
variable {S S1 S0 : PS} {A : Nat → Nat} {B : Nat → Int32} {n : Nat}
theorem CT.kw (h : CT S0 A B n) (ha : Ad S0 A) (hk : Kws (PW A S0) S0 S) (hl : PfL S A) : CT S A B n := by
  have s5 : Same S0 S (A 5) := hk.at ha rfl rfl (by decide)
  have s6 : Same S0 S (A 6) := hk.at ha rfl rfl (by decide)
  have s27 : Same S0 S (A 27) := hk.at ha rfl rfl (by decide)
  refine ⟨⟨fun t ht => ?_, fun t ht => ?_⟩, by rw [s5.fI]; exact h.2.1, h.2.2.1, by rw [s27.aI]; exact h.2.2.2⟩
  · have g := h.1.1 t ht
    have ht' := ht
    unfold LayCf at ht
    simp only [List.mem_cons, List.not_mem_nil, or_false] at ht
    rcases ht with rfl | rfl | rfl | rfl | rfl | rfl | rfl | rfl | rfl | rfl | rfl | rfl | rfl | rfl | rfl | rfl | rfl
    all_goals first | exact s5.fR.trans g | exact s6.fR.trans g | exact hl.1 | exact hl.2.1 | exact hl.2.2.1
  · have g := h.1.2 t ht
    unfold LayCn at ht
    simp only [List.mem_cons, List.not_mem_nil, or_false] at ht
    have ee : ∀ r, adr r = true → aN S (A r) = aN S0 (A r) := fun r hr => (hk.1 _ (ha r hr).1).2.2
    rcases ht with rfl | rfl | rfl | rfl | rfl | rfl | rfl | rfl | rfl | rfl | rfl | rfl | rfl
    all_goals exact (ee _ rfl).trans g
section
variable {N nd pc : Nat}
/-- what the class has read -/
def StC (S0 : PS) (A : Nat → Nat) (B : Nat → Int32) (n pc : Nat) (N nd : Nat) (bh par ks lv : Nat → Nat) : Prop :=
  CT S0 A B n ∧ Ad S0 A ∧ (N ≤ 1508 ∧ pc ≤ 1500 ∧ nd ≤ 20 ∧ n ≤ 1500 ∧ fI S0 45 (A 5) = nI N ∧ fI S0 53 (A 5) = nI pc ∧ fI S0 54 (A 5) = nI nd) ∧ (∀ x, 1 ≤ x → x ≤ N → aI S0 17 (A 17) (x - 1) = nI (bh x)) ∧ RSt N bh par ∧ (∀ x, 1 ≤ x → x ≤ N → UE S0 A N nd 0 false bh par ks (fun _ => false) x) ∧ Lvs N par ks lv ∧ (∀ x, 1 ≤ x → x ≤ N → 3 ≤ ks x → ks x ≤ 6 → lv x ≤ 7) ∧ ∃ R0 T wr sy g ow, RSR S0 R0 A B n N nd bh par ks pc T wr sy g ow
/-- the class's program as performing sees it -/
def Pg (S S0 : PS) (A : Nat → Nat) (B : Nat → Int32) (n N nd pc : Nat) : Prop := CT S A B n ∧ fI S 45 (A 5) = nI N ∧ N ≤ 1508 ∧ fI S 53 (A 5) = nI pc ∧ pc ≤ 1500 ∧ fI S 54 (A 5) = nI nd ∧ nd ≤ 20 ∧ ∀ r, 16 ≤ r → r ≤ 27 → aI S r (A r) = aI S0 r (A r) ∧ aL S r (A r) = aL S0 r (A r)
variable {bh par ks lv : Nat → Nat}
theorem StC.pg (h : StC S0 A B n pc N nd bh par ks lv) (hk : Kws (PW A S0) S0 S) (hl : PfL S A) : Pg S S0 A B n N nd pc := by
  obtain ⟨a1, a2, ⟨b1, b2, b3, b4, b5, b6, b7⟩, -⟩ := h
  have s5 : Same S0 S (A 5) := hk.at a2 rfl rfl (by decide)
  refine ⟨a1.kw a2 hk hl, by rw [s5.fI]; exact b5, b1, by rw [s5.fI]; exact b6, b2, by rw [s5.fI]; exact b7, b3, fun r r1 r2 => ?_⟩
  have s : Same S0 S (A r) := hk.at a2 (by unfold adr; rw [decide_eq_true_iff]; omega) (by unfold pwr; rw [decide_eq_false_iff_not]; omega) (by omega)
  exact ⟨s.aI, s.aL⟩
theorem Pg.keep {J R : Nat → Bool} (h : Pg S S0 A B n N nd pc) (k : Keep J R S S1) (j44 : J 44 = false) (j45 : J 45 = false) (j53 : J 53 = false) (j54 : J 54 = false) (hr : ∀ r, 16 ≤ r → r ≤ 27 → R r = false) : Pg S1 S0 A B n N nd pc :=
  ⟨h.1.keep k j44 (hr 27 (by omega) (by omega)), by rw [(k.2.1 45 j45).1]; exact h.2.1, h.2.2.1, by rw [(k.2.1 53 j53).1]; exact h.2.2.2.1, h.2.2.2.2.1, by rw [(k.2.1 54 j54).1]; exact h.2.2.2.2.2.1, h.2.2.2.2.2.2.1, fun r a b => by rw [(k.2.2 r (hr r a b)).1, (k.2.2 r (hr r a b)).2]; exact h.2.2.2.2.2.2.2 r a b⟩
variable {e : Nat}
theorem s_pholds {Q : Int32 → PS → Prop} (h : Pg S S0 A B n N nd pc) (he : e < N) (hQ : Q 1 S) : wp_X6_holds (A 5) (nI e) S Q := by
  have hN := h.2.2.1
  unfold wp_X6_holds
  rw [if_neg (nI_pos (by omega)), h.2.1, if_neg (nI_ge he (by omega)), show (1508 : Int32) = nI 1508 from rfl, if_neg (nI_ge (by omega) (by omega))]
  exact hQ
theorem s_behind {Q : Int32 → PS → Prop} (h : Pg S S0 A B n N nd pc) (he : e < N) (hQ : Q (aI S0 17 (A 17) e) S) : wp_X6_behind (A 5) (nI e) S Q := by
  have hN := h.2.2.1
  unfold wp_X6_behind
  refine s_pholds h he ?_
  rw [if_neg (by decide)]
  refine ⟨_, h.1.1.f47, by rw [h.1.1.n17]; exact vp_in_nI (by omega) (by omega), ?_⟩
  rw [nI_clamp (by omega), (h.2.2.2.2.2.2.2 17 (by omega) (by omega)).1]; exact hQ
theorem s_one {Q : Int32 → PS → Prop} (h : Pg S S0 A B n N nd pc) (he : e < N) (hQ : Q (aI S0 18 (A 18) e) S) : wp_X6_one (A 5) (nI e) S Q := by
  have hN := h.2.2.1
  unfold wp_X6_one
  refine s_pholds h he ?_
  rw [if_neg (by decide)]
  refine ⟨_, h.1.1.f48, by rw [h.1.1.n18]; exact vp_in_nI (by omega) (by omega), ?_⟩
  rw [nI_clamp (by omega), (h.2.2.2.2.2.2.2 18 (by omega) (by omega)).1]; exact hQ
theorem s_two {Q : Int32 → PS → Prop} (h : Pg S S0 A B n N nd pc) (he : e < N) (hQ : Q (aI S0 19 (A 19) e) S) : wp_X6_two (A 5) (nI e) S Q := by
  have hN := h.2.2.1
  unfold wp_X6_two
  refine s_pholds h he ?_
  rw [if_neg (by decide)]
  refine ⟨_, h.1.1.f49, by rw [h.1.1.n19]; exact vp_in_nI (by omega) (by omega), ?_⟩
  rw [nI_clamp (by omega), (h.2.2.2.2.2.2.2 19 (by omega) (by omega)).1]; exact hQ
theorem s_ticksOf {Q : Int64 → PS → Prop} (h : Pg S S0 A B n N nd pc) (he : e < N) (hQ : Q (aL S0 20 (A 20) e) S) : wp_X6_ticksOf (A 5) (nI e) S Q := by
  have hN := h.2.2.1
  unfold wp_X6_ticksOf
  refine s_pholds h he ?_
  rw [if_neg (by decide)]
  refine ⟨_, h.1.1.f50, by rw [h.1.1.n20]; exact vp_in_nI (by omega) (by omega), ?_⟩
  rw [nI_clamp (by omega), (h.2.2.2.2.2.2.2 20 (by omega) (by omega)).2]; exact hQ
theorem s_placeOf {Q : Int32 → PS → Prop} (h : Pg S S0 A B n N nd pc) (he : e < N) (hQ : Q (aI S0 16 (A 16) e) S) : wp_X6_placeOf (A 5) (nI e) S Q := by
  have hN := h.2.2.1
  unfold wp_X6_placeOf
  refine s_pholds h he ?_
  rw [if_neg (by decide)]
  refine ⟨_, h.1.1.f46, by rw [h.1.1.n16]; exact vp_in_nI (by omega) (by omega), ?_⟩
  rw [nI_clamp (by omega), (h.2.2.2.2.2.2.2 16 (by omega) (by omega)).1]; exact hQ
theorem s_kindOf {Q : Int32 → PS → Prop} {pl : Nat} (h : Pg S S0 A B n N nd pc) (he : e < N) (hp : aI S0 16 (A 16) e = nI pl) (hl : pl < n) (hQ : Q (B pl) S) : wp_X6_kindOf (A 5) (nI e) S Q := by
  have hN := h.2.2.1
  unfold wp_X6_kindOf
  refine s_pholds h he ?_
  rw [if_neg (by decide)]
  refine ⟨_, h.1.1.f46, by rw [h.1.1.n16]; exact vp_in_nI (by omega) (by omega), ?_⟩
  rw [nI_clamp (by omega), (h.2.2.2.2.2.2.2 16 (by omega) (by omega)).1, hp]
  exact s_byteAt h.1 hl hQ
theorem s_kindOf_no {Q : Int32 → PS → Prop} (hQ : Q (-1) S) : wp_X6_kindOf (A 5) (-1) S Q := by
  unfold wp_X6_kindOf wp_X6_holds
  rw [if_pos (by decide)]
  show (if (0 : Int32) = 0 then Q (-1) S else _)
  rw [if_pos rfl]; exact hQ
theorem s_partOf {Q : Int32 → PS → Prop} {f k : Nat} (h : Pg S S0 A B n N nd pc) (he : e < N) (hf : aI S0 21 (A 21) e = nI f) (hk : f + k < pc) (hQ : Q (aI S0 22 (A 22) (f + k)) S) : wp_X6_partOf (A 5) (nI e) (nI k) S Q := by
  have hN := h.2.2.1
  have hpc := h.2.2.2.2.1
  unfold wp_X6_partOf
  refine s_pholds h he ?_
  intro K hK
  rw [if_neg (by decide)]
  refine ⟨_, h.1.1.f51, by rw [h.1.1.n21]; exact vp_in_nI (by omega) (by omega), ?_⟩
  rw [nI_clamp (by omega), (h.2.2.2.2.2.2.2 21 (by omega) (by omega)).1, hf, nI_add]
  apply hK
  rw [if_neg (nI_pos (by omega)), h.2.2.2.1, if_neg (nI_ge hk (by omega))]
  refine ⟨_, h.1.1.f52, by rw [h.1.1.n22]; exact vp_in_nI (by omega) (by omega), ?_⟩
  rw [nI_clamp (by omega), (h.2.2.2.2.2.2.2 22 (by omega) (by omega)).1]; exact hQ
theorem s_namedEntry {Q : Int32 → PS → Prop} {d : Nat} (h : Pg S S0 A B n N nd pc) (hd : d < nd) (hQ : Q (aI S0 24 (A 24) d) S) : wp_X6_namedEntry (A 5) (nI d) S Q := by
  have hn := h.2.2.2.2.2.2.1
  unfold wp_X6_namedEntry
  rw [if_neg (nI_pos (by omega)), h.2.2.2.2.2.1, if_neg (nI_ge hd (by omega))]
  refine ⟨_, h.1.1.f56, by rw [h.1.1.n24]; exact vp_in_nI (by omega) (by omega), ?_⟩
  rw [nI_clamp (by omega), (h.2.2.2.2.2.2.2 24 (by omega) (by omega)).1]; exact hQ
/-- whatever the number: the name's entry, or none -/
theorem s_namedEntry' {Q : Int32 → PS → Prop} {d : Int32} (h : Pg S S0 A B n N nd pc) (hQ : ∀ v, Q v S) : wp_X6_namedEntry (A 5) d S Q := by
  have hn := h.2.2.2.2.2.2.1
  unfold wp_X6_namedEntry
  split
  · exact hQ _
  · split
    · exact hQ _
    · rename_i c1 c2
      rw [h.2.2.2.2.2.1, Int32.le_iff_toInt_le, nI_toInt (by omega)] at c2
      rw [Int32.lt_iff_toInt_lt] at c1
      have e0 : (0 : Int32).toInt = 0 := by decide
      have hd : d = nI d.toInt.toNat := nI_ofi (by omega) (by omega)
      refine ⟨_, h.1.1.f56, by rw [h.1.1.n24, hd]; exact vp_in_nI (by omega) (by omega), hQ _⟩
theorem s_ptell {Q : Int32 → PS → Prop} {k : Int32} (hl : PfL S A) (h : Pg S S0 A B n N nd pc) (he : e < N) (hQ : Q 0 (sI (sI S 0 (A 0) k) 1 (A 0) (aI S0 16 (A 16) e))) : wp_X3_tell (A 3) k (nI e) S Q := by
  unfold wp_X3_tell
  refine ⟨_, hl.2.1, _, hl.1, ?_⟩
  exact s_placeOf h he (s_tell hQ)
/-! events, meters, frames: kept -/
def EqE (S S1 : PS) (A : Nat → Nat) : Prop := fI S1 70 (A 7) = fI S 70 (A 7) ∧ fI S1 79 (A 7) = fI S 79 (A 7) ∧ ∀ r, 28 ≤ r → r ≤ 38 → aI S1 r (A r) = aI S r (A r) ∧ aL S1 r (A r) = aL S r (A r)
def EqM (S S1 : PS) (A : Nat → Nat) : Prop := fI S1 17 (A 2) = fI S 17 (A 2) ∧ ∀ r, 10 ≤ r → r ≤ 12 → aI S1 r (A r) = aI S r (A r) ∧ aL S1 r (A r) = aL S r (A r)
theorem EqE.rf : EqE S S A := ⟨rfl, rfl, fun _ _ _ => ⟨rfl, rfl⟩⟩
theorem EqM.rf : EqM S S A := ⟨rfl, fun _ _ _ => ⟨rfl, rfl⟩⟩
theorem EqE.tr {S2 : PS} (h : EqE S S1 A) (g : EqE S1 S2 A) : EqE S S2 A := ⟨g.1.trans h.1, g.2.1.trans h.2.1, fun r a b => ⟨(g.2.2 r a b).1.trans (h.2.2 r a b).1, (g.2.2 r a b).2.trans (h.2.2 r a b).2⟩⟩
theorem EqM.tr {S2 : PS} (h : EqM S S1 A) (g : EqM S1 S2 A) : EqM S S2 A := ⟨g.1.trans h.1, fun r a b => ⟨(g.2 r a b).1.trans (h.2 r a b).1, (g.2 r a b).2.trans (h.2 r a b).2⟩⟩
theorem EqE.of {J R : Nat → Bool} (k : Keep J R S S1) (h1 : J 70 = false) (h2 : J 79 = false) (h3 : ∀ r, 28 ≤ r → r ≤ 38 → R r = false) : EqE S S1 A := ⟨by rw [(k.2.1 70 h1).1], by rw [(k.2.1 79 h2).1], fun r a b => ⟨by rw [(k.2.2 r (h3 r a b)).1], by rw [(k.2.2 r (h3 r a b)).2]⟩⟩
theorem EqM.of {J R : Nat → Bool} (k : Keep J R S S1) (h1 : J 17 = false) (h3 : ∀ r, 10 ≤ r → r ≤ 12 → R r = false) : EqM S S1 A := ⟨by rw [(k.2.1 17 h1).1], fun r a b => ⟨by rw [(k.2.2 r (h3 r a b)).1], by rw [(k.2.2 r (h3 r a b)).2]⟩⟩
theorem EqE.r (h : EqE S S1 A) (r : Nat) (h1 : 28 ≤ r) (h2 : r ≤ 38) : aI S1 r (A r) = aI S r (A r) := (h.2.2 r h1 h2).1
theorem EqE.l (h : EqE S S1 A) (r : Nat) (h1 : 28 ≤ r) (h2 : r ≤ 38) : aL S1 r (A r) = aL S r (A r) := (h.2.2 r h1 h2).2
section
variable {E V D M t : Nat} {VF X TB : Nat → Nat} (q : EqE S S1 A)
theorem EvC.eq (q : EqE S S1 A) {v : Nat} (h : EvC S A B n E V v) : EvC S1 A B n E V v := by
  unfold EvC
  rw [q.r 28 (by decide) (by decide), q.l 29 (by decide) (by decide), q.l 30 (by decide) (by decide), q.l 31 (by decide) (by decide), q.r 32 (by decide) (by decide), q.r 33 (by decide) (by decide), q.r 34 (by decide) (by decide), q.r 37 (by decide) (by decide), q.r 38 (by decide) (by decide)]; exact h
theorem VoC.eq (q : EqE S S1 A) {v : Nat} (h : VoC S A n D E VF v) : VoC S1 A n D E VF v := by
  unfold VoC
  rw [q.r 28 (by decide) (by decide), q.l 31 (by decide) (by decide), q.l 36 (by decide) (by decide), q.r 37 (by decide) (by decide), q.r 38 (by decide) (by decide)]; exact h
theorem PfE.eq (q : EqE S S1 A) (h : PfE S A B n D E V VF) : PfE S1 A B n D E V VF := by
  refine ⟨?_, fun e he => (h.2.1 e he).eq q, fun v hv => (h.2.2 v hv).eq q⟩
  rw [q.1, q.2.1]; exact h.1
theorem PfM.eq (q : EqM S S1 A) (h : PfM S A ks D M t X TB) : PfM S1 A ks D M t X TB := by
  unfold PfM
  rw [q.1, (q.2 10 (by decide) (by decide)).2, (q.2 11 (by decide) (by decide)).1, (q.2 12 (by decide) (by decide)).1]; exact h
end
end
end
