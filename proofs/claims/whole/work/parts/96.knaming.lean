/-! A named music: both. -/
section
variable {S S10 S13 Sr : PS} {A : Nat → Nat} {B : Nat → Int32} {n p op N pc nd pq T : Nat} {inm : Bool} {stk : List (Nat × Nat × Nat × Nat × Nat)} {G : Int32 → PS → Prop} {Q : PS → Prop}
def jAn (j : Nat) : Bool := decide (j = 54)
def rAn (r : Nat) : Bool := decide (23 ≤ r ∧ r ≤ 25)
def AN (S S1 : PS) (A : Nat → Nat) (nd : Nat) (v e k : Int32) : Prop := Keep jAn rAn S S1 ∧ fI S1 54 (A 5) = nI (nd + 1) ∧ aI S1 23 (A 23) = uq (aI S 23 (A 23)) nd v ∧ aI S1 24 (A 24) = uq (aI S 24 (A 24)) nd e ∧ aI S1 25 (A 25) = uq (aI S 25 (A 25)) nd k
def jNe (j : Nat) : Bool := decide (j = 125 ∨ j = 126)
def rNe (r : Nat) : Bool := decide (r = 46 ∨ 55 ≤ r ∧ r ≤ 58)
def NE (S S1 : PS) (A : Nat → Nat) (nd x : Nat) (m : Int32) : Prop := Keep jNe rNe S S1 ∧ aL S1 = aL S ∧ fI S1 126 (A 9) = 0 ∧ fI S1 125 (A 9) = nI (nd + 1) ∧ aI S1 46 (A 46) = uq (aI S 46 (A 46)) x m ∧ aI S1 55 (A 55) = uq (aI S 55 (A 55)) nd (aI S 59 (A 59) 0) ∧ aI S1 56 (A 56) = uq (aI S 56 (A 56)) nd (aI S 60 (A 60) 0) ∧ aI S1 57 (A 57) = uq (aI S 57 (A 57)) nd m ∧ aI S1 58 (A 58) = uq (aI S 58 (A 58)) nd (fI S 129 (A 9))
theorem s_addName {v : Int32} {x k : Nat} (h : LayC S A) (hd : fI S 54 (A 5) = nI nd) (hb : nd < 20) (hQ : ∀ S1, AN S S1 A nd v (nI x) (nI k) → Q S1) : wp_X6_addName (A 5) v (nI x) (nI k) S Q := by
  unfold wp_X6_addName
  rw [hd, if_neg (cle_no 20 (by rfl) hb (by omega))]
  refine ⟨_, h.f55, by rw [h.n23]; exact vp_in_nI hb (by omega), ?_⟩
  rw [nI_clamp (by omega)]
  rintro _ rfl
  rw [fI_wI, hd]
  refine ⟨_, h.f56, by show vp_in _ (aN S (A 24)); rw [h.n24]; exact vp_in_nI hb (by omega), ?_⟩
  rw [nI_clamp (by omega)]
  rintro _ rfl
  rw [fI_wI, fI_wI, hd]
  refine ⟨_, h.f57, by show vp_in _ (aN S (A 25)); rw [h.n25]; exact vp_in_nI hb (by omega), ?_⟩
  rw [nI_clamp (by omega)]
  rintro _ rfl
  rw [fI_wI, fI_wI, fI_wI, hd, nI_1]
  rintro _ rfl
  refine hQ _ ⟨(((Keep.rf.wI rfl).wI rfl).wI rfl).sI rfl, ?_, ?_, ?_, ?_⟩
  all_goals simp only [fI_s, fI_sn, fL_s, fL_sn, aI_w, aI_wn, aL_w, aL_wn, fI_sL, fI_wI, fI_wL, fL_sI, fL_wI, fL_wL, aI_sI, aI_sL, aI_wL, aL_sI, aL_sL, aL_wI, fR_sI, fR_sL, fR_wI, fR_wL, aN_sI, aN_sL, aN_wI, aN_wL, ne_eq, Nat.reduceEqDiff, not_false_eq_true]
theorem r_endNaming {m : Int32} {x : Nat} (h : LayM S A) (hd : fI S 125 (A 9) = nI nd) (hb : nd < 20) (hx : x < 3100)
    (hQ : ∀ S1, NE S S1 A nd x m → Q S1) : wp_X12_endNaming (A 9) (nI x) m S Q := by
  have v0 : ∀ {k : Nat}, 0 < k → k < 2 ^ 31 → vp_in 0 k := fun {k} a b => vp_in_nI (show 0 < k from a) b
  have z0 : (0 : Int32).toNatClampNeg = 0 := by decide
  unfold wp_X12_endNaming
  rintro _ rfl
  refine ⟨_, h.f109, by show vp_in _ (aN S (A 46)); rw [h.n46]; exact vp_in_nI hx (by omega), ?_⟩
  rw [nI_clamp (by omega)]
  rintro _ rfl
  rw [show fI (wI (sI S 126 (A 9) 0) 46 (A 46) x m) 125 (A 9) = nI nd by simp only [fI_s, fI_sn, fL_s, fL_sn, aI_w, aI_wn, aL_w, aL_wn, fI_sL, fI_wI, fI_wL, fL_sI, fL_wI, fL_wL, aI_sI, aI_sL, aI_wL, aL_sI, aL_sL, aL_wI, fR_sI, fR_sL, fR_wI, fR_wL, aN_sI, aN_sL, aN_wI, aN_wL, ne_eq, Nat.reduceEqDiff, not_false_eq_true]; exact hd]
  refine ⟨_, h.f121, _, h.f127, by show vp_in 0 (aN S (A 59)); rw [h.n59]; exact v0 (by omega) (by omega), by show vp_in _ (aN S (A 55)); rw [h.n55]; exact vp_in_nI hb (by omega), ?_⟩
  rw [nI_clamp (by omega), z0, aI_wn _ _ _ _ _ _ (by decide), aI_sI]
  rintro _ rfl
  rw [show fI (wI (wI (sI S 126 (A 9) 0) 46 (A 46) x m) 55 (A 55) nd (aI S 59 (A 59) 0)) 125 (A 9) = nI nd by simp only [fI_s, fI_sn, fL_s, fL_sn, aI_w, aI_wn, aL_w, aL_wn, fI_sL, fI_wI, fI_wL, fL_sI, fL_wI, fL_wL, aI_sI, aI_sL, aI_wL, aL_sI, aL_sL, aL_wI, fR_sI, fR_sL, fR_wI, fR_wL, aN_sI, aN_sL, aN_wI, aN_wL, ne_eq, Nat.reduceEqDiff, not_false_eq_true]; exact hd]
  refine ⟨_, h.f122, _, h.f128, by show vp_in 0 (aN S (A 60)); rw [h.n60]; exact v0 (by omega) (by omega), by show vp_in _ (aN S (A 56)); rw [h.n56]; exact vp_in_nI hb (by omega), ?_⟩
  rw [nI_clamp (by omega), aI_wn _ _ _ _ _ _ (by decide), aI_wn _ _ _ _ _ _ (by decide), aI_sI]
  rintro _ rfl
  rw [show fI (wI (wI (wI (sI S 126 (A 9) 0) 46 (A 46) x m) 55 (A 55) nd (aI S 59 (A 59) 0)) 56 (A 56) nd (aI S 60 (A 60) 0)) 125 (A 9) = nI nd by simp only [fI_s, fI_sn, fL_s, fL_sn, aI_w, aI_wn, aL_w, aL_wn, fI_sL, fI_wI, fI_wL, fL_sI, fL_wI, fL_wL, aI_sI, aI_sL, aI_wL, aL_sI, aL_sL, aL_wI, fR_sI, fR_sL, fR_wI, fR_wL, aN_sI, aN_sL, aN_wI, aN_wL, ne_eq, Nat.reduceEqDiff, not_false_eq_true]; exact hd]
  refine ⟨_, h.f123, by show vp_in _ (aN S (A 57)); rw [h.n57]; exact vp_in_nI hb (by omega), ?_⟩
  rw [nI_clamp (by omega)]
  rintro _ rfl
  rw [show fI (wI (wI (wI (wI (sI S 126 (A 9) 0) 46 (A 46) x m) 55 (A 55) nd (aI S 59 (A 59) 0)) 56 (A 56) nd (aI S 60 (A 60) 0)) 57 (A 57) nd m) 125 (A 9) = nI nd by simp only [fI_s, fI_sn, fL_s, fL_sn, aI_w, aI_wn, aL_w, aL_wn, fI_sL, fI_wI, fI_wL, fL_sI, fL_wI, fL_wL, aI_sI, aI_sL, aI_wL, aL_sI, aL_sL, aL_wI, fR_sI, fR_sL, fR_wI, fR_wL, aN_sI, aN_sL, aN_wI, aN_wL, ne_eq, Nat.reduceEqDiff, not_false_eq_true]; exact hd]
  refine ⟨_, h.f124, by show vp_in _ (aN S (A 58)); rw [h.n58]; exact vp_in_nI hb (by omega), ?_⟩
  rw [nI_clamp (by omega), show fI (wI (wI (wI (wI (sI S 126 (A 9) 0) 46 (A 46) x m) 55 (A 55) nd (aI S 59 (A 59) 0)) 56 (A 56) nd (aI S 60 (A 60) 0)) 57 (A 57) nd m) 129 (A 9) = fI S 129 (A 9) by simp only [fI_s, fI_sn, fL_s, fL_sn, aI_w, aI_wn, aL_w, aL_wn, fI_sL, fI_wI, fI_wL, fL_sI, fL_wI, fL_wL, aI_sI, aI_sL, aI_wL, aL_sI, aL_sL, aL_wI, fR_sI, fR_sL, fR_wI, fR_wL, aN_sI, aN_sL, aN_wI, aN_wL, ne_eq, Nat.reduceEqDiff, not_false_eq_true]]
  rintro _ rfl
  rw [show fI (wI (wI (wI (wI (wI (sI S 126 (A 9) 0) 46 (A 46) x m) 55 (A 55) nd (aI S 59 (A 59) 0)) 56 (A 56) nd (aI S 60 (A 60) 0)) 57 (A 57) nd m) 58 (A 58) nd (fI S 129 (A 9))) 125 (A 9) = nI nd by simp only [fI_s, fI_sn, fL_s, fL_sn, aI_w, aI_wn, aL_w, aL_wn, fI_sL, fI_wI, fI_wL, fL_sI, fL_wI, fL_wL, aI_sI, aI_sL, aI_wL, aL_sI, aL_sL, aL_wI, fR_sI, fR_sL, fR_wI, fR_wL, aN_sI, aN_sL, aN_wI, aN_wL, ne_eq, Nat.reduceEqDiff, not_false_eq_true]; exact hd, nI_1]
  rintro _ rfl
  refine hQ _ ⟨((((((Keep.rf.sI rfl).wI rfl).wI rfl).wI rfl).wI rfl).wI rfl).sI rfl, rfl, ?_, ?_, ?_, ?_, ?_, ?_, ?_⟩
  all_goals simp only [fI_s, fI_sn, fL_s, fL_sn, aI_w, aI_wn, aL_w, aL_wn, fI_sL, fI_wI, fI_wL, fL_sI, fL_wI, fL_wL, aI_sI, aI_sL, aI_wL, aL_sI, aL_sL, aL_wI, fR_sI, fR_sL, fR_wI, fR_wL, aN_sI, aN_sL, aN_wI, aN_wL, ne_eq, Nat.reduceEqDiff, not_false_eq_true]
theorem k_nend {S0 S16 : PS} {p0 N0 pc0 nd0 : Nat} {pl : Nat} {w : Nat × Nat} (c0 : CIv S0 A B n p0 (op + 1) N0 pc0 nd0 pl true) (c20 : nd0 < 20) (hlen4 : pl ≤ 4) (nb : NoB B (bl B p0)) (e : B (bl B p0) = 125)
    (ha : ∀ x, x < 23 ∨ 25 < x → aI S16 x = aI S0 x) (hl : aL S16 20 = aL S0 20) (h23 : aI S16 23 (A 23) = uq (aI S0 23 (A 23)) nd0 (hs B w)) (h24 : aI S16 24 (A 24) = uq (aI S0 24 (A 24)) nd0 (nI N)) (h25 : aI S16 25 (A 25) = uq (aI S0 25 (A 25)) nd0 (nI pl)) :
    Sim A B n S0 p0 (op + 1) N0 pc0 nd0 pl true ((3, N + 1, 0, w) :: stk) (wI S16 17 (A 17) N (nI N0)) (bl B p0 + 1) op N0 pc0 (nd0 + 1) 0 false stk := by
  obtain ⟨x1, x2, x3, x4, x5, x6, x7, x8, x9, y1', y2', y3', y4', y5', y6'⟩ := c0
  have hn := x1.2.2.1.1
  intro Sr mm R P hP hg
  obtain ⟨T, wr, sy, g, ow, bh, par, ks, lv, pe, lst, mx⟩ := mm.mx
  obtain ⟨e1, e2, e3', e4, e5, e6, e7⟩ := mx.pre (by omega)
  have rt := mx.1
  have nu := mx.2.1
  cases hs : stk with
  | nil => rw [hs] at mx; exact absurd mx.2.2.2.2.2.2.2.2.2.1.1 (show ¬ (3 : Nat) = 0 by decide)
  | cons f1 r1 =>
    rw [hs] at mx
    have sk := mx.2.2.2.2.2.2.2.2.2.1
    have hlen := mx.2.2.2.2.2.2.2.2.2.2.1
    have hr1 : r1.length = op := by simpa using hlen
    have s61 : aI Sr 61 (A 61) (op + 1) = nI 3 := by rw [← hr1]; exact sk.2.2.2.2.2.1
    have s62 : aI Sr 62 (A 62) (op + 1) = nI (g (N + 1)) := by rw [← hr1]; exact sk.2.2.2.2.2.2.2.1
    have s63 : aI Sr 63 (A 63) (op + 1) = nI (ow (N + 1)) := by rw [← hr1]; exact sk.2.2.2.2.2.2.1
    have hgx := mx.2.2.1.glt (z := N + 1) sk.2.2.2.1
    refine it_ends rt nu.2.1 x3 (Or.inr (Or.inl e)) e3' (by omega) s61 (by omega) hP (fun z => by omega) (fun _ Q2 hQ2 => ?_)
    refine r_endOk rt.pos fI_at (by simp only [fI_s, fI_sn, fL_s, fL_sn, aI_w, aI_wn, aL_w, aL_wn, fI_sL, fI_wI, fI_wL, fL_sI, fL_wI, fL_wL, aI_sI, aI_sL, aI_wL, aL_sI, aL_sL, aL_wI, fR_sI, fR_sL, fR_wI, fR_wL, aN_sI, aN_sL, aN_wI, aN_wL, ne_eq, Nat.reduceEqDiff, not_false_eq_true]; exact e3') (by omega) s61 (by omega) s62 s63 (Or.inr (Or.inr ⟨by decide, e⟩)) (fun z => absurd (e.symm.trans z) (by decide)) (fun _ _ => ?_) (fun z => by omega) (fun z => absurd rfl z)
    rw [sI_sI]
    generalize hS : sI (sI Sr 101 (A 9) (nI (bl B p0 + 1))) 134 (A 9) (nI (op + 1)) = Sa
    have ka : Keep jM rN Sr Sa := by rw [← hS]; exact (Keep.rf.sI rfl).sI rfl
    have kma : KM Sr Sa := ka.mono (fun _ => id) (fun _ _ => rfl)
    have fa : ∀ j, j ≠ 101 → j ≠ 134 → fI Sa j = fI Sr j := fun j j1 j2 => by rw [← hS, fI_sn _ _ _ _ _ j2, fI_sn _ _ _ _ _ j1]
    have f101 : fI Sa 101 (A 9) = nI (bl B p0 + 1) := by rw [← hS]; simp only [fI_s, fI_sn, fL_s, fL_sn, aI_w, aI_wn, aL_w, aL_wn, fI_sL, fI_wI, fI_wL, fL_sI, fL_wI, fL_wL, aI_sI, aI_sL, aI_wL, aL_sI, aL_sL, aL_wI, fR_sI, fR_sL, fR_wI, fR_wL, aN_sI, aN_sL, aN_wI, aN_wL, ne_eq, Nat.reduceEqDiff, not_false_eq_true]
    have f134 : fI Sa 134 (A 9) = nI (op + 1) := by rw [← hS]; simp only [fI_s, fI_sn, fL_s, fL_sn, aI_w, aI_wn, aL_w, aL_wn, fI_sL, fI_wI, fI_wL, fL_sI, fL_wI, fL_wL, aI_sI, aI_sL, aI_wL, aL_sI, aL_sL, aL_wI, fR_sI, fR_sL, fR_wI, fR_wL, aN_sI, aN_sL, aN_wI, aN_wL, ne_eq, Nat.reduceEqDiff, not_false_eq_true]
    have aa : aI Sa = aI Sr := by rw [← hS]; rfl
    have al : aL Sa = aL Sr := by rw [← hS]; rfl
    clear hS
    refine r_endNaming (nd := nd0) (rt.km kma).1 (by rw [fa 125 (by decide) (by decide)]; exact nu.2.2.2.2.2.2.2.2.1) c20 (by omega) (fun Sb ne => ?_)
    obtain ⟨k, v0, v1, v2, v3, v4, v5, v6, v7⟩ := ne
    have kmb : KM Sr Sb := Keep.tr kma (k.mono (fun j => by unfold jM jNe; simp only [decide_eq_false_iff_not]; omega) (fun r => by unfold rM rNe; simp only [decide_eq_false_iff_not]; omega))
    have fb : ∀ j, jNe j = false → j ≠ 101 → j ≠ 134 → fI Sb j = fI Sr j := fun j j1 j2 j3 => by rw [(k.2.1 j j1).1, fa j j2 j3]
    have z102 : fI Sb 102 (A 9) = 0 := by rw [fb 102 rfl (by decide) (by decide)]; exact nu.1
    refine hQ2 _ ⟨fun _ => hg Sb kmb ?_, fun z => absurd z102 z⟩
    rw [hs]
    rw [aa] at v3 v4 v5 v6 v7
    refine mx.end3 (q := bl B p0 + 1) (S1 := wI S16 17 (A 17) N (nI N0)) (Sr1 := Sb) (by omega) hlen4 (by omega) ⟨fun x i he z1 z2 z3 z4 => by rw [aI_wn _ _ _ _ _ _ z1, ha x (by omega)], fun i he => by rw [aL_wI, hl], fun k hk => by rw [aI_wn _ _ _ _ _ _ (by decide), ha 22 (by decide)]⟩ (by rw [aI_w, Nat.add_sub_cancel, ha 17 (by decide)]) (by rw [aI_wn _ _ _ _ _ _ (by decide)]; exact h23) (by rw [aI_wn _ _ _ _ _ _ (by decide), Nat.add_sub_cancel]; exact h24) (by rw [aI_wn _ _ _ _ _ _ (by decide)]; exact h25) (rt.km kmb) ⟨z102, by rw [(k.2.1 101 rfl).1]; exact f101, by rw [fb 113 rfl (by decide) (by decide)]; exact e1, nu.2.2.2.1, by rw [fb 117 rfl (by decide) (by decide)]; exact nu.2.2.2.2.1, by rw [fb 120 rfl (by decide) (by decide)]; exact nu.2.2.2.2.2.1, nu.2.2.2.2.2.2.1, by rw [(k.2.1 134 rfl).1]; exact f134, v2, v1, fun z => by cases z⟩ (fun x z1 z2 => by rw [(k.2.2 x (by unfold rNe; rw [decide_eq_false_iff_not]; omega)).1, aa]) (by rw [v0, al]) v3 v4 v5 v6 (by rw [v7, fa 129 (by decide) (by decide), nu.2.2.2.2.2.2.2.2.2.2 rfl])
theorem k_naming {d : Nat} (ci : CIv S A B n p op N pc nd pq inm) (hb : B (bl B p) = 61) (ho : CO (sI S 60 (A 6) (nI (bl B p))) S10 A N (bl B p) pc) (ih : SMu A B n d) (hd : d + (op + 1) = 10) (hst : inm = false → ∀ f, f ∈ stk → f.1 ≠ 3)
    (h1 : ∀ S13, IOk A B n S p op N pc nd pq inm stk S13 → G 1 S13) (h0 : ∀ S13, IBad A B n S p op N pc nd pq inm stk S13 → G 0 S13) : wp_X7_naming (wp_X7_music d) (A 6) (nI N) S10 G := by
  have hB := ci.1.2.2.1
  have hn := hB.1
  have hge := bl_ge (B := B) (p := p)
  have hlt := hB.lt hb (by decide)
  have ci0 := ci
  obtain ⟨o1, o2, o3, o4, o5, o6, o7, o8, o9, o10⟩ := ci.o hlt ho
  obtain ⟨c1, c2, c3, c4, c5, c6, c7, c8, c9, d1, d2, d3, d4, d5, d6⟩ := ci
  have turn : ∀ (Sr : PS) (R : PS → Prop) (P : Int32 → PS → Prop) T wr sy g ow bh par ks lv pe lst, MX S Sr A B n p op N pc nd pq inm stk T wr sy g ow bh par ks lv pe lst → ClR A R P →
      (∀ l q r Sr1 Sr2 Sr3, nam B (aI S 23 (A 23)) nd inm (bl B p) = .ok (l, q) → blk B op q = .ok r → IA (sI Sr 101 (A 9) (nI (bl B p))) Sr1 A T op (ow (hdx stk)) (bl B p) lst → KNm Sr1 Sr2 → fI Sr2 126 (A 9) = 1 → fI Sr2 129 (A 9) = nI (l.length - 1) → fI Sr2 102 (A 9) = 0 → aI Sr2 42 (A 42) = uq (aI Sr1 42 (A 42)) T 9 → Qs Sr2 A l → OB Sr2 Sr3 A (T + 1) op 3 (nI T) (nI (bl B q)) r → Nx A P Sr3) →
      (∀ e Sr2, (nam B (aI S 23 (A 23)) nd inm (bl B p) = .error e ∨ ∃ l q, nam B (aI S 23 (A 23)) nd inm (bl B p) = .ok (l, q) ∧ blk B op q = .error e) → RFM Sr Sr2 A e → P 0 Sr2) → P 1 Sr := by
    intro Sr R P T wr sy g ow bh par ks lv pe lst mx hP y1 y0
    obtain ⟨e1, e2, e3, e4, e5, e6, e7⟩ := mx.pre (by omega)
    have rt := mx.1
    have nu := mx.2.1
    have nm := mx.2.2.2.2.2.2.2.2.1
    refine it_item rt nu.2.1 c3 (by rw [hb]; decide) (by rw [hb]; decide) (by rw [hb]; decide) (by rw [hb]; decide) hP (fun Q2 hQ2 => ?_)
    refine r_ri rt.pos fI_at hlt (by rw [hb]; decide) (by rw [hb]; decide) (by rw [hb]; decide) (by simp only [fI_s, fI_sn, fL_s, fL_sn, aI_w, aI_wn, aL_w, aL_wn, fI_sL, fI_wI, fI_wL, fL_sI, fL_wI, fL_wL, aI_sI, aI_sL, aI_wL, aL_sI, aL_sL, aL_wI, fR_sI, fR_sL, fR_wI, fR_wL, aN_sI, aN_sL, aN_wI, aN_wL, ne_eq, Nat.reduceEqDiff, not_false_eq_true]; exact e1) (by omega) (by simp only [fI_s, fI_sn, fL_s, fL_sn, aI_w, aI_wn, aL_w, aL_wn, fI_sL, fI_wI, fI_wL, fL_sI, fL_wI, fL_wL, aI_sI, aI_sL, aI_wL, aL_sI, aL_sL, aL_wI, fR_sI, fR_sL, fR_wI, fR_wL, aN_sI, aN_sL, aN_wI, aN_wL, ne_eq, Nat.reduceEqDiff, not_false_eq_true]; exact e3) c5 e4 e5 e6 e7 (fun Sr1 ia => ?_)
    rw [hb]
    have km : KM Sr Sr1 := Keep.tr (KR.m KR.pos) ia.km
    have f := fun j (hj : jI2 j = false) (hj2 : j ≠ 101) => ((ia.1.2.1 j hj).1.trans (fI_sn Sr 101 (A 9) (nI (bl B p)) j hj2))
    have a55 : aI Sr1 55 = aI Sr 55 := (ia.1.2.2 55 rfl).1
    have a56 : aI Sr1 56 = aI Sr 56 := (ia.1.2.2 56 rfl).1
    refine chn_61 ?_
    refine r_named (c := aI S 23 (A 23)) (nd := nd) (inm := inm) (rt.km km) (by rw [f 102 rfl (by decide)]; exact nu.1) ia.2.1 hlt (by omega) (by rw [ia.2.2.2.2.1, uq_at]) (by rw [f 126 rfl (by decide)]; exact nu.2.2.2.2.2.2.2.2.2.1) (by rw [f 125 rfl (by decide)]; exact nu.2.2.2.2.2.2.2.2.1) d2 (fun k hk => by rw [a55, a56]; exact (nm.1.1 k hk).1) (fun l q Sr2 z1 z2 z3 z4 z5 z6 z7 z8 => ?_) (fun e Sr2 z1 z2 z3 => ?_)
    · have hqn : q ≤ n := by
        unfold nam at z1
        split at z1
        · cases z1
        split at z1
        · cases z1
        split at z1
        · rename_i hl
          exact (nms_ok hB _ _ _ _ _ hl (fun w m => by cases m) z1).2.1
        · cases z1
      have km2 : KM Sr Sr2 := Keep.tr km z2.m
      refine r_openBlock (T := T + 1) (op := op) (rt.km km2) z4 z3 hqn (by rw [(z2.2.1 113 rfl).1]; exact ia.2.2.1) (by omega) (by rw [(z2.2.1 134 rfl).1, f 134 rfl (by decide)]; exact e3) c5 (fun r Sr3 w1 ob => hQ2 Sr3 (y1 l q r Sr1 Sr2 Sr3 z1 w1 ia z2 z5 z6 z4 z7 z8 ob)) (fun e Sr3 w1 w2 w3 => hQ2 Sr3 ⟨fun z => absurd z (by rw [w3.2.1]; exact w2.ne), fun _ => y0 e Sr3 (Or.inr ⟨l, q, z1, w1⟩) (RFM.of km2 w3.m)⟩)
    · exact hQ2 Sr2 ⟨fun z => absurd z (by rw [z3.2.1]; exact z2.ne), fun _ => y0 e Sr2 (Or.inl z1) (RFM.of km z3)⟩
  have bad : ∀ e S13, nam B (aI S 23 (A 23)) nd inm (bl B p) = .error e → KCr S S13 → fI S13 0 (A 0) = nI e.1 → fI S13 1 (A 0) = nI e.2 → G 0 S13 := by
    intro e S13 z1 z2 z3 z4
    refine h0 S13 ⟨e, nam_kd z1, z2, z3, z4, ?_⟩
    intro Sr mm R P hP hg
    obtain ⟨T, wr, sy, g, ow, bh, par, ks, lv, pe, lst, mx⟩ := mm.mx
    refine turn Sr R P T wr sy g ow bh par ks lv pe lst mx hP (fun l q r Sr1 Sr2 Sr3 y1 => by rw [z1] at y1; cases y1) (fun e2 Sr2 y1 y2 => ?_)
    rcases y1 with y1 | ⟨l, q, y1, y3⟩
    · rw [z1] at y1
      injection y1 with y1
      subst y1
      exact hg Sr2 y2
    · rw [z1] at y1; cases y1
  unfold wp_X7_naming
  rw [o7]
  cases inm with
  | true =>
    rw [if_neg (by decide)]
    exact s_refuse o1 o2 (fun S1 cf => bad (1, bl B p) S1 rfl (Keep.tr o10 cf.1.cr) cf.2.1 cf.2.2)
  | false =>
    have hpq : pq = 0 := d6 rfl
    rw [if_pos (by decide)]
    refine ⟨_, o1.1.f58, ?_⟩
    rw [o6]
    by_cases c20 : nd < 20
    · rw [if_pos (ltc_yes 20 (by rfl) c20 (by omega)), o2, nI_1]
      rintro _ rfl _ rfl
      have hnam : nam B (aI S 23 (A 23)) nd false (bl B p) = if isLet (B (bl B (bl B p + 1))) = true then nms B (aI S 23 (A 23)) nd 6 [] (bl B (bl B p + 1)) else .error (1, bl B (bl B p + 1)) := by unfold nam; rw [if_neg (by decide), if_neg (by omega)]
      have k3 : KQ S10 (sI (sI S10 60 (A 6) (nI (bl B p + 1))) 64 (A 6) 0) := (Keep.rf.sI rfl).sI rfl
      have h3 := o1.kq k3
      have hb1 := bl_ge (B := B) (p := bl B p + 1)
      have hb1n := bl_le hB (p := bl B p + 1) hlt
      refine s_findName (p := bl B p + 1) h3 (by simp only [fI_s, fI_sn, fL_s, fL_sn, aI_w, aI_wn, aL_w, aL_wn, fI_sL, fI_wI, fI_wL, fL_sI, fL_wI, fL_wL, aI_sI, aI_sL, aI_wL, aL_sI, aL_sL, aL_wI, fR_sI, fR_sL, fR_wI, fR_wL, aN_sI, aN_sL, aN_wI, aN_wL, ne_eq, Nat.reduceEqDiff, not_false_eq_true]) hlt (fun c S4 k4 f4 g4 n4 => ?_) (fun c S4 cf => ?_)
      · rw [if_neg (by decide)]
        have hl : isLet (B (bl B (bl B p + 1))) = true := by
          cases z : isLet (B (bl B (bl B p + 1)))
          · exact absurd (sc_stop z) c
          · rfl
        rw [if_pos hl] at hnam
        generalize hq0 : bl B (bl B p + 1) = q0 at *
        have hlq := isLet_lt hB hl
        have g3 := sc_le (f := isLet) hB (by decide) (Nat.le_of_lt hlq)
        have g5 := sc_go hl (by omega)
        have g6 := sc_ge (f := isLet) (B := B) (p := q0 + 1)
        have kq4 : KQ S10 S4 := k3.tr k4.q
        have h4 := o1.kq kq4
        have a23 : aI S4 23 = aI S 23 := by rw [(kq4.2.2 23 rfl).1, (ho.1.2.2 23 rfl).1]; rfl
        have p4 : fI S4 64 (A 6) = nI 0 := by rw [(k4.2.1 64 rfl).1]; simp only [fI_s, fI_sn, fL_s, fL_sn, aI_w, aI_wn, aL_w, aL_wn, fI_sL, fI_wI, fI_wL, fL_sI, fL_wI, fL_wL, aI_sI, aI_sL, aI_wL, aL_sI, aL_sL, aL_wI, fR_sI, fR_sL, fR_wI, fR_wL, aN_sI, aN_sL, aN_wI, aN_wL, ne_eq, Nat.reduceEqDiff, not_false_eq_true]; rfl
        rw [nms] at hnam
        have fnil : ∀ key, fnd (aI S4 26 (A 26)) key 0 0 = -1 := fun key => rfl
        refine s_newName (nd := nd) (pq := 0) (q := q0) h4 (by rw [(kq4.2.1 54 rfl).1]; exact o6) d2 p4 (by omega) n4 g4 (fun y1 y2 S5 cf => ?_) (fun y1 y2 S5 cf => ?_) (fun y1 _ y2 => ?_)
        · rw [if_pos rfl]
          have y3 : fnd (aI S 23 (A 23)) (hs B (q0, sc isLet B q0 - q0)) nd 0 ≠ -1 := by
            rcases y2 with y | y | y
            · exact absurd y y1
            · rw [a23] at y; exact y
            · exact absurd (fnil _) y
          rw [if_pos ⟨y1, Or.inl y3⟩] at hnam
          exact bad _ S5 hnam (Keep.tr o10 (Keep.tr kq4.cr cf.1.cr)) cf.2.1 cf.2.2
        · rw [if_pos rfl]
          have y3 : hs B (q0, sc isLet B q0 - q0) = -1 := by
            rcases y1 with y | y
            · exact y
            · exact absurd rfl y
          have y6 : 6 < sc isLet B q0 - q0 := by
            rcases Nat.lt_or_ge 6 (sc isLet B q0 - q0) with z | z
            · exact z
            · exfalso
              unfold hs at y3
              rw [if_pos z] at y3
              have hb9 := nh_bd (sc_let (B := B) (q := q0) rfl) z
              exact nI_ne_neg (Nat.lt_of_lt_of_le hb9 (by decide)) y3
          rw [if_neg (fun z => z.1 y3), if_pos (Or.inr y6)] at hnam
          exact bad _ S5 hnam (Keep.tr o10 (Keep.tr kq4.cr cf.1.cr)) cf.2.1 cf.2.2
        · rw [if_neg (by decide)]
          have y3 : fnd (aI S 23 (A 23)) (hs B (q0, sc isLet B q0 - q0)) nd 0 = -1 := by
            rw [a23] at y2
            by_cases z : fnd (aI S 23 (A 23)) (hs B (q0, sc isLet B q0 - q0)) nd 0 = -1
            · exact z
            · exact absurd (Or.inr (Or.inl z)) y2
          have y6 : ¬ 6 < sc isLet B q0 - q0 := fun z => y1 (by unfold hs; rw [if_neg (by omega)])
          rw [if_neg (fun z => by rcases z.2 with w | ⟨w, m, _⟩; exact w y3; cases m), if_neg (fun z => by rcases z with z | z; exact absurd z (by decide); exact y6 z)] at hnam
          rintro _ rfl
          rw [n4]
          have hw0 : Wn B n (q0, sc isLet B q0 - q0) := ⟨by show 1 ≤ sc isLet B q0 - q0; omega, by show sc isLet B q0 - q0 ≤ 6; omega, by show q0 + (sc isLet B q0 - q0) ≤ n; omega, sc_let rfl⟩
          have hnam2 : nam B (aI S 23 (A 23)) nd false (bl B p) = if isLet (B (bl B (sc isLet B q0))) = true then nms B (aI S4 23 (A 23)) nd 5 [(q0, sc isLet B q0 - q0)] (bl B (sc isLet B q0)) else .ok ([(q0, sc isLet B q0 - q0)], bl B (sc isLet B q0)) := by rw [a23]; exact hnam
          refine s_params (nd := nd) h4 f4 g3 (by rw [(kq4.2.1 54 rfl).1]; exact o6) d2 ⟨p4, fun j w hj => by cases hj⟩ hw0 (fun l q S9 z1 k9 f9 pm => ?_) (fun e S9 z1 cf => ?_)
          · rw [if_neg (by decide)]
            have z2 := hnam2.trans z1
            have kq9 : KQ S10 S9 := kq4.tr k9
            have h9 := o1.kq kq9
            have hok := nms_ok (c := aI S 23 (A 23)) (nd := nd) hB 6 [] q0 _ _ hl (fun w m => by cases m) (by
              have := z2
              unfold nam at this
              rw [if_neg (by decide), if_neg (by omega), hq0, if_pos hl] at this
              exact this)
            have hlen4 : l.length ≤ 4 := by have := hok.2.2.2.2.1; rw [List.length_cons] at this; omega
            have hqp : bl B p < q := by have := hok.1; omega
            rintro _ rfl
            have k11 : KCr S (sI S9 62 (A 6) 1) := Keep.tr o10 (Keep.tr kq9.cr (Keep.rf.sI rfl))
            refine s_block (op := op) (h9.cr (Keep.rf.sI rfl)) (by simp only [fI_s, fI_sn, fL_s, fL_sn, aI_w, aI_wn, aL_w, aL_wn, fI_sL, fI_wI, fI_wL, fL_sI, fL_wI, fL_wL, aI_sI, aI_sL, aI_wL, aL_sI, aL_sL, aL_wI, fR_sI, fR_sL, fR_wI, fR_wL, aN_sI, aN_sL, aN_wI, aN_wL, ne_eq, Nat.reduceEqDiff, not_false_eq_true]; exact f9) hok.2.1 (by simp only [fI_s, fI_sn, fL_s, fL_sn, aI_w, aI_wn, aL_w, aL_wn, fI_sL, fI_wI, fI_wL, fL_sI, fL_wI, fL_wL, aI_sI, aI_sL, aI_wL, aL_sI, aL_sL, aL_wI, fR_sI, fR_sL, fR_wI, fR_wL, aN_sI, aN_sL, aN_wI, aN_wL, ne_eq, Nat.reduceEqDiff, not_false_eq_true]; rw [(kq9.2.1 61 rfl).1]; exact o3) c5 (fun r S12 e3 k12 f12 g12 => ?_) (fun e S12 e3 cf => ?_)
            · have hr := blk_ok hB e3
              have kc12 : KCr S S12 := Keep.tr k11 (k12.mono (fun j => by unfold jCr jBk; simp only [decide_eq_false_iff_not]; omega) (fun _ _ => rfl))
              have aI12 : aI S12 = aI S9 := by funext x; exact (k12.2.2 x rfl).1
              have aL12 : aL S12 = aL S9 := by funext x; exact (k12.2.2 x rfl).2
              have h12 := c1.cr kc12
              have f12' : ∀ j, jBk j = false → j ≠ 62 → fI S12 j = fI S9 j := fun j j1 j2 => by rw [(k12.2.1 j j1).1, fI_sn _ _ _ _ _ j2]
              have ci12 : CIv S12 A B n r (op + 1) (N + 1) pc nd l.length true := ⟨h12, f12, hr.2.1, g12, by omega, by rw [f12' 45 rfl (by decide), (kq9.2.1 45 rfl).1]; exact o4, by omega, by rw [f12' 53 rfl (by decide), (kq9.2.1 53 rfl).1]; exact o5, by omega, by rw [f12' 54 rfl (by decide), (kq9.2.1 54 rfl).1]; exact o6, d2, by rw [(k12.2.1 62 rfl).1, fI_s]; rfl, by rw [f12' 64 rfl (by decide)]; exact pm.1, hlen4, fun z => by cases z⟩
              have aK : ∀ x, x ≠ 26 → aI S12 x = aI S10 x := fun x hx => by rw [aI12]; exact (kq9.2.2 x (by unfold rQ; rw [decide_eq_false_iff_not]; exact hx)).1
              have cd12 : CD S S12 A N (bl B p) pc 0 0 0 := ho.cd (fun x hx => aK x (by omega)) (by rw [aK 18 (by decide)]; exact (uq_self (by rw [ho.2.2.2.2.1, uq_at])).symm) (by rw [aK 19 (by decide)]; exact (uq_self (by rw [ho.2.2.2.2.2.1, uq_at])).symm) (by rw [aL12, (kq9.2.2 20 rfl).2]; exact (uq_self (by rw [ho.2.2.2.2.2.2.1, uq_at])).symm) (fun k _ => by rw [aK 22 (by decide)])
              have sop : Sim A B n S p op N pc nd pq false stk S12 r (op + 1) (N + 1) pc nd l.length true ((3, N + 1, 0, (q0, sc isLet B q0 - q0)) :: stk) := by
                intro Sr mm R P hP hg
                obtain ⟨T, wr, sy, g, ow, bh, par, ks, lv, pe, lst, mx⟩ := mm.mx
                refine turn Sr R P T wr sy g ow bh par ks lv pe lst mx hP (fun l2 q2 r2 Sr1 Sr2 Sr3 y1 y2 ia kn v126 v129 v102 v42 qs ob => ?_) (fun e Sr2 y1 => ?_)
                · rw [z2] at y1
                  injection y1 with y1; injection y1 with w1 w2
                  subst w1 w2
                  rw [e3] at y2
                  injection y2 with y2
                  subst y2
                  obtain ⟨e1, e2, e3', e4, e5, e6, e7⟩ := mx.pre (by omega)
                  have rt := mx.1
                  have nu := mx.2.1
                  have nm := mx.2.2.2.2.2.2.2.2.1
                  have hr3 : HR Sr1 (wI Sr1 42 (A 42) T 9) A T 9 0 0 (bl B p + 1) := ⟨Keep.rf.wI rfl, by rw [fI_wI]; exact ia.2.1, by rw [aI_w], by rw [aI_wn _ _ _ _ _ _ (by decide)]; exact (uq_self (by rw [ia.2.2.2.2.2.1, uq_at])).symm, by rw [aI_wn _ _ _ _ _ _ (by decide)]; exact (uq_self (by rw [ia.2.2.2.2.2.2.1, uq_at])).symm⟩
                  have rl0 : RLn Sr (wI Sr1 42 (A 42) T 9) A T wr sy (ow (hdx stk)) lst 9 (nI (bl B p)) 0 0 0 0 := (ia.rl (wr := wr) (sy := sy)).hr hr3
                  have km : KM Sr Sr3 := Keep.tr (Keep.tr (Keep.tr (KR.m KR.pos) ia.km) kn.m) ob.km
                  obtain ⟨kob, b1, b2, b3, b4, b5, b6, b7, b8, b9, b10, b11, b12, b13, b14, b15⟩ := ob
                  have f : ∀ j, jB j = false → jNm j = false → jI2 j = false → j ≠ 101 → fI Sr3 j = fI Sr j := fun j j1 j2 j3 j4 => by rw [(kob.2.1 j j1).1, (kn.2.1 j j2).1, (ia.1.2.1 j j3).1, fI_sn _ _ _ _ _ j4]
                  have fa : ∀ x, rB x = false → rNm x = false → rIH x = false → aI Sr3 x = aI Sr x := fun x x1 x2 x3 => by rw [(kob.2.2 x x1).1, (kn.2.2 x x2).1, (ia.1.2.2 x x3).1]; rfl
                  have a2 : ∀ x, rNm x = false → aI Sr2 x = aI (wI Sr1 42 (A 42) T 9) x := fun x x1 => by rw [(kn.2.2 x x1).1, aI_wn _ _ _ _ _ _ (by intro z; subst z; cases x1)]
                  have a42 : aI Sr2 42 (A 42) = aI (wI Sr1 42 (A 42) T 9) 42 (A 42) := by rw [v42, aI_w]
                  have z102 : fI Sr3 102 (A 9) = 0 := by rw [(kob.2.1 102 rfl).1]; exact v102
                  have o61 : ∀ x, rNm x = false → rIH x = false → aI Sr2 x = aI Sr x := fun x x2 x3 => by rw [(kn.2.2 x x2).1, (ia.1.2.2 x x3).1]; rfl
                  refine ⟨fun _ => hg Sr3 km ?_, fun z => absurd z102 z⟩
                  refine mx.opn (s := 9) (s1 := 3) (hinm := fun z => by cases z) (hsame := fun _ z => by cases z) (h9i := fun _ => rfl) (w0 := (q0, sc isLet B q0 - q0)) (Sr1 := wI Sr1 42 (A 42) T 9) (Sr2 := Sr3) hr.2.2 o9 (rt.km km) ⟨z102, b1, b2, by have := nu.2.2.2.1; omega, by rw [f 117 rfl rfl rfl (by decide)]; exact nu.2.2.2.2.1, by rw [f 120 rfl rfl rfl (by decide)]; exact nu.2.2.2.2.2.1, nu.2.2.2.2.2.2.1, b3, by rw [f 125 rfl rfl rfl (by decide)]; exact nu.2.2.2.2.2.2.2.2.1, by rw [(kob.2.1 126 rfl).1, v126]; rfl, fun _ => by rw [(kob.2.1 129 rfl).1, v129]; rfl⟩ cd12 rl0 ⟨fun x i hi w1 w2 w3 w4 w5 => ?_, fun i hi => by rw [b10, uq_ne (by omega), (kn.2.2 48 rfl).2]; rfl, fun x i hi w1 w2 => by rw [(kob.2.2 x (by unfold rB; rw [decide_eq_false_iff_not]; omega)).1, a2 x (by unfold rNm; rw [decide_eq_false_iff_not]; omega)], fun x i hi w1 w2 => by rw [(kob.2.2 x (by unfold rB; rw [decide_eq_false_iff_not]; omega)).1, a2 x (by unfold rNm; rw [decide_eq_false_iff_not]; omega)]⟩ (fun i x y => by rw [b8, uq_ne x, a2 46 rfl]) (by rw [b8, uq_at]) (fun i x => by rw [b9, uq_ne x, a2 47 rfl]) (fun x x1 x2 => fa x (by unfold rB; rw [decide_eq_false_iff_not]; omega) (by unfold rNm; rw [decide_eq_false_iff_not]; omega) (by unfold rIH; rw [decide_eq_false_iff_not]; omega)) (by rw [b12, o61 61 rfl rfl]; rfl) (by rw [b13, o61 62 rfl rfl]) (by rw [b14, o61 63 rfl rfl]) (by rw [b15, (kn.2.2 64 rfl).1, ia.2.2.2.2.2.2.2.2.2.2]; rfl) ⟨fun k hk => ?_, fun _ k hk => ?_⟩ (fun z => by cases z) hst (Or.inr ⟨rfl, rfl, ?_, ?_, hw0⟩) ⟨bl B p, by omega, by rw [cd12.1, uq_at], by rw [b4, uq_ne (by omega), a42, rl0.1, uq_at]; rfl, Or.inr ⟨hlt, by rw [b5, uq_ne (by omega), a2 43 rfl, rl0.2.1, uq_at], Or.inr (Or.inr (Or.inr (Or.inr (Or.inr (Or.inl ⟨rfl, rfl, hb, fun z => absurd rfl z⟩)))))⟩⟩
                  · have hx : x = 42 ∨ x = 43 ∨ x = 44 ∨ x = 45 ∨ x = 49 := by omega
                    rcases hx with rfl | rfl | rfl | rfl | rfl
                    · rw [b4, uq_ne (by omega), a42]
                    · rw [b5, uq_ne (by omega), a2 43 rfl]
                    · rw [b6, uq_ne (by omega), a2 44 rfl]
                    · rw [b7, uq_ne (by omega), a2 45 rfl]
                    · rw [b11, uq_ne (by omega), a2 49 rfl]
                  · obtain ⟨n1, x, m, n2⟩ := nm.1.1 k hk
                    rw [fa 55 rfl rfl rfl, fa 56 rfl rfl rfl, fa 57 rfl rfl rfl, fa 58 rfl rfl rfl, aK 23 (by decide), aK 24 (by decide), aK 25 (by decide), (ho.1.2.2 23 rfl).1, (ho.1.2.2 24 rfl).1, (ho.1.2.2 25 rfl).1]
                    exact ⟨n1, x, m, n2⟩
                  · have hk2 : l[k]? = some l[k] := List.getElem?_eq_getElem hk
                    have hq2 := qs (k + 1) l[k] hk2
                    refine ⟨l[k], hok.2.2.1 _ (List.mem_cons_of_mem _ (List.getElem_mem hk)), ?_, ?_, ?_⟩
                    · show aI Sr3 59 (A 59) (k + 1) = _
                      rw [(kob.2.2 59 rfl).1]; exact hq2.1
                    · show aI Sr3 60 (A 60) (k + 1) = _
                      rw [(kob.2.2 60 rfl).1]; exact hq2.2
                    · rw [aI12]; exact pm.2 k l[k] hk2
                  · rw [(kob.2.2 59 rfl).1]; exact (qs 0 _ rfl).1
                  · rw [(kob.2.2 60 rfl).1]; exact (qs 0 _ rfl).2
                · rcases y1 with y1 | ⟨l2, q2, y1, y3⟩
                  · rw [z2] at y1; cases y1
                  · rw [z2] at y1
                    injection y1 with y1; injection y1 with w1 w2
                    subst w1 w2
                    rw [e3] at y3; cases y3
              refine ih S12 r (op + 1) (N + 1) pc nd l.length true ((3, N + 1, 0, (q0, sc isLet B q0 - q0)) :: stk) _ hd ci12 (fun z => by cases z) (fun S0 p0 N0 pc0 nd0 c0 hp0 hN0 hgr0 hnd0 k0 nb sm => ?_) (fun S5 bad5 => ?_)
              · rw [if_neg (by decide)]
                have c0' := c0
                have ndE := hnd0 rfl
                subst ndE
                obtain ⟨x1, x2, x3, x4, x5, x6, x7, x8, x9, y1', y2', y3', y4', y5', y6'⟩ := c0
                have hb0 := bl_ge (B := B) (p := p0)
                have chain := Sim.tr sop sm
                have kc0 : KCr S S0 := Keep.tr kc12 k0
                refine s_must x1.pos fI_pos (bl_le hB x3) (fun e => ?_) (fun e S5 c5' => ?_)
                · rw [if_neg (by decide), sI_sI]
                  have hlt0 := hB.lt e (by decide)
                  have eo : fI (sI S0 60 (A 6) (nI (bl B p0 + 1))) 61 (A 6) - 1 = nI op := by rw [fI_sn _ _ _ _ _ (by decide), x4]; exact nI_pred op
                  rw [eo]
                  rintro _ rfl
                  rw [if_neg (by decide)]
                  rintro _ rfl
                  refine ⟨_, x1.1.f58, ?_⟩
                  rw [show fI (sI (sI (sI S0 60 (A 6) (nI (bl B p0 + 1))) 61 (A 6) (nI op)) 62 (A 6) 0) 64 (A 6) = nI l.length by simp only [fI_s, fI_sn, fL_s, fL_sn, aI_w, aI_wn, aL_w, aL_wn, fI_sL, fI_wI, fI_wL, fL_sI, fL_wI, fL_wL, aI_sI, aI_sL, aI_wL, aL_sI, aL_sL, aL_wI, fR_sI, fR_sL, fR_wI, fR_wL, aN_sI, aN_sL, aN_wI, aN_wL, ne_eq, Nat.reduceEqDiff, not_false_eq_true]; exact y4']
                  refine s_addName (nd := nd0) x1.1 (by simp only [fI_s, fI_sn, fL_s, fL_sn, aI_w, aI_wn, aL_w, aL_wn, fI_sL, fI_wI, fI_wL, fL_sI, fL_wI, fL_wL, aI_sI, aI_sL, aI_wL, aL_sI, aL_sL, aL_wI, fR_sI, fR_sL, fR_wI, fR_wL, aN_sI, aN_sL, aN_wI, aN_wL, ne_eq, Nat.reduceEqDiff, not_false_eq_true]; exact y1') c20 (fun S16 an => ?_)
                  rintro _ rfl
                  have ka := an.1
                  have kc16 : KCr S0 S16 := Keep.tr (((Keep.rf.sI rfl).sI rfl).sI rfl) (ka.mono (fun j => by unfold jCr jAn; simp only [decide_eq_false_iff_not]; omega) (fun r => by unfold rCr rAn; simp only [decide_eq_false_iff_not]; omega))
                  have f16 : ∀ j, jAn j = false → j ≠ 60 → j ≠ 61 → j ≠ 62 → fI S16 j = fI S0 j := fun j j1 j2 j3 j4 => by rw [(ka.2.1 j j1).1, fI_sn _ _ _ _ _ j4, fI_sn _ _ _ _ _ j3, fI_sn _ _ _ _ _ j2]
                  refine h1 _ ⟨bl B p0 + 1, N0, pc0, nd0 + 1, by omega, by omega, by omega, fun z => (by cases z), ⟨(x1.cr kc16).cr (Keep.rf.sI rfl), by rw [fI_sn _ _ _ _ _ (by decide), (ka.2.1 60 rfl).1]; simp only [fI_s, fI_sn, fL_s, fL_sn, aI_w, aI_wn, aL_w, aL_wn, fI_sL, fI_wI, fI_wL, fL_sI, fL_wI, fL_wL, aI_sI, aI_sL, aI_wL, aL_sI, aL_sL, aL_wI, fR_sI, fR_sL, fR_wI, fR_wL, aN_sI, aN_sL, aN_wI, aN_wL, ne_eq, Nat.reduceEqDiff, not_false_eq_true], hlt0, by rw [fI_sn _ _ _ _ _ (by decide), (ka.2.1 61 rfl).1]; simp only [fI_s, fI_sn, fL_s, fL_sn, aI_w, aI_wn, aL_w, aL_wn, fI_sL, fI_wI, fI_wL, fL_sI, fL_wI, fL_wL, aI_sI, aI_sL, aI_wL, aL_sI, aL_sL, aL_wI, fR_sI, fR_sL, fR_wI, fR_wL, aN_sI, aN_sL, aN_wI, aN_wL, ne_eq, Nat.reduceEqDiff, not_false_eq_true], c5, by rw [fI_sn _ _ _ _ _ (by decide), f16 45 rfl (by decide) (by decide) (by decide)]; exact x6, by omega, by rw [fI_sn _ _ _ _ _ (by decide), f16 53 rfl (by decide) (by decide) (by decide)]; exact x8, by omega, by rw [fI_sn _ _ _ _ _ (by decide)]; exact an.2.1, by omega, by rw [fI_sn _ _ _ _ _ (by decide), (ka.2.1 62 rfl).1, fI_s]; rfl, by rw [fI_s, hpq]; rfl, d5, d6⟩, Keep.tr kc0 (Keep.tr kc16 (Keep.rf.sI rfl)), ?_⟩
                  refine Sim.tr chain ?_
                  rw [hpq]
                  exact (k_nend (S16 := sI S16 64 (A 6) 0) c0' c20 hlen4 nb e (fun x z1 => by rw [aI_sI, (ka.2.2 x (by unfold rAn; rw [decide_eq_false_iff_not]; omega)).1]; rfl) (by rw [aL_sI, (ka.2.2 20 rfl).2]; rfl) (by rw [aI_sI]; exact an.2.2.1) (by rw [aI_sI]; exact an.2.2.2.1) (by rw [aI_sI]; exact an.2.2.2.2))
                · rw [if_pos rfl, if_pos rfl]
                  refine h0 S5 ⟨(1, bl B p0), kdm (by decide) (by decide), Keep.tr kc0 (KL.cr (Keep.tr KL.pos c5'.1)), c5'.2.1, c5'.2.2, Sim.f chain ?_⟩
                  cases hs : stk with
                  | nil =>
                    intro Sr mm R P hP hg
                    obtain ⟨T, wr, sy, g, ow, bh, par, ks, lv, pe, lst, mx⟩ := mm.mx
                    exact absurd mx.2.2.2.2.2.2.2.2.2.1.1 (show ¬ (3 : Nat) = 0 by decide)
                  | cons f1 r1 => exact simF_no c0' rfl nb (fun z => by omega) (fun _ => e)
              · rw [if_pos rfl, if_pos rfl]
                obtain ⟨e, w0, w1, w2, w3, w4⟩ := bad5
                exact h0 S5 ⟨e, w0, Keep.tr kc12 w1, w2, w3, Sim.f sop w4⟩
            · rw [if_pos rfl]
              refine h0 S12 ⟨e, blk_kd e3, Keep.tr k11 cf.1.cr, cf.2.1, cf.2.2, ?_⟩
              intro Sr mm R P hP hg
              obtain ⟨T, wr, sy, g, ow, bh, par, ks, lv, pe, lst, mx⟩ := mm.mx
              refine turn Sr R P T wr sy g ow bh par ks lv pe lst mx hP (fun l2 q2 r2 Sr1 Sr2 Sr3 y1 y2 => ?_) (fun e2 Sr2 y1 y2 => ?_)
              · rw [z2] at y1
                injection y1 with y1; injection y1 with w1 w2
                subst w1 w2
                rw [e3] at y2; cases y2
              · rcases y1 with y1 | ⟨l2, q2, y1, y3⟩
                · rw [z2] at y1; cases y1
                · rw [z2] at y1
                  injection y1 with y1; injection y1 with w1 w2
                  subst w1 w2
                  rw [e3] at y3
                  injection y3 with y3
                  subst y3
                  exact hg Sr2 y2
          · rw [if_pos rfl]
            exact bad e S9 (hnam2.trans z1) (Keep.tr o10 (Keep.tr kq4.cr cf.1.cr)) cf.2.1 cf.2.2
      · rw [if_pos rfl]
        have hl : isLet (B (bl B (bl B p + 1))) = false := by
          cases z : isLet (B (bl B (bl B p + 1)))
          · rfl
          · exfalso
            have := isLet_lt hB z
            have := sc_go z (by omega)
            have := sc_ge (f := isLet) (B := B) (p := bl B (bl B p + 1) + 1)
            omega
        rw [if_neg (by rw [hl]; decide)] at hnam
        exact bad _ S4 hnam (Keep.tr o10 (Keep.tr k3.cr cf.1.cr)) cf.2.1 cf.2.2
    · rw [if_neg (ltc_no 20 (by rfl) (by omega) (by omega))]
      refine ⟨_, o1.1.f59, ?_⟩
      rw [o2]
      exact s_tell (bad (5, bl B p) _ (by unfold nam; rw [if_neg (by decide), if_pos (by omega)]) (Keep.tr o10 ((Keep.rf.sI rfl).sI rfl)) (CF_tell (k := 5)).2.1 (CF_tell (k := 5)).2.2)
end
