/-! Items without a block: both. -/
section
variable {S S10 S13 : PS} {A : Nat → Nat} {B : Nat → Int32} {n p op N pc nd pq : Nat} {inm : Bool} {stk : List (Nat × Nat × Nat × Nat × Nat)} {G : Int32 → PS → Prop}
/-- the class has read an item, and the reference can -/
def IOk (A : Nat → Nat) (B : Nat → Int32) (n : Nat) (S : PS) (p op N pc nd pq : Nat) (inm : Bool) (stk : List (Nat × Nat × Nat × Nat × Nat)) (S13 : PS) : Prop := ∃ p1 N1 pc1 nd1, p < p1 ∧ N < N1 ∧ N1 + p ≤ N + p1 ∧ (inm = true → nd1 = nd) ∧ CIv S13 A B n p1 op N1 pc1 nd1 pq inm ∧ KCr S S13 ∧ Sim A B n S p op N pc nd pq inm stk (wI S13 17 (A 17) N (nI N1)) p1 op N1 pc1 nd1 pq inm stk
def IBad (A : Nat → Nat) (B : Nat → Int32) (n : Nat) (S : PS) (p op N pc nd pq : Nat) (inm : Bool) (stk : List (Nat × Nat × Nat × Nat × Nat)) (S13 : PS) : Prop := ∃ e, Kd e ∧ KCr S S13 ∧ fI S13 0 (A 0) = nI e.1 ∧ fI S13 1 (A 0) = nI e.2 ∧ SimF A B n S p op N pc nd pq inm stk e
theorem CO.cd {pl : Nat} {v a b : Int32} {t : Int64} (h : CO (sI S 60 (A 6) v) S10 A N pl pc) (k : ∀ r, r = 16 ∨ r = 17 ∨ r = 21 ∨ r = 23 ∨ r = 24 ∨ r = 25 → aI S13 r = aI S10 r) (h18 : aI S13 18 (A 18) = uq (aI S10 18 (A 18)) N a) (h19 : aI S13 19 (A 19) = uq (aI S10 19 (A 19)) N b) (h20 : aL S13 20 (A 20) = uq (aL S10 20 (A 20)) N t) (h22 : ∀ k, k < pc → aI S13 22 (A 22) k = aI S10 22 (A 22) k) : CD S S13 A N pl pc a b t := by
  obtain ⟨k0, a1, a2, a3, a4, a5, a6, a7⟩ := h
  refine ⟨by rw [k 16 (by omega), a2]; rfl, by rw [k 17 (by omega), a3]; rfl, by rw [h18, a4, uq_uq]; rfl, by rw [h19, a5, uq_uq]; rfl, by rw [h20, a6, uq_uq]; rfl, by rw [k 21 (by omega), a7]; rfl, fun j hj => by rw [h22 j hj, (k0.2.2 22 rfl).1]; rfl, by rw [k 23 (by omega), (k0.2.2 23 rfl).1]; rfl, by rw [k 24 (by omega), (k0.2.2 24 rfl).1]; rfl, by rw [k 25 (by omega), (k0.2.2 25 rfl).1]; rfl⟩
theorem CD.end_ {pl : Nat} {a b : Int32} {t : Int64} (h : CD S S13 A N pl pc a b t) : CD S (wI S13 17 (A 17) N (nI (N + 1))) A N pl pc a b t := by
  obtain ⟨h16, h17, h18, h19, h20, h21, h22, h23, h24, h25⟩ := h
  refine ⟨?_, ?_, ?_, ?_, ?_, ?_, ?_, ?_, ?_, ?_⟩
  all_goals simp only [fI_s, fI_sn, fL_s, fL_sn, aI_w, aI_wn, aL_w, aL_wn, fI_sL, fI_wI, fI_wL, fL_sI, fL_wI, fL_wL, aI_sI, aI_sL, aI_wL, aL_sI, aL_sL, aL_wI, fR_sI, fR_sL, fR_wI, fR_wL, aN_sI, aN_sL, aN_wI, aN_wL, ne_eq, Nat.reduceEqDiff, not_false_eq_true]
  all_goals first
    | assumption
    | (rw [h17, uq_uq])
/-- the class behind the beginning of an item -/
theorem CIv.o (h : CIv S A B n p op N pc nd pq inm) (hlt : bl B p < n) (ho : CO (sI S 60 (A 6) (nI (bl B p))) S10 A N (bl B p) pc) : CT S10 A B n ∧ fI S10 60 (A 6) = nI (bl B p) ∧ fI S10 61 (A 6) = nI op ∧ fI S10 45 (A 5) = nI (N + 1) ∧ fI S10 53 (A 5) = nI pc ∧ fI S10 54 (A 5) = nI nd ∧ fI S10 62 (A 6) = mI inm ∧ fI S10 64 (A 6) = nI pq ∧ N < 1508 ∧ KCr S S10 := by
  obtain ⟨c1, c2, c3, c4, c5, c6, c7, c8, c9, d1, d2, d3, d4, d5, d6⟩ := h
  have k := ho.1
  have hb := bl_ge (B := B) (p := p)
  have hn := c1.2.2.1.1
  have kk : KCr S S10 := Keep.tr (KL.cr KL.pos) ho.cr
  refine ⟨c1.cr kk, ?_, ?_, ho.2.1, ?_, ?_, ?_, ?_, ?_, kk⟩
  · rw [(k.2.1 60 rfl).1, fI_s]
  · rw [(k.2.1 61 rfl).1, fI_sn _ _ _ _ _ (by decide)]; exact c4
  · rw [(k.2.1 53 rfl).1, fI_sn _ _ _ _ _ (by decide)]; exact c8
  · rw [(k.2.1 54 rfl).1, fI_sn _ _ _ _ _ (by decide)]; exact d1
  · rw [(k.2.1 62 rfl).1, fI_sn _ _ _ _ _ (by decide)]; exact d3
  · rw [(k.2.1 64 rfl).1, fI_sn _ _ _ _ _ (by decide)]; exact d4
  · have hl : N ≤ p + op := c7
    have hp2 : p < 1500 := by omega
    omega
/-- the numbers of the reference behind a turn -/
theorem Num.of {Sr Sr1 : PS} {T wr sy q op1 N1 T1 pc1 wr1 sy1 : Nat} (h : Num Sr A p op N T pc wr sy nd pq inm) (h1 : fI Sr1 102 (A 9) = 0) (h2 : fI Sr1 101 (A 9) = nI q) (h3 : fI Sr1 113 (A 9) = nI T1) (h4 : T1 ≤ 2 * N1 + 2) (h5 : fI Sr1 117 (A 9) = nI wr1) (h6 : fI Sr1 120 (A 9) = nI sy1) (h7 : wr1 + sy1 = pc1) (h8 : fI Sr1 134 (A 9) = nI (op1 + 1)) (h9 : fI Sr1 125 = fI Sr 125) (h10 : fI Sr1 126 = fI Sr 126) (h11 : fI Sr1 129 = fI Sr 129) : Num Sr1 A q op1 N1 T1 pc1 wr1 sy1 nd pq inm := by
  obtain ⟨_, _, _, _, _, _, _, _, x1, x2, x3⟩ := h
  exact ⟨h1, h2, h3, h4, h5, h6, h7, h8, by rw [h9]; exact x1, by rw [h10]; exact x2, by rw [h11]; exact x3⟩
theorem CIv.w {v : Int32} {N0 : Nat} (h : CIv S A B n p op N pc nd pq inm) : CIv (wI S 17 (A 17) N0 v) A B n p op N pc nd pq inm := ⟨h.1.cr (Keep.rf.wI rfl), h.2⟩
theorem k_line (ci : CIv S A B n p op N pc nd pq inm) (hb : B (bl B p) = 124) (ho : CO (sI S 60 (A 6) (nI (bl B p))) S10 A N (bl B p) pc)
    (h1 : ∀ S13, IOk A B n S p op N pc nd pq inm stk S13 → G 1 S13) : wp_X7_take (A 6) 124 S10 G := by
  have hB := ci.1.2.2.1
  have hlt := hB.lt hb (by decide)
  have hge := bl_ge (B := B) (p := p)
  obtain ⟨o1, o2, o3, o4, o5, o6, o7, o8, o9, o10⟩ := ci.o hlt ho
  obtain ⟨c1, c2, c3, c4, c5, c6, c7, c8, c9, d1, d2, d3, d4, d5, d6⟩ := ci
  refine s_take o1 o2 (by omega) (fun _ => ?_) (fun e => absurd hb e)
  have cd : CD S (sI S10 60 (A 6) (nI (bl B p + 1))) A N (bl B p) pc 0 0 0 := ho.cd (fun r _ => rfl) (uq_self (by rw [aI_sI, ho.2.2.2.2.1, uq_at])).symm (uq_self (by rw [aI_sI, ho.2.2.2.2.2.1, uq_at])).symm (uq_self (by rw [aL_sI, ho.2.2.2.2.2.2.1, uq_at])).symm (fun _ _ => rfl)
  refine h1 _ ⟨bl B p + 1, N + 1, pc, nd, by omega, by omega, by omega, fun _ => rfl, ⟨o1.pos, fI_pos, hlt, ?_, c5, ?_, by omega, ?_, by omega, ?_, d2, ?_, ?_, d5, d6⟩, Keep.tr o10 (KL.cr KL.pos), ?_⟩
  · simp only [fI_s, fI_sn, fL_s, fL_sn, aI_w, aI_wn, aL_w, aL_wn, fI_sL, fI_wI, fI_wL, fL_sI, fL_wI, fL_wL, aI_sI, aI_sL, aI_wL, aL_sI, aL_sL, aL_wI, fR_sI, fR_sL, fR_wI, fR_wL, aN_sI, aN_sL, aN_wI, aN_wL, ne_eq, Nat.reduceEqDiff, not_false_eq_true]; exact o3
  · simp only [fI_s, fI_sn, fL_s, fL_sn, aI_w, aI_wn, aL_w, aL_wn, fI_sL, fI_wI, fI_wL, fL_sI, fL_wI, fL_wL, aI_sI, aI_sL, aI_wL, aL_sI, aL_sL, aL_wI, fR_sI, fR_sL, fR_wI, fR_wL, aN_sI, aN_sL, aN_wI, aN_wL, ne_eq, Nat.reduceEqDiff, not_false_eq_true]; exact o4
  · simp only [fI_s, fI_sn, fL_s, fL_sn, aI_w, aI_wn, aL_w, aL_wn, fI_sL, fI_wI, fI_wL, fL_sI, fL_wI, fL_wL, aI_sI, aI_sL, aI_wL, aL_sI, aL_sL, aL_wI, fR_sI, fR_sL, fR_wI, fR_wL, aN_sI, aN_sL, aN_wI, aN_wL, ne_eq, Nat.reduceEqDiff, not_false_eq_true]; exact o5
  · simp only [fI_s, fI_sn, fL_s, fL_sn, aI_w, aI_wn, aL_w, aL_wn, fI_sL, fI_wI, fI_wL, fL_sI, fL_wI, fL_wL, aI_sI, aI_sL, aI_wL, aL_sI, aL_sL, aL_wI, fR_sI, fR_sL, fR_wI, fR_wL, aN_sI, aN_sL, aN_wI, aN_wL, ne_eq, Nat.reduceEqDiff, not_false_eq_true]; exact o6
  · simp only [fI_s, fI_sn, fL_s, fL_sn, aI_w, aI_wn, aL_w, aL_wn, fI_sL, fI_wI, fI_wL, fL_sI, fL_wI, fL_wL, aI_sI, aI_sL, aI_wL, aL_sI, aL_sL, aL_wI, fR_sI, fR_sL, fR_wI, fR_wL, aN_sI, aN_sL, aN_wI, aN_wL, ne_eq, Nat.reduceEqDiff, not_false_eq_true]; exact o7
  · simp only [fI_s, fI_sn, fL_s, fL_sn, aI_w, aI_wn, aL_w, aL_wn, fI_sL, fI_wI, fI_wL, fL_sI, fL_wI, fL_wL, aI_sI, aI_sL, aI_wL, aL_sI, aL_sL, aL_wI, fR_sI, fR_sL, fR_wI, fR_wL, aN_sI, aN_sL, aN_wI, aN_wL, ne_eq, Nat.reduceEqDiff, not_false_eq_true]; exact o8
  · intro Sr mm R P hP hg
    obtain ⟨T, wr, sy, g, ow, bh, par, ks, lv, pe, lst, mx⟩ := mm.mx
    obtain ⟨e1, e2, e3, e4, e5, e6, e7⟩ := mx.pre (by omega)
    have rt := mx.1
    have nu := mx.2.1
    refine it_item rt nu.2.1 c3 (by rw [hb]; decide) (by rw [hb]; decide) (by rw [hb]; decide) (by rw [hb]; decide) hP (fun Q2 hQ2 => ?_)
    refine r_ri rt.pos fI_at hlt (by rw [hb]; decide) (by rw [hb]; decide) (by rw [hb]; decide) (by simp only [fI_s, fI_sn, fL_s, fL_sn, aI_w, aI_wn, aL_w, aL_wn, fI_sL, fI_wI, fI_wL, fL_sI, fL_wI, fL_wL, aI_sI, aI_sL, aI_wL, aL_sI, aL_sL, aL_wI, fR_sI, fR_sL, fR_wI, fR_wL, aN_sI, aN_sL, aN_wI, aN_wL, ne_eq, Nat.reduceEqDiff, not_false_eq_true]; exact e1) (by omega) (by simp only [fI_s, fI_sn, fL_s, fL_sn, aI_w, aI_wn, aL_w, aL_wn, fI_sL, fI_wI, fI_wL, fL_sI, fL_wI, fL_wL, aI_sI, aI_sL, aI_wL, aL_sI, aL_sL, aL_wI, fR_sI, fR_sL, fR_wI, fR_wL, aN_sI, aN_sL, aN_wI, aN_wL, ne_eq, Nat.reduceEqDiff, not_false_eq_true]; exact e3) c5 e4 e5 e6 e7 (fun Sr1 ia => ?_)
    rw [hb]
    refine chn_line (hQ2 Sr1 ?_)
    have rl := ia.rl (wr := wr) (sy := sy)
    have k := ia.1
    have km : KM Sr Sr1 := Keep.tr (KR.m KR.pos) ia.km
    have f := fun j (hj : jI2 j = false) (hj2 : j ≠ 101) => ((k.2.1 j hj).1.trans (fI_sn Sr 101 (A 9) (nI (bl B p)) j hj2))
    have z102 : fI Sr1 102 (A 9) = 0 := by rw [f 102 rfl (by decide)]; exact nu.1
    refine ⟨fun _ => hg Sr1 km ?_, fun z => absurd z102 z⟩
    refine mx.leaf (s := 1) (hs := Or.inr (Or.inl rfl)) c5 o9 (rt.km km) (nu.of z102 ia.2.1 ia.2.2.1 (by have := nu.2.2.2.1; omega) (by rw [f 117 rfl (by decide)]; exact nu.2.2.2.2.1) (by rw [f 120 rfl (by decide)]; exact nu.2.2.2.2.2.1) nu.2.2.2.2.2.2.1 (by rw [f 134 rfl (by decide)]; exact e3) (f 125 rfl (by decide)) (f 126 rfl (by decide)) (f 129 rfl (by decide))) cd.end_ (by rw [aI_wn _ _ _ _ _ _ (by decide), aI_sI, (ho.1.2.2 26 rfl).1]; rfl) rl (fun r x y => (k.2.2 r (by unfold rIH; rw [decide_eq_false_iff_not]; omega)).1) ia.2.2.2.2.2.2.2.2.2.2 (Nat.le_refl _) (Nat.le_refl _) (Nat.le_refl _) ⟨bl B p, by omega, by rw [cd.end_.1, uq_at], by rw [rl.1, uq_at]; rfl, Or.inr ⟨hlt, by rw [rl.2.1, uq_at], Or.inr (Or.inl ⟨rfl, rfl, hb⟩)⟩⟩
theorem HB.cd {q : Nat} {v a b : Int32} {pl : Nat} (ho : CO (sI S 60 (A 6) v) S10 A N pl pc) (h : HB S10 S13 A N a b q) : CD S S13 A N pl pc a b 0 := by
  obtain ⟨k, b1, b2, b3⟩ := h
  refine ho.cd (fun r hr => (k.2.2 r (by unfold rHd; rw [decide_eq_false_iff_not]; omega)).1) b2 b3 ?_ (fun j _ => by rw [(k.2.2 22 rfl).1])
  rw [(k.2.2 20 rfl).2]
  exact (uq_self (by rw [ho.2.2.2.2.2.2.1, uq_at])).symm
theorem CIv.h {q : Nat} {a b : Int32} (ci : CIv S A B n p op N pc nd pq inm) (hlt : bl B p < n) (ho : CO (sI S 60 (A 6) (nI (bl B p))) S10 A N (bl B p) pc) (h : HB S10 S13 A N a b q) (hq1 : bl B p < q) (hq2 : q ≤ n) : CIv S13 A B n q op (N + 1) pc nd pq inm ∧ KCr S S13 := by
  obtain ⟨o1, o2, o3, o4, o5, o6, o7, o8, o9, o10⟩ := ci.o hlt ho
  obtain ⟨c1, c2, c3, c4, c5, c6, c7, c8, c9, d1, d2, d3, d4, d5, d6⟩ := ci
  have hge := bl_ge (B := B) (p := p)
  have k := h.1
  exact ⟨⟨o1.kh k, h.2.1, hq2, by rw [(k.2.1 61 rfl).1]; exact o3, c5, by rw [(k.2.1 45 rfl).1]; exact o4, by omega, by rw [(k.2.1 53 rfl).1]; exact o5, by omega, by rw [(k.2.1 54 rfl).1]; exact o6, d2, by rw [(k.2.1 62 rfl).1]; exact o7, by rw [(k.2.1 64 rfl).1]; exact o8, d5, d6⟩, Keep.tr o10 k.t.cr⟩
theorem k_meter (ci : CIv S A B n p op N pc nd pq inm) (hb : B (bl B p) = 77) (ho : CO (sI S 60 (A 6) (nI (bl B p))) S10 A N (bl B p) pc)
    (h1 : ∀ S13, IOk A B n S p op N pc nd pq inm stk S13 → G 1 S13) (h0 : ∀ S13, IBad A B n S p op N pc nd pq inm stk S13 → G 0 S13) : wp_X7_meter (A 6) (nI N) S10 G := by
  have hB := ci.1.2.2.1
  have hlt := hB.lt hb (by decide)
  have hge := bl_ge (B := B) (p := p)
  have ci0 := ci
  obtain ⟨o1, o2, o3, o4, o5, o6, o7, o8, o9, o10⟩ := ci.o hlt ho
  obtain ⟨c1, c2, c3, c4, c5, c6, c7, c8, c9, d1, d2, d3, d4, d5, d6⟩ := ci
  have turn : ∀ (Sr : PS) (R : PS → Prop) (P : Int32 → PS → Prop) T wr sy g ow bh par ks lv pe lst, MX S Sr A B n p op N pc nd pq inm stk T wr sy g ow bh par ks lv pe lst → ClR A R P →
      (∀ a b q Sr1 Sr2, hdr B 77 (bl B p) = .ok (a, b, q) → IA (sI Sr 101 (A 9) (nI (bl B p))) Sr1 A T op (ow (hdx stk)) (bl B p) lst → HR Sr1 Sr2 A T 2 a b q → Nx A P Sr2) → (∀ e Sr2, hdr B 77 (bl B p) = .error e → Kd e → RFM Sr Sr2 A e → P 0 Sr2) → P 1 Sr := by
    intro Sr R P T wr sy g ow bh par ks lv pe lst mx hP y1 y0
    obtain ⟨e1, e2, e3, e4, e5, e6, e7⟩ := mx.pre (by omega)
    have rt := mx.1
    have nu := mx.2.1
    refine it_item rt nu.2.1 c3 (by rw [hb]; decide) (by rw [hb]; decide) (by rw [hb]; decide) (by rw [hb]; decide) hP (fun Q2 hQ2 => ?_)
    refine r_ri rt.pos fI_at hlt (by rw [hb]; decide) (by rw [hb]; decide) (by rw [hb]; decide) (by simp only [fI_s, fI_sn, fL_s, fL_sn, aI_w, aI_wn, aL_w, aL_wn, fI_sL, fI_wI, fI_wL, fL_sI, fL_wI, fL_wL, aI_sI, aI_sL, aI_wL, aL_sI, aL_sL, aL_wI, fR_sI, fR_sL, fR_wI, fR_wL, aN_sI, aN_sL, aN_wI, aN_wL, ne_eq, Nat.reduceEqDiff, not_false_eq_true]; exact e1) (by omega) (by simp only [fI_s, fI_sn, fL_s, fL_sn, aI_w, aI_wn, aL_w, aL_wn, fI_sL, fI_wI, fI_wL, fL_sI, fL_wI, fL_wL, aI_sI, aI_sL, aI_wL, aL_sI, aL_sL, aL_wI, fR_sI, fR_sL, fR_wI, fR_wL, aN_sI, aN_sL, aN_wI, aN_wL, ne_eq, Nat.reduceEqDiff, not_false_eq_true]; exact e3) c5 e4 e5 e6 e7 (fun Sr1 ia => ?_)
    rw [hb]
    have km : KM Sr Sr1 := Keep.tr (KR.m KR.pos) ia.km
    refine chn_77 (rt.km km) (by rw [(ia.1.2.1 102 rfl).1, fI_at2]; exact nu.1) ia.2.1 hlt (by omega) (fun a b q Sr2 z1 z2 => ?_) (fun e Sr2 z1 z2 z3 => ?_)
    · exact hQ2 Sr2 (y1 a b q Sr1 Sr2 z1 ia z2)
    · exact hQ2 Sr2 ⟨fun z => absurd z (by rw [z3.2.1]; exact z2.ne), fun _ => y0 e Sr2 z1 z2 (RFM.of km z3)⟩
  refine s_meter o1 o2 hlt o4 (by omega) (by omega) (fun a b q S13 z1 z2 => ?_) (fun e S13 z1 z2 => ?_)
  · have hq := hdr_ok hB hlt (Or.inr (Or.inr (Or.inr (Or.inr rfl)))) z1
    obtain ⟨ci2, kc⟩ := ci0.h hlt ho z2 hq.1 hq.2.1
    have cd := z2.cd ho
    refine h1 S13 ⟨q, N + 1, pc, nd, by omega, by omega, by omega, fun _ => rfl, ci2, kc, ?_⟩
    intro Sr mm R P hP hg
    obtain ⟨T, wr, sy, g, ow, bh, par, ks, lv, pe, lst, mx⟩ := mm.mx
    refine turn Sr R P T wr sy g ow bh par ks lv pe lst mx hP (fun a2 b2 q2 Sr1 Sr2 y1 ia hr => ?_) (fun e Sr2 y1 => by rw [z1] at y1; cases y1)
    rw [z1] at y1
    injection y1 with y1; injection y1 with y2 y3; injection y3 with y3 y4
    subst y2 y3 y4
    obtain ⟨e1, e2, e3, e4, e5, e6, e7⟩ := mx.pre (by omega)
    have rt := mx.1
    have nu := mx.2.1
    have rl := (ia.rl (wr := wr) (sy := sy)).hr hr
    have km : KM Sr Sr2 := Keep.tr (Keep.tr (KR.m KR.pos) ia.km) hr.keep
    have f := fun j (hj : jI2 j = false) (hj2 : j ≠ 101) => (((hr.1.2.1 j (by unfold jHr; rw [decide_eq_false_iff_not]; exact hj2)).1.trans (ia.1.2.1 j hj).1).trans (fI_sn Sr 101 (A 9) (nI (bl B p)) j hj2))
    have fa := fun r (h1 : rHr r = false) (h2 : rIH r = false) => ((hr.1.2.2 r h1).1.trans (ia.1.2.2 r h2).1)
    have z102 : fI Sr2 102 (A 9) = 0 := by rw [f 102 rfl (by decide)]; exact nu.1
    refine ⟨fun _ => hg Sr2 km ?_, fun z => absurd z102 z⟩
    refine mx.leaf (s := 2) (hs := Or.inr (Or.inr (Or.inl rfl))) c5 o9 (rt.km km) (nu.of z102 hr.2.1 (by rw [(hr.1.2.1 113 rfl).1]; exact ia.2.2.1) (by have := nu.2.2.2.1; omega) (by rw [f 117 rfl (by decide)]; exact nu.2.2.2.2.1) (by rw [f 120 rfl (by decide)]; exact nu.2.2.2.2.2.1) nu.2.2.2.2.2.2.1 (by rw [f 134 rfl (by decide)]; exact e3) (f 125 rfl (by decide)) (f 126 rfl (by decide)) (f 129 rfl (by decide))) cd.end_ (by rw [aI_wn _ _ _ _ _ _ (by decide), (z2.1.2.2 26 rfl).1, (ho.1.2.2 26 rfl).1]; rfl) rl (fun r x y => fa r (by unfold rHr; rw [decide_eq_false_iff_not]; omega) (by unfold rIH; rw [decide_eq_false_iff_not]; omega)) (by rw [(hr.1.2.2 64 rfl).1]; exact ia.2.2.2.2.2.2.2.2.2.2) (Nat.le_refl _) (Nat.le_refl _) (Nat.le_refl _) ⟨bl B p, by omega, by rw [cd.end_.1, uq_at], by rw [rl.1, uq_at]; rfl, Or.inr ⟨hlt, by rw [rl.2.1, uq_at], Or.inr (Or.inr (Or.inl ⟨Or.inl ⟨hb, rfl, rfl⟩, ?_, ?_, ?_⟩))⟩⟩
    · rw [rl.2.2.1, uq_at, cd.end_.2.2.1, uq_at]
    · rw [rl.2.2.2.1, uq_at, cd.end_.2.2.2.1, uq_at]
    · rw [cd.end_.2.2.1, uq_at, cd.end_.2.2.2.1, uq_at, hb]; exact hq.2.2
  · refine h0 S13 ⟨e, hdr_kd z1, Keep.tr o10 z2.1.cr, z2.2.1, z2.2.2, ?_⟩
    intro Sr mm R P hP hg
    obtain ⟨T, wr, sy, g, ow, bh, par, ks, lv, pe, lst, mx⟩ := mm.mx
    refine turn Sr R P T wr sy g ow bh par ks lv pe lst mx hP (fun a2 b2 q2 Sr1 Sr2 y1 => by rw [z1] at y1; cases y1) (fun e2 Sr2 y1 y2 y3 => ?_)
    rw [z1] at y1
    injection y1 with y1
    subst y1
    exact hg Sr2 y3
end
