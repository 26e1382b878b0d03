/-! A use: both. -/
section
variable {S S0 S10 S13 Sr : PS} {A : Nat → Nat} {B : Nat → Int32} {n p op N pc nd pq T : Nat} {inm : Bool} {stk : List (Nat × Nat × Nat × Nat × Nat)} {G : Int32 → PS → Prop} {Q : PS → Prop}
theorem UN.km {S1 : PS} {a b : Int32} {q : Nat} (h : UN S S1 A T a b q) : KM S S1 := h.1.mono (fun j => by unfold jM jUs; simp only [decide_eq_false_iff_not]; omega) (fun r => by unfold rM rUs; simp only [decide_eq_false_iff_not]; omega)
theorem RLn.un {Sr Sr1 Sr2 : PS} {m wr sy q : Nat} {lst s1 pl a1 b1 z a b : Int32} {t : Int64} (h : RLn Sr Sr1 A T wr sy m lst s1 pl a1 b1 t z) (g : UN Sr1 Sr2 A T a b q) : RLn Sr Sr2 A T wr sy m lst 10 pl (if b = 0 then a else -1 - a) (if b = 0 then aI Sr1 58 (A 58) a.toNatClampNeg else 0) (-1) z := by
  obtain ⟨a2, a3, a4, a5, a6, a7, a8, a9, a10⟩ := h
  obtain ⟨k, b1, b2, b3, b4, b5⟩ := g
  refine ⟨by rw [b2, a2, uq_uq], by rw [(k.2.2 43 rfl).1]; exact a3, by rw [b3, a4, uq_uq], by rw [b4, a5, uq_uq], by rw [(k.2.2 46 rfl).1, (k.2.2 47 rfl).1]; exact a6, by rw [b5, a7, uq_uq], by rw [(k.2.2 49 rfl).1]; exact a8, fun r i hi x y => ?_, fun r i hi x y => ?_⟩
  · rw [(k.2.2 r (by unfold rUs; rw [decide_eq_false_iff_not]; omega)).1]; exact a9 r i hi x y
  · rw [(k.2.2 r (by unfold rUs; rw [decide_eq_false_iff_not]; omega)).1]; exact a10 r i hi x y
theorem AtU.mk2 {S Sr : PS} {nd e i : Nat} {a b : Int32} (hs : (b = 1 ∧ ∃ j, j < 4 ∧ a = nI j) ∨ (b = 0 ∧ ∃ d, d < nd ∧ a = nI d)) (h18 : aI S 18 (A 18) e = a) (h19 : aI S 19 (A 19) e = b) (h44 : aI Sr 44 (A 44) i = if b = 0 then a else -1 - a) : AtU S Sr A nd e i := by
  unfold AtU
  rw [h18, h19, h44]
  rcases hs with ⟨rfl, j, j1, rfl⟩ | ⟨rfl, d, d1, rfl⟩
  · exact Or.inl ⟨rfl, j, j1, rfl, by rw [if_neg (by decide)]⟩
  · exact Or.inr ⟨rfl, d, d1, rfl, by rw [if_pos rfl]⟩
/-- the end of a block of a use: what the reference does -/
theorem u_turn {P : Int32 → PS → Prop} {R : PS → Prop} {p0 N0 pc0 nd0 x k T wr sy : Nat} {w : Nat × Nat} {f1 : Nat × Nat × Nat × Nat × Nat} {r1 : List (Nat × Nat × Nat × Nat × Nat)} {g ow bh par ks lv : Nat → Nat} {pe : Nat → Bool} {lst : Int32} (c0 : CIv S0 A B n p0 (op + 1) N0 pc0 nd0 pq inm) (e : B (bl B p0) = 125)
    (mx : MX S0 Sr A B n p0 (op + 1) N0 pc0 nd0 pq inm ((4, x, k + 1, w) :: f1 :: r1) T wr sy g ow bh par ks lv pe lst) (hP : ClR A R P)
    (hw : ∀ Sra Srb, KM Sr Srb → fI Srb 101 (A 9) = nI (bl B p0 + 1) → fI Srb 134 (A 9) = nI (op + 1) → (∀ j, j ≠ 101 → j ≠ 134 → fI Srb j = fI Sr j) → GrR Sr Sra A T wr sy → aI Sra 46 (A 46) = (if x = par x + 1 then uq (aI Sr 46 (A 46)) (g (par x)) (nI (g x)) else aI Sr 46 (A 46)) → (x = par x + 1 → aI Sra 47 (A 47) = aI Sr 47 (A 47)) → (x ≠ par x + 1 → ∀ l, 1 ≤ l → l ≤ N0 → par l = par x → bh l + 1 = x → aI Sra 47 (A 47) = uq (aI Sr 47 (A 47)) (g l) (nI (g x))) → (∀ r, 55 ≤ r → r ≤ 64 → aI Sra r = aI Sr r) → (∀ r, r ≠ 45 → aI Srb r = aI Sra r) → aI Srb 45 (A 45) = uq (aI Sra 45 (A 45)) (g (par x)) (nI k) → aL Srb 48 (A 48) = uq (aL Sra 48 (A 48)) (g (par x)) (lN (g x)) → ∀ Q2 : PS → Prop, (∀ S, Nx A P S → Q2 S) → (k = 0 → Q2 Srb) ∧ (k ≠ 0 → wp_X12_openBlock (A 9) 4 (nI (g (par x))) Srb Q2)) : P 1 Sr := by
  have hB := c0.1.2.2.1
  have hn := hB.1
  have hN : N0 ≤ 1508 := by have := c0.2.2.2.2.2.2.1; have := c0.2.2.1; have := c0.2.2.2.2.1; omega
  obtain ⟨e1, e2, e3, e4, e5, e6, e7⟩ := mx.pre hN
  have rt := mx.1
  have nu := mx.2.1
  have tre := mx.2.2.1
  have ats := mx.2.2.2.2.2.2.1
  have hlen := mx.2.2.2.2.2.2.2.2.2.2.1
  obtain ⟨x1, x2, x3, x4, x5, x6, x7, y1, y2, y3, y4, y5, y6, y7, y8, y9, z1, z2, z3, z4, z5, z6⟩ := mx.2.2.2.2.2.2.2.2.2.1.four
  have hr1 : r1.length = op := by simpa using hlen
  rw [hr1] at x4 x5 x6
  have hgx := tre.glt x2
  have hgy := tre.glt y2
  have hpx := mx.parlt x x1 x2
  have hox : ow x = g x := (ats x x1 x2).own (by omega)
  have hoy : ow (par x) = g (par x) := (ats (par x) y1 y2).own (by omega)
  rw [hox] at x5
  have hin := tre.2.1 (par x) y2
  rw [hoy, y4, if_pos (by omega)] at hin
  have hc5 := c0.2.2.2.2.1
  refine it_ends rt nu.2.1 c0.2.2.1 (Or.inr (Or.inl e)) e3 hc5 x4 (by omega) hP (fun z => by omega) (fun _ Q2 hQ2 => ?_)
  refine r_endOk rt.pos fI_at (by simp only [fI_s, fI_sn, fL_s, fL_sn, aI_w, aI_wn, aL_w, aL_wn, fI_sL, fI_wI, fI_wL, fL_sI, fL_wI, fL_wL, aI_sI, aI_sL, aI_wL, aL_sI, aL_sL, aL_wI, fR_sI, fR_sL, fR_wI, fR_wL, aN_sI, aN_sL, aN_wI, aN_wL, ne_eq, Nat.reduceEqDiff, not_false_eq_true]; exact e3) hc5 x4 (by omega) x6 x5 (Or.inr (Or.inr ⟨by decide, e⟩)) (fun z => absurd (e.symm.trans z) (by decide)) (fun z => by omega) (fun _ _ => ?_) (fun _ z => absurd rfl z)
  rw [sI_sI]
  generalize hS : sI (sI Sr 101 (A 9) (nI (bl B p0 + 1))) 134 (A 9) (nI (op + 1)) = Sa
  have kma : KM Sr Sa := by rw [← hS]; exact (Keep.rf.sI rfl).sI rfl
  have fa : ∀ j, j ≠ 101 → j ≠ 134 → fI Sa j = fI Sr j := fun j j1 j2 => by rw [← hS, fI_sn _ _ _ _ _ j2, fI_sn _ _ _ _ _ j1]
  have f101 : fI Sa 101 (A 9) = nI (bl B p0 + 1) := by rw [← hS]; simp only [fI_s, fI_sn, fL_s, fL_sn, aI_w, aI_wn, aL_w, aL_wn, fI_sL, fI_wI, fI_wL, fL_sI, fL_wI, fL_wL, aI_sI, aI_sL, aI_wL, aL_sI, aL_sL, aL_wI, fR_sI, fR_sL, fR_wI, fR_wL, aN_sI, aN_sL, aN_wI, aN_wL, ne_eq, Nat.reduceEqDiff, not_false_eq_true]
  have f134 : fI Sa 134 (A 9) = nI (op + 1) := by rw [← hS]; simp only [fI_s, fI_sn, fL_s, fL_sn, aI_w, aI_wn, aL_w, aL_wn, fI_sL, fI_wI, fI_wL, fL_sI, fL_wI, fL_wL, aI_sI, aI_sL, aI_wL, aL_sI, aL_sL, aL_wI, fR_sI, fR_sL, fR_wI, fR_wL, aN_sI, aN_sL, aN_wI, aN_wL, ne_eq, Nat.reduceEqDiff, not_false_eq_true]
  have aa : aI Sa = aI Sr := by rw [← hS]; rfl
  have al : aL Sa = aL Sr := by rw [← hS]; rfl
  clear hS
  obtain ⟨l, hl, hlu⟩ : ∃ l, (aI Sa 46 (A 46) (g (par x)) ≠ -1 → aL Sa 48 (A 48) (g (par x)) = lN l ∧ l < 3100) ∧ (x ≠ par x + 1 → ∀ l2, 1 ≤ l2 → l2 ≤ N0 → par l2 = par x → bh l2 + 1 = x → l = g l2) := by
    rcases z5 with z5 | ⟨z6, l, l1, l2, l3, l4, l5⟩
    · refine ⟨0, fun z => absurd ?_ z, fun z => absurd z5 z⟩
      rw [aa, hin]
      unfold lk
      rw [← z5, if_pos z1]
    · exact ⟨g l, fun _ => ⟨by rw [al]; exact l5, by have := tre.glt l2; omega⟩, fun _ m m1 m2 m3 m4 => by rw [tre.uniq (by omega) m1 m2 l1 l2 x2 (m3.trans l3.symm) m4 l4]⟩
  have hfst : x = par x + 1 ↔ aI Sr 46 (A 46) (g (par x)) = -1 := by
    rw [hin]
    unfold lk
    constructor
    · intro z; rw [← z, if_pos z1]
    · intro z
      rcases z5 with z5 | ⟨z6, _⟩
      · exact z5
      · rw [z6, if_neg (by decide)] at z
        exact absurd z (nI_ne_neg (by have := tre.glt (z := par x + 1) (by omega); omega))
  refine r_useBlock (l := l) (k := k) (rt.km kma) (by omega) (by omega) (by omega) (by rw [aa]; exact z4) hl (fun Sra Srb k1 k2 k3 k4 k5 k6 k7 k8 k9 => ?_)
  refine hw Sra Srb (Keep.tr kma k1) (by rw [k2]; exact f101) (by rw [k2]; exact f134) (fun j j1 j2 => by rw [k2, fa j j1 j2]) ⟨fun r i _ r1 r2 r3 r4 r5 => by rw [k3 r r3 r4, aa], fun i _ => by rw [k4, al], fun r i _ r1 r2 => by rw [k3 r (by omega) (by omega), aa], fun r i _ r1 r2 => by rw [k3 r (by omega) (by omega), aa]⟩ ?_ (fun z => ?_) (fun z m m1 m2 m3 m4 => ?_) (fun r r1 r2 => by rw [k3 r (by omega) (by omega), aa]) k7 k8 k9 Q2 hQ2
  · by_cases c : x = par x + 1
    · rw [if_pos c, (k5 (by rw [aa]; exact hfst.mp c)).1, aa]
    · rw [if_neg c, (k6 (by rw [aa]; exact fun z => c (hfst.mpr z))).1, aa]
  · rw [(k5 (by rw [aa]; exact hfst.mp z)).2, aa]
  · rw [(k6 (by rw [aa]; exact fun y => z (hfst.mpr y))).2, aa, hlu z m m1 m2 m3 m4]
theorem s_paramsOf {d : Nat} (h : LayC S A) (hd : fI S 54 (A 5) = nI nd) (hdn : d < nd) (hnd : nd ≤ 20) {Q : Int32 → PS → Prop} (hQ : Q (aI S 25 (A 25) d) S) : wp_X6_parametersOf (A 5) (nI d) S Q := by
  unfold wp_X6_parametersOf
  rw [if_neg (nI_pos (by omega)), hd, if_neg (nI_ge hdn (by omega))]
  refine ⟨_, h.f57, by rw [h.n25]; exact vp_in_nI (by omega) (by omega), ?_⟩
  rw [nI_clamp (by omega)]; exact hQ
theorem four (v : Int32) : (if 4 < v then (4 : Int32) else v) ≤ 0 ∨ ∃ m, 1 ≤ m ∧ m ≤ 4 ∧ (if 4 < v then (4 : Int32) else v) = nI m := by
  by_cases c : 4 < v
  · rw [if_pos c]; exact Or.inr ⟨4, by omega, by omega, rfl⟩
  · rw [if_neg c]
    by_cases c0 : v ≤ 0
    · exact Or.inl c0
    · rw [Int32.lt_iff_toInt_lt] at c
      rw [Int32.le_iff_toInt_le] at c0
      have e4 : (4 : Int32).toInt = 4 := by decide
      have e0 : (0 : Int32).toInt = 0 := by decide
      refine Or.inr ⟨v.toInt.toNat, by omega, by omega, nI_ofi (by omega) (by omega)⟩
theorem four_n {m : Nat} (h : m ≤ 4) : (if 4 < nI m then (4 : Int32) else nI m) = nI m := by rw [if_neg (clt_no 4 (by rfl) h (by omega))]
theorem k_use {d : Nat} (ci : CIv S A B n p op N pc nd pq inm) (hb : B (bl B p) = 36) (ho : CO (sI S 60 (A 6) (nI (bl B p))) S10 A N (bl B p) pc) (ih : SMu A B n d) (hd : d + (op + 1) = 10) (hst : inm = false → ∀ f, f ∈ stk → f.1 ≠ 3)
    (h1 : ∀ S13, IOk A B n S p op N pc nd pq inm stk S13 → G 1 S13) (h0 : ∀ S13, IBad A B n S p op N pc nd pq inm stk S13 → G 0 S13) : wp_X7_use (wp_X7_music d) (A 6) (nI N) S10 G := by
  have hB := ci.1.2.2.1
  have hn := hB.1
  have hge := bl_ge (B := B) (p := p)
  have hlt := hB.lt hb (by decide)
  have ci0 := ci
  obtain ⟨o1, o2, o3, o4, o5, o6, o7, o8, o9, o10⟩ := ci.o hlt ho
  obtain ⟨c1, c2, c3, c4, c5, c6, c7, c8, c9, d1, d2, d3, d4, d5, d6⟩ := ci
  have turn : ∀ (Sr : PS) (R : PS → Prop) (P : Int32 → PS → Prop) T wr sy g ow bh par ks lv pe lst, MX S Sr A B n p op N pc nd pq inm stk T wr sy g ow bh par ks lv pe lst → ClR A R P →
      (∀ a b q Sr1 Sr2, usn B (aI S 26 (A 26)) pq (aI S 23 (A 23)) nd (bl B p) = .ok (a, b, q) → IA (sI Sr 101 (A 9) (nI (bl B p))) Sr1 A T op (ow (hdx stk)) (bl B p) lst → UN Sr1 Sr2 A T a b q → ∀ Q2 : PS → Prop, (∀ S2, Nx A P S2 → Q2 S2) → (if (if b = 0 then aI Sr1 58 (A 58) a.toNatClampNeg else 0) ≤ 0 then Q2 Sr2 else wp_X12_openBlock (A 9) 4 (nI T) Sr2 Q2)) →
      (∀ e Sr2, usn B (aI S 26 (A 26)) pq (aI S 23 (A 23)) nd (bl B p) = .error e → RFM Sr Sr2 A e → P 0 Sr2) → P 1 Sr := by
    intro Sr R P T wr sy g ow bh par ks lv pe lst mx hP y1 y0
    obtain ⟨e1, e2, e3, e4, e5, e6, e7⟩ := mx.pre (by omega)
    have rt := mx.1
    have nu := mx.2.1
    have nm := mx.2.2.2.2.2.2.2.2.1
    refine it_item rt nu.2.1 c3 (by rw [hb]; decide) (by rw [hb]; decide) (by rw [hb]; decide) (by rw [hb]; decide) hP (fun Q2 hQ2 => ?_)
    refine r_ri rt.pos fI_at hlt (by rw [hb]; decide) (by rw [hb]; decide) (by rw [hb]; decide) (by simp only [fI_s, fI_sn, fL_s, fL_sn, aI_w, aI_wn, aL_w, aL_wn, fI_sL, fI_wI, fI_wL, fL_sI, fL_wI, fL_wL, aI_sI, aI_sL, aI_wL, aL_sI, aL_sL, aL_wI, fR_sI, fR_sL, fR_wI, fR_wL, aN_sI, aN_sL, aN_wI, aN_wL, ne_eq, Nat.reduceEqDiff, not_false_eq_true]; exact e1) (by omega) (by simp only [fI_s, fI_sn, fL_s, fL_sn, aI_w, aI_wn, aL_w, aL_wn, fI_sL, fI_wI, fI_wL, fL_sI, fL_wI, fL_wL, aI_sI, aI_sL, aI_wL, aL_sI, aL_sL, aL_wI, fR_sI, fR_sL, fR_wI, fR_wL, aN_sI, aN_sL, aN_wI, aN_wL, ne_eq, Nat.reduceEqDiff, not_false_eq_true]; exact e3) c5 e4 e5 e6 e7 (fun Sr1 ia => ?_)
    rw [hb]
    have km : KM Sr Sr1 := Keep.tr (KR.m KR.pos) ia.km
    have f := fun j (hj : jI2 j = false) (hj2 : j ≠ 101) => ((ia.1.2.1 j hj).1.trans (fI_sn Sr 101 (A 9) (nI (bl B p)) j hj2))
    have a5 : ∀ r, rIH r = false → aI Sr1 r = aI Sr r := fun r hr => (ia.1.2.2 r hr).1
    refine chn_36 ?_
    refine r_use (cp := aI S 26 (A 26)) (c := aI S 23 (A 23)) (pq := pq) (nd := nd) (inm := inm) (rt.km km) (by rw [f 102 rfl (by decide)]; exact nu.1) ia.2.1 hlt (by omega) (by rw [f 126 rfl (by decide)]; exact nu.2.2.2.2.2.2.2.2.2.1) (fun z => by rw [f 129 rfl (by decide)]; exact nu.2.2.2.2.2.2.2.2.2.2 z) d6 d5 (fun k hk => ?_) (by rw [f 125 rfl (by decide)]; exact nu.2.2.2.2.2.2.2.2.1) d2 (fun k hk => by rw [a5 55 rfl, a5 56 rfl]; exact (nm.1.1 k hk).1) (fun a b q Sr2 z1 z2 => y1 a b q Sr1 Sr2 z1 ia z2 Q2 hQ2) (fun e Sr2 z1 z2 z3 => hQ2 Sr2 ⟨fun z => absurd z (by rw [z3.2.1]; exact z2.ne), fun _ => y0 e Sr2 z1 (RFM.of km z3)⟩)
    cases hi : inm with
    | false => have := d6 hi; omega
    | true => rw [a5 59 rfl, a5 60 rfl]; exact nm.1.2 hi k hk
  have bad : ∀ e S13, usn B (aI S 26 (A 26)) pq (aI S 23 (A 23)) nd (bl B p) = .error e → KCr S S13 → fI S13 0 (A 0) = nI e.1 → fI S13 1 (A 0) = nI e.2 → G 0 S13 := by
    intro e S13 z1 z2 z3 z4
    refine h0 S13 ⟨e, usn_kd z1, z2, z3, z4, ?_⟩
    intro Sr mm R P hP hg
    obtain ⟨T, wr, sy, g, ow, bh, par, ks, lv, pe, lst, mx⟩ := mm.mx
    refine turn Sr R P T wr sy g ow bh par ks lv pe lst mx hP (fun a b q Sr1 Sr2 y1 => by rw [z1] at y1; cases y1) (fun e2 Sr2 y1 y2 => ?_)
    rw [z1] at y1
    injection y1 with y1
    subst y1
    exact hg Sr2 y2
  -- a use without blocks
  have leaf : ∀ a b q S13, usn B (aI S 26 (A 26)) pq (aI S 23 (A 23)) nd (bl B p) = .ok (a, b, q) → HB S10 S13 A N a b q → (b = 0 → ∀ m, m ≤ 4 → aI S 25 (A 25) a.toNatClampNeg = nI m → m = 0) → G 1 S13 := by
    intro a b q S13 z1 z2 z3
    have hq := usn_ok hB hlt z1
    obtain ⟨ci2, kc⟩ := ci0.h hlt ho z2 (by omega) hq.2.1
    have cd := z2.cd ho
    refine h1 S13 ⟨q, N + 1, pc, nd, by omega, by omega, by omega, fun _ => rfl, ci2, kc, ?_⟩
    intro Sr mm R P hP hg
    obtain ⟨T, wr, sy, g, ow, bh, par, ks, lv, pe, lst, mx⟩ := mm.mx
    refine turn Sr R P T wr sy g ow bh par ks lv pe lst mx hP (fun a2 b2 q2 Sr1 Sr2 y1 ia un Q2 hQ2 => ?_) (fun e Sr2 y1 => by rw [z1] at y1; cases y1)
    rw [z1] at y1
    injection y1 with y1; injection y1 with w1 w2; injection w2 with w2 w3
    subst w1 w2 w3
    obtain ⟨e1, e2, e3, e4, e5, e6, e7⟩ := mx.pre (by omega)
    have rt := mx.1
    have nu := mx.2.1
    have nm := mx.2.2.2.2.2.2.2.2.1
    have a58 : aI Sr1 58 = aI Sr 58 := (ia.1.2.2 58 rfl).1
    have hz : (if b = 0 then aI Sr1 58 (A 58) a.toNatClampNeg else 0) = 0 := by
      by_cases c : b = 0
      · rw [if_pos c]
        rcases hq.2.2 with ⟨x, _⟩ | ⟨_, dd, dd1, dd2⟩
        · rw [c] at x; exact absurd x (by decide)
        · obtain ⟨_, x, m, _, _, _, _, m5, _, _, m8, m9⟩ := nm.1.1 dd dd1
          have ed : a.toNatClampNeg = dd := by rw [dd2, nI_clamp (by omega)]
          rw [ed] at z3 ⊢
          rw [a58, m9, z3 c m m5 m8]; rfl
      · rw [if_neg c]
    rw [hz, if_pos (by decide)]
    have rl : RLn Sr Sr2 A T wr sy (ow (hdx stk)) lst 10 (nI (bl B p)) (if b = 0 then a else -1 - a) (if b = 0 then aI Sr1 58 (A 58) a.toNatClampNeg else 0) (-1) 0 := (ia.rl (wr := wr) (sy := sy)).un un
    have k := un.1
    have km : KM Sr Sr2 := Keep.tr (Keep.tr (KR.m KR.pos) ia.km) un.km
    have f := fun j (hj : jI2 j = false) (hj2 : j ≠ 101) => (((k.2.1 j (by unfold jUs; rw [decide_eq_false_iff_not]; exact hj2)).1.trans (ia.1.2.1 j hj).1).trans (fI_sn Sr 101 (A 9) (nI (bl B p)) j hj2))
    have fa := fun r (h1 : rUs r = false) (h2 : rIH r = false) => ((k.2.2 r h1).1.trans (ia.1.2.2 r h2).1)
    have z102 : fI Sr2 102 (A 9) = 0 := by rw [f 102 rfl (by decide)]; exact nu.1
    refine hQ2 Sr2 ⟨fun _ => hg Sr2 km ?_, fun z => absurd z102 z⟩
    have hs10 : (10 : Nat) = 0 ∨ (10 : Nat) = 1 ∨ (10 : Nat) = 2 ∨ (10 : Nat) = 8 ∨ (10 : Nat) = 10 ∧ (b = 1 → ∀ j, j < 4 → a = nI j → inm = true ∧ j < pq) ∧ (b = 0 → ∀ d m, d < nd → a = nI d → m ≤ 4 → aI S 25 (A 25) d = nI m → m = 0) := by
      refine Or.inr (Or.inr (Or.inr (Or.inr ⟨rfl, fun hb j hj ha => ?_, fun hb d m dn ha m4 h25 => ?_⟩)))
      · rcases hq.2.2 with ⟨x, j', j1, j2⟩ | ⟨x, _⟩
        · have ej : j = j' := by
            have := ha.symm.trans j2
            rwa [nI_eq (by omega) (by omega)] at this
          refine ⟨?_, by omega⟩
          cases hi : inm with
          | true => rfl
          | false => have := d6 hi; omega
        · rw [hb] at x; exact absurd x (by decide)
      · exact z3 hb m m4 (by rw [ha, nI_clamp (by omega)]; exact h25)
    refine mx.leaf (s := 10) (hs := hs10) c5 o9 (rt.km km) (nu.of z102 un.2.1 (by rw [(k.2.1 113 rfl).1]; exact ia.2.2.1) (by have := nu.2.2.2.1; omega) (by rw [f 117 rfl (by decide)]; exact nu.2.2.2.2.1) (by rw [f 120 rfl (by decide)]; exact nu.2.2.2.2.2.1) nu.2.2.2.2.2.2.1 (by rw [f 134 rfl (by decide)]; exact e3) (f 125 rfl (by decide)) (f 126 rfl (by decide)) (f 129 rfl (by decide))) cd.end_ (by rw [aI_wn _ _ _ _ _ _ (by decide), (z2.1.2.2 26 rfl).1, (ho.1.2.2 26 rfl).1]; rfl) rl (fun r x y => fa r (by unfold rUs; rw [decide_eq_false_iff_not]; omega) (by unfold rIH; rw [decide_eq_false_iff_not]; omega)) (by rw [(k.2.2 64 rfl).1]; exact ia.2.2.2.2.2.2.2.2.2.2) (Nat.le_refl _) (Nat.le_refl _) (Nat.le_refl _) ⟨bl B p, by omega, by rw [cd.end_.1, uq_at], by rw [rl.1, uq_at]; rfl, Or.inr ⟨hlt, by rw [rl.2.1, uq_at], Or.inr (Or.inr (Or.inr (Or.inr (Or.inr (Or.inr ⟨rfl, rfl, hb, AtU.mk2 (a := a) (b := b) ?_ (by rw [cd.end_.2.2.1, uq_at]) (by rw [cd.end_.2.2.2.1, uq_at]) (by rw [rl.2.2.1, uq_at])⟩)))))⟩⟩
    rcases hq.2.2 with ⟨x, j, j1, j2⟩ | x
    · exact Or.inl ⟨x, j, by omega, j2⟩
    · exact Or.inr x
  have hu : usn B (aI S 26 (A 26)) pq (aI S 23 (A 23)) nd (bl B p) = if sc isLet B (bl B (bl B p + 1)) = bl B (bl B p + 1) then .error (1, bl B (bl B p + 1))
      else if fnd (aI S 26 (A 26)) (hs B (bl B (bl B p + 1), sc isLet B (bl B (bl B p + 1)) - bl B (bl B p + 1))) pq 0 ≠ -1 then .ok (fnd (aI S 26 (A 26)) (hs B (bl B (bl B p + 1), sc isLet B (bl B (bl B p + 1)) - bl B (bl B p + 1))) pq 0, 1, sc isLet B (bl B (bl B p + 1)))
      else if fnd (aI S 23 (A 23)) (hs B (bl B (bl B p + 1), sc isLet B (bl B (bl B p + 1)) - bl B (bl B p + 1))) nd 0 = -1 then .error (4, bl B (bl B p + 1))
      else .ok (fnd (aI S 23 (A 23)) (hs B (bl B (bl B p + 1), sc isLet B (bl B (bl B p + 1)) - bl B (bl B p + 1))) nd 0, 0, sc isLet B (bl B (bl B p + 1))) := rfl
  unfold wp_X7_use
  rintro _ rfl
  rw [o2, nI_1]
  refine s_findName (p := bl B p + 1) o1.pos fI_pos hlt (fun c S2 k2 f2 g2 n2 => ?_) (fun c S2 cf => ?_)
  · rw [if_neg (by decide)]
    rw [if_neg c] at hu
    have k3 : KL S10 S2 := KL.pos.tr k2
    have h2 := o1.kl k3
    have a26 : aI S2 26 = aI S 26 := by rw [(k3.2.2 26 rfl).1, (ho.1.2.2 26 rfl).1]; rfl
    have a23 : aI S2 23 = aI S 23 := by rw [(k3.2.2 23 rfl).1, (ho.1.2.2 23 rfl).1]; rfl
    refine s_indexOfParam h2.1 (by rw [(k3.2.1 64 rfl).1]; exact o8) d5 ?_
    rw [n2, a26]
    by_cases e5 : fnd (aI S 26 (A 26)) (hs B (bl B (bl B p + 1), sc isLet B (bl B (bl B p + 1)) - bl B (bl B p + 1))) pq 0 = -1
    · rw [if_pos e5]
      rw [if_neg (fun z => z e5)] at hu
      refine ⟨_, h2.1.f58, ?_⟩
      refine s_indexOfName h2.1 (by rw [(k3.2.1 54 rfl).1]; exact o6) d2 ?_
      rw [a23]
      by_cases e8 : fnd (aI S 23 (A 23)) (hs B (bl B (bl B p + 1), sc isLet B (bl B (bl B p + 1)) - bl B (bl B p + 1))) nd 0 = -1
      · rw [if_pos e8]
        rw [if_pos e8] at hu
        refine ⟨_, h2.1.f59, ?_⟩
        rw [g2]
        exact s_tell (bad _ _ hu (Keep.tr o10 (Keep.tr k3.cr ((Keep.rf.sI rfl).sI rfl))) (CF_tell (k := 4)).2.1 (CF_tell (k := 4)).2.2)
      · rw [if_neg e8]
        rw [if_neg e8] at hu
        rcases fnd_some (f := aI S 23 (A 23)) (key := hs B (bl B (bl B p + 1), sc isLet B (bl B (bl B p + 1)) - bl B (bl B p + 1))) nd 0 with z | ⟨dd, _, dd1, dd2, _⟩
        · exact absurd z e8
        · rw [dd2] at hu ⊢
          refine ⟨_, h2.1.f58, ?_⟩
          refine s_setNum (S0 := S10) (q := sc isLet B (bl B (bl B p + 1))) h2 k3 (by rw [(k3.2.1 45 rfl).1]; exact o4) (by omega) (by omega) f2 (fun S3 hb3 => ?_)
          have hq := usn_ok hB hlt hu
          obtain ⟨ci3, kc3⟩ := ci0.h hlt ho hb3 (by omega) hq.2.1
          have cd3 := hb3.cd ho
          have a25 : aI S3 25 = aI S 25 := cd3.2.2.2.2.2.2.2.2.2
          refine ⟨_, ci3.1.1.f58, ?_⟩
          refine s_paramsOf (nd := nd) ci3.1.1 ci3.2.2.2.2.2.2.2.2.2.1 (by omega) d2 ?_
          rw [a25]
          generalize hq3 : sc isLet B (bl B (bl B p + 1)) = q3 at *
          rintro _ rfl
          intro P hP
          rcases four (aI S 25 (A 25) dd) with v0 | ⟨M, M1, M4, vM⟩
          · apply hP
            rw [if_pos v0]
            refine leaf _ _ _ S3 hu hb3 (fun _ m m4 me => ?_)
            rw [nI_clamp (by omega)] at me
            rw [me, four_n m4] at v0
            rcases Nat.eq_zero_or_pos m with z | z
            · exact z
            · exact absurd v0 (nI_nle z (by omega))
          · rw [vM] at hP
            have key : ∀ j i q4 N4 pc4 nd4 S4, i + j = M → q4 ≤ n → CT S4 A B n → fI S4 60 (A 6) = nI q4 → fI S4 61 (A 6) = nI op → fI S4 45 (A 5) = nI N4 → N4 + 1 ≤ q4 + op → fI S4 53 (A 5) = nI pc4 → pc4 ≤ q4 → fI S4 54 (A 5) = nI nd4 → nd4 ≤ 20 → fI S4 62 (A 6) = mI inm → fI S4 64 (A 6) = nI pq → N < N4 → p < q4 → N4 + p ≤ N + q4 → (inm = true → nd4 = nd) → KCr S S4 →
                (j = 0 → Sim A B n S p op N pc nd pq inm stk (wI S4 17 (A 17) N (nI N4)) q4 op N4 pc4 nd4 pq inm stk) →
                (j ≠ 0 → (∀ r S8 S12, blk B op q4 = .ok r → CO S4 S8 A N4 q4 pc4 → Keep jBk rN S8 S12 → Sim A B n S p op N pc nd pq inm stk S12 r (op + 1) (N4 + 1) pc4 nd4 pq inm ((4, N4 + 1, j, N + 1, i) :: stk)) ∧ ∀ e, blk B op q4 = .error e → SimF A B n S p op N pc nd pq inm stk e) → P (nI i) S4 := by
              intro j
              induction j with
              | zero =>
                intro i q4 N4 pc4 nd4 S4 a1 a2 a3 a4 a5 a6 a7 a8 a9 b1 b2 b3 b4 b5 b6 b7 b8 b9 s0 s1
                apply hP
                rw [if_pos (nI_le (by omega) (by omega))]
                exact h1 S4 ⟨q4, N4, pc4, nd4, b6, b5, b7, b8, ⟨a3, a4, a2, a5, c5, a6, by omega, a8, a9, b1, b2, b3, b4, d5, d6⟩, b9, s0 rfl⟩
              | succ j ihj =>
                intro i q4 N4 pc4 nd4 S4 a1 a2 a3 a4 a5 a6 a7 a8 a9 b1 b2 b3 b4 b5 b6 b7 b8 b9 s0 s1
                obtain ⟨hs, hf⟩ := s1 (by omega)
                apply hP
                rw [if_neg (nI_ge (by omega) (by omega))]
                refine ⟨_, a3.1.f58, ?_⟩
                rw [a4]
                refine s_open a3.1 a6 (by omega) a8 (fun S8 co => ?_)
                have k8 := co.1
                have h8 := CO.ct a3 co
                have kc8 : KCr S S8 := Keep.tr b9 co.cr
                refine s_block (op := op) h8 (by rw [(k8.2.1 60 rfl).1]; exact a4) a2 (by rw [(k8.2.1 61 rfl).1]; exact a5) c5 (fun r S12 e3 k12 f12 g12 => ?_) (fun e S12 e3 cf => ?_)
                · have hr := blk_ok hB e3
                  have kc12 : KCr S S12 := Keep.tr kc8 (k12.mono (fun j => by unfold jCr jBk; simp only [decide_eq_false_iff_not]; omega) (fun _ _ => rfl))
                  have f3 : ∀ j, jBk j = false → jCo j = false → fI S12 j = fI S4 j := fun j j1 j2 => by rw [(k12.2.1 j j1).1, (k8.2.1 j j2).1]
                  have ci12 : CIv S12 A B n r (op + 1) (N4 + 1) pc4 nd4 pq inm := ⟨h8.keep k12 rfl rfl, f12, hr.2.1, g12, by omega, by rw [(k12.2.1 45 rfl).1]; exact co.2.1, by omega, by rw [f3 53 rfl rfl]; exact a8, by omega, by rw [f3 54 rfl rfl]; exact b1, b2, by rw [f3 62 rfl rfl]; exact b3, by rw [f3 64 rfl rfl]; exact b4, d5, d6⟩
                  have sim12 := hs r S8 S12 e3 co k12
                  refine ih S12 r (op + 1) (N4 + 1) pc4 nd4 pq inm ((4, N4 + 1, j + 1, N + 1, i) :: stk) _ hd ci12 (fun z f hf => ?_) (fun S0 p0 N0 pc0 nd0 c0 hp0 hN0 hgr0 hnd0 k0 nb sm => ?_) (fun S5 bad5 => ?_)
                  · rcases List.mem_cons.mp hf with e | e
                    · rw [e]; show (4 : Nat) ≠ 3; decide
                    · exact hst z f e
                  · rw [if_neg (by decide)]
                    have c0' := c0
                    obtain ⟨x1, x2, x3, x4, x5, x6, x7, x8, x9, y1', y2', y3', y4', y5', y6'⟩ := c0
                    have hb0 := bl_ge (B := B) (p := p0)
                    have chain := Sim.tr sim12 sm
                    have kc0 : KCr S S0 := Keep.tr kc12 k0
                    refine s_must x1.pos fI_pos (bl_le hB x3) (fun e => ?_) (fun e S5 c5' => ?_)
                    · rw [if_neg (by decide), sI_sI]
                      have hlt0 := hB.lt e (by decide)
                      have eo : fI (sI S0 60 (A 6) (nI (bl B p0 + 1))) 61 (A 6) - 1 = nI op := by rw [fI_sn _ _ _ _ _ (by decide), x4]; exact nI_pred op
                      rw [eo]
                      rintro _ rfl
                      rw [if_neg (by decide)]
                      refine ⟨_, x1.1.f58, ?_⟩
                      refine s_close (N := N0) (x := N4) x1.1 (by simp only [fI_s, fI_sn, fL_s, fL_sn, aI_w, aI_wn, aL_w, aL_wn, fI_sL, fI_wI, fI_wL, fL_sI, fL_wI, fL_wL, aI_sI, aI_sL, aI_wL, aL_sI, aL_sL, aL_wI, fR_sI, fR_sL, fR_wI, fR_wL, aN_sI, aN_sL, aN_wI, aN_wL, ne_eq, Nat.reduceEqDiff, not_false_eq_true]; exact x6) (by omega) (by omega) ?_
                      rintro _ rfl
                      rw [nI_1]
                      generalize hS24 : wI (sI (sI S0 60 (A 6) (nI (bl B p0 + 1))) 61 (A 6) (nI op)) 17 (A 17) N4 (nI N0) = S24
                      have k24 : KCr S0 S24 := by rw [← hS24]; exact ((Keep.rf.sI rfl).sI rfl).wI rfl
                      have f24 : ∀ j, j ≠ 60 → j ≠ 61 → fI S24 j = fI S0 j := fun j j1 j2 => by rw [← hS24, fI_wI, fI_sn _ _ _ _ _ j2, fI_sn _ _ _ _ _ j1]
                      have a24 : ∀ r, r ≠ 17 → aI S24 r = aI S0 r := fun r hr => by rw [← hS24, aI_wn _ _ _ _ _ _ hr]; rfl
                      have l24 : aL S24 = aL S0 := by rw [← hS24]; rfl
                      have a17 : aI S24 17 (A 17) = uq (aI S0 17 (A 17)) N4 (nI N0) := by rw [← hS24, aI_w]; rfl
                      have p24 : fI S24 60 (A 6) = nI (bl B p0 + 1) := by rw [← hS24]; simp only [fI_s, fI_sn, fL_s, fL_sn, aI_w, aI_wn, aL_w, aL_wn, fI_sL, fI_wI, fI_wL, fL_sI, fL_wI, fL_wL, aI_sI, aI_sL, aI_wL, aL_sI, aL_sL, aL_wI, fR_sI, fR_sL, fR_wI, fR_wL, aN_sI, aN_sL, aN_wI, aN_wL, ne_eq, Nat.reduceEqDiff, not_false_eq_true]
                      have o24 : fI S24 61 (A 6) = nI op := by rw [← hS24]; simp only [fI_s, fI_sn, fL_s, fL_sn, aI_w, aI_wn, aL_w, aL_wn, fI_sL, fI_wI, fI_wL, fL_sI, fL_wI, fL_wL, aI_sI, aI_sL, aI_wL, aL_sI, aL_sL, aL_wI, fR_sI, fR_sL, fR_wI, fR_wL, aN_sI, aN_sL, aN_wI, aN_wL, ne_eq, Nat.reduceEqDiff, not_false_eq_true]
                      clear hS24
                      refine ihj (i + 1) (bl B p0 + 1) N0 pc0 nd0 S24 (by omega) hlt0 (x1.cr k24) p24 o24 (by rw [f24 45 (by decide) (by decide)]; exact x6) (by omega) (by rw [f24 53 (by decide) (by decide)]; exact x8) (by omega) (by rw [f24 54 (by decide) (by decide)]; exact y1') y2' (by rw [f24 62 (by decide) (by decide)]; exact y3') (by rw [f24 64 (by decide) (by decide)]; exact y4') (by omega) (by omega) (by omega) (fun z => (hnd0 z).trans (b8 z)) (Keep.tr kc0 k24) (fun z => ?_) (fun z => ⟨fun r2 S8' S12' e3' co' k12' => ?_, fun e' e3' => ?_⟩)
                      · refine Sim.tr chain ?_
                        intro Sr mm R P2 hP2 hg
                        obtain ⟨T, wr, sy, g, ow, bh, par, ks, lv, pe, lst, mx⟩ := mm.mx
                        rw [z] at mx
                        cases hs : stk with
                        | nil => rw [hs] at mx; exact absurd mx.2.2.2.2.2.2.2.2.2.1.1 (show ¬ (4 : Nat) = 0 by decide)
                        | cons f1 r1 =>
                          rw [hs] at mx hg
                          have nu := mx.2.1
                          have hpx : par (N4 + 1) = N + 1 := mx.2.2.2.2.2.2.2.2.2.1.four.2.2.2.2.2.2.2.2.2.2.2.2.2.2.2.1
                          refine u_turn (k := 0) c0' e mx hP2 (fun Sra Srb w1 w2 w3 w4 w5 w6 w7 w8 w9 u1 u2 u3 Q2 hQ2 => ⟨fun _ => ?_, fun y => absurd rfl y⟩)
                          have z102 : fI Srb 102 (A 9) = 0 := by rw [w4 102 (by decide) (by decide)]; exact nu.1
                          refine hQ2 Srb ⟨fun _ => hg Srb w1 ?_, fun y => absurd z102 y⟩
                          refine mx.uend rfl (q := bl B p0 + 1) (S1 := wI S0 17 (A 17) (N4 + 1 - 1) (nI N0)) (S2 := wI S24 17 (A 17) N (nI N0)) (by omega) rfl ⟨fun x i he r1 r2 r3 r4 => by rw [aI_wn _ _ _ _ _ _ r1, a24 x r1, aI_wn _ _ _ _ _ _ r1], fun i he => by rw [aL_wI, l24, aL_wI], fun x hx => by rw [aI_wn _ _ _ _ _ _ (by decide), a24 22 (by decide), aI_wn _ _ _ _ _ _ (by decide)]⟩ (by rw [hpx, aI_w, aI_w, a17, Nat.add_sub_cancel, Nat.add_sub_cancel]) (fun x r1 r2 => by rw [aI_wn _ _ _ _ _ _ (by omega), a24 x (by omega)]) w5 w6 w7 w8 w9 u1 u2 u3 (mx.1.km w1) (nu.of z102 w2 (by rw [w4 113 (by decide) (by decide)]; exact nu.2.2.1) nu.2.2.2.1 (by rw [w4 117 (by decide) (by decide)]; exact nu.2.2.2.2.1) (by rw [w4 120 (by decide) (by decide)]; exact nu.2.2.2.2.2.1) nu.2.2.2.2.2.2.1 w3 (w4 125 (by decide) (by decide)) (w4 126 (by decide) (by decide)) (w4 129 (by decide) (by decide)))
                      · refine Sim.tr chain ?_
                        intro Sr mm R P2 hP2 hg
                        obtain ⟨T, wr, sy, g, ow, bh, par, ks, lv, pe, lst, mx⟩ := mm.mx
                        cases hs : stk with
                        | nil => rw [hs] at mx; exact absurd mx.2.2.2.2.2.2.2.2.2.1.1 (show ¬ (4 : Nat) = 0 by decide)
                        | cons f1 r1 =>
                          rw [hs] at mx hg
                          have nu := mx.2.1
                          have e1 := mx.pre (by omega)
                          have hbk := blk_ok hB e3'
                          refine u_turn (k := j) c0' e mx hP2 (fun Sra Srb w1 w2 w3 w4 w5 w6 w7 w8 w9 u1 u2 u3 Q2 hQ2 => ⟨fun y => absurd y z, fun _ => ?_⟩)
                          have z102 : fI Srb 102 (A 9) = 0 := by rw [w4 102 (by decide) (by decide)]; exact nu.1
                          have h113 : fI Srb 113 (A 9) = nI T := by rw [w4 113 (by decide) (by decide)]; exact nu.2.2.1
                          refine r_openBlock (T := T) (op := op) (mx.1.km w1) z102 w2 hlt0 h113 (by omega) w3 (by omega) (fun r3 Src y1 ob => ?_) (fun e'' Src y1 => by rw [e3'] at y1; cases y1)
                          rw [e3'] at y1
                          injection y1 with y1
                          subst y1
                          have km : KM Sr Src := Keep.tr w1 ob.km
                          have fc : ∀ j, jB j = false → j ≠ 101 → j ≠ 134 → fI Src j = fI Sr j := fun j j1 j2 j3 => by rw [(ob.1.2.1 j j1).1, w4 j j2 j3]
                          have z102c : fI Src 102 (A 9) = 0 := by rw [fc 102 rfl (by decide) (by decide)]; exact nu.1
                          refine hQ2 Src ⟨fun _ => hg Src km ?_, fun y => absurd z102c y⟩
                          have aI12 : aI S12' = aI S8' := by funext x; exact (k12'.2.2 x rfl).1
                          have aL12 : aL S12' = aL S8' := by funext x; exact (k12'.2.2 x rfl).2
                          obtain ⟨g16, g17, g18, g19, g20, g21, g22, g23, g24, g25⟩ := co'.cd0
                          refine mx.unxt (q := r2) (pl := bl B p0 + 1) (a := 0) (b := 0) (t := 0) (S1 := wI S0 17 (A 17) (N4 + 1 - 1) (nI N0)) (S2 := S12') (Sra := Sra) (Srb := Srb) (Src := Src) (by omega) hbk.2.2 (by omega) rfl ⟨?_, ?_, ?_, ?_, ?_, ?_, ?_, ?_, ?_, ?_⟩ (by rw [aI12, (co'.1.2.2 26 rfl).1, a24 26 (by decide)]) hlt0 w5 w6 w7 w8 w9 u1 u2 u3 ob (mx.1.km km) (nu.of z102c ob.2.1 ob.2.2.1 (by have := nu.2.2.2.1; omega) (by rw [fc 117 rfl (by decide) (by decide)]; exact nu.2.2.2.2.1) (by rw [fc 120 rfl (by decide) (by decide)]; exact nu.2.2.2.2.2.1) nu.2.2.2.2.2.2.1 ob.2.2.2.1 (fc 125 rfl (by decide) (by decide)) (fc 126 rfl (by decide) (by decide)) (fc 129 rfl (by decide) (by decide)))
                          · rw [aI12, g16, a24 16 (by decide), aI_wn _ _ _ _ _ _ (by decide)]
                          · rw [aI12, g17, a17, aI_w, Nat.add_sub_cancel]
                          · rw [aI12, g18, a24 18 (by decide), aI_wn _ _ _ _ _ _ (by decide)]
                          · rw [aI12, g19, a24 19 (by decide), aI_wn _ _ _ _ _ _ (by decide)]
                          · rw [aL12, g20, l24, aL_wI]
                          · rw [aI12, g21, a24 21 (by decide), aI_wn _ _ _ _ _ _ (by decide)]
                          · intro x hx
                            rw [aI12, g22 x hx, a24 22 (by decide), aI_wn _ _ _ _ _ _ (by decide)]
                          · rw [aI12, g23, a24 23 (by decide), aI_wn _ _ _ _ _ _ (by decide)]
                          · rw [aI12, g24, a24 24 (by decide), aI_wn _ _ _ _ _ _ (by decide)]
                          · rw [aI12, g25, a24 25 (by decide), aI_wn _ _ _ _ _ _ (by decide)]
                      · refine Sim.f chain ?_
                        intro Sr mm R P2 hP2 hg
                        obtain ⟨T, wr, sy, g, ow, bh, par, ks, lv, pe, lst, mx⟩ := mm.mx
                        cases hs : stk with
                        | nil => rw [hs] at mx; exact absurd mx.2.2.2.2.2.2.2.2.2.1.1 (show ¬ (4 : Nat) = 0 by decide)
                        | cons f1 r1 =>
                          rw [hs] at mx
                          have nu := mx.2.1
                          have e1 := mx.pre (by omega)
                          refine u_turn (k := j) c0' e mx hP2 (fun Sra Srb w1 w2 w3 w4 w5 w6 w7 w8 w9 u1 u2 u3 Q2 hQ2 => ⟨fun y => absurd y z, fun _ => ?_⟩)
                          have z102 : fI Srb 102 (A 9) = 0 := by rw [w4 102 (by decide) (by decide)]; exact nu.1
                          have h113 : fI Srb 113 (A 9) = nI T := by rw [w4 113 (by decide) (by decide)]; exact nu.2.2.1
                          refine r_openBlock (T := T) (op := op) (mx.1.km w1) z102 w2 hlt0 h113 (by omega) w3 (by omega) (fun r3 Src y1 => by rw [e3'] at y1; cases y1) (fun e'' Src y1 y2 y3 => ?_)
                          rw [e3'] at y1
                          injection y1 with y1
                          subst y1
                          exact hQ2 Src ⟨fun y => absurd y (by rw [y3.2.1]; exact y2.ne), fun _ => hg Src (RFM.of w1 y3.m)⟩
                    · rw [if_pos rfl, if_pos rfl]
                      refine h0 S5 ⟨(1, bl B p0), kdm (by decide) (by decide), Keep.tr kc0 (KL.cr (Keep.tr KL.pos c5'.1)), c5'.2.1, c5'.2.2, Sim.f chain ?_⟩
                      cases hs : stk with
                      | nil =>
                        intro Sr mm R P hP hg
                        obtain ⟨T, wr, sy, g, ow, bh, par, ks, lv, pe, lst, mx⟩ := mm.mx
                        exact absurd mx.2.2.2.2.2.2.2.2.2.1.1 (show ¬ (4 : Nat) = 0 by decide)
                      | cons f1 r1 => exact simF_no c0' rfl nb (fun z => by omega) (fun _ => e)
                  · rw [if_pos rfl, if_pos rfl]
                    obtain ⟨e, w0, w1, w2, w3, w4⟩ := bad5
                    exact h0 S5 ⟨e, w0, Keep.tr kc12 w1, w2, w3, Sim.f sim12 w4⟩
                · rw [if_pos rfl]
                  exact h0 S12 ⟨e, blk_kd e3, Keep.tr kc8 cf.1.cr, cf.2.1, cf.2.2, hf e e3⟩
            have M58 : ∀ Sr T wr sy g ow bh par ks lv pe lst, MX S Sr A B n p op N pc nd pq inm stk T wr sy g ow bh par ks lv pe lst → aI Sr 58 (A 58) dd = nI M := by
              intro Sr T wr sy g ow bh par ks lv pe lst mx
              obtain ⟨_, x, m, _, _, _, _, m5, _, _, m8, m9⟩ := mx.2.2.2.2.2.2.2.2.1.1.1 dd (by omega)
              rw [m8, four_n m5] at vM
              rw [m9, vM]
            have turn2 : ∀ (Sr : PS) (R : PS → Prop) (P : Int32 → PS → Prop) T wr sy g ow bh par ks lv pe lst, MX S Sr A B n p op N pc nd pq inm stk T wr sy g ow bh par ks lv pe lst → ClR A R P →
                (∀ r Sr1 Sr2 Sr3, blk B op q3 = .ok r → IA (sI Sr 101 (A 9) (nI (bl B p))) Sr1 A T op (ow (hdx stk)) (bl B p) lst → UN Sr1 Sr2 A T (nI dd) 0 q3 → aI Sr1 58 (A 58) dd = nI M → OB Sr2 Sr3 A (T + 1) op 4 (nI T) (nI (bl B q3)) r → Nx A P Sr3) →
                (∀ e Sr2, blk B op q3 = .error e → RFM Sr Sr2 A e → P 0 Sr2) → P 1 Sr := by
              intro Sr R P2 T wr sy g ow bh par ks lv pe lst mx hP2 y1 y0
              refine turn Sr R P2 T wr sy g ow bh par ks lv pe lst mx hP2 (fun a2 b2 q2 Sr1 Sr2 z1 ia un Q2 hQ2 => ?_) (fun e Sr2 z1 => by rw [hu] at z1; cases z1)
              rw [hu] at z1
              injection z1 with z1; injection z1 with w1 w2; injection w2 with w2 w3
              subst w1 w2 w3
              obtain ⟨e1, e2, e3, e4, e5', e6, e7⟩ := mx.pre (by omega)
              have rt := mx.1
              have nu := mx.2.1
              have a58 : aI Sr1 58 (A 58) dd = nI M := by
                rw [(ia.1.2.2 58 rfl).1]; exact M58 Sr T wr sy g ow bh par ks lv pe lst mx
              rw [if_pos rfl, nI_clamp (by omega), a58, if_neg (nI_nle (by omega) (by omega))]
              have km2 : KM Sr Sr2 := Keep.tr (Keep.tr (KR.m KR.pos) ia.km) un.km
              have f := fun j (hj : jI2 j = false) (hj2 : j ≠ 101) => (((un.1.2.1 j (by unfold jUs; rw [decide_eq_false_iff_not]; exact hj2)).1.trans (ia.1.2.1 j hj).1).trans (fI_sn Sr 101 (A 9) (nI (bl B p)) j hj2))
              refine r_openBlock (T := T + 1) (op := op) (rt.km km2) (by rw [f 102 rfl (by decide)]; exact nu.1) un.2.1 hq.2.1 (by rw [(un.1.2.1 113 rfl).1]; exact ia.2.2.1) (by omega) (by rw [f 134 rfl (by decide)]; exact e3) c5 (fun r Sr3 z1 ob => hQ2 Sr3 (y1 r Sr1 Sr2 Sr3 z1 ia un a58 ob)) (fun e Sr3 z1 z2 z3 => hQ2 Sr3 ⟨fun y => absurd y (by rw [z3.2.1]; exact z2.ne), fun _ => y0 e Sr3 z1 (RFM.of km2 z3.m)⟩)
            obtain ⟨t1, t2, t3, t4, t5, t6, t7, t8, t9, t10, t11, t12, t13, t14, t15⟩ := ci3
            refine key M 0 q3 (N + 1) pc nd S3 (by omega) hq.2.1 t1 t2 t4 t6 (by omega) t8 (by omega) t10 d2 t12 t13 (by omega) (by omega) (by omega) (fun _ => rfl) kc3 (fun z => by omega) (fun _ => ⟨fun r S8 S12 e3 co k12 => ?_, fun e e3 => ?_⟩)
            · intro Sr mm R P2 hP2 hg
              obtain ⟨T, wr, sy, g, ow, bh, par, ks, lv, pe, lst, mx⟩ := mm.mx
              refine turn2 Sr R P2 T wr sy g ow bh par ks lv pe lst mx hP2 (fun r2 Sr1 Sr2 Sr3 y1 ia un a58 ob => ?_) (fun e Sr2 y1 => by rw [e3] at y1; cases y1)
              rw [e3] at y1
              injection y1 with y1
              subst y1
              obtain ⟨e1, e2, e3', e4, e5', e6, e7⟩ := mx.pre (by omega)
              have rt := mx.1
              have nu := mx.2.1
              have hbk := blk_ok hB e3
              have rl : RLn Sr Sr2 A T wr sy (ow (hdx stk)) lst 10 (nI (bl B p)) (if (0 : Int32) = 0 then nI dd else -1 - nI dd) (if (0 : Int32) = 0 then aI Sr1 58 (A 58) (nI dd).toNatClampNeg else 0) (-1) 0 := (ia.rl (wr := wr) (sy := sy)).un un
              have k := un.1
              have km : KM Sr Sr3 := Keep.tr (Keep.tr (Keep.tr (KR.m KR.pos) ia.km) un.km) ob.km
              have f : ∀ j, jB j = false → jI2 j = false → j ≠ 101 → fI Sr3 j = fI Sr j := fun j j1 hj hj2 => by rw [(ob.1.2.1 j j1).1, (k.2.1 j (by unfold jUs; rw [decide_eq_false_iff_not]; exact hj2)).1, (ia.1.2.1 j hj).1, fI_sn _ _ _ _ _ hj2]
              have fa : ∀ x, rUs x = false → rIH x = false → aI Sr2 x = aI Sr x := fun x h1 h2 => ((k.2.2 x h1).1.trans (ia.1.2.2 x h2).1)
              have z102 : fI Sr3 102 (A 9) = 0 := by rw [f 102 rfl rfl (by decide)]; exact nu.1
              refine ⟨fun _ => hg Sr3 km ?_, fun y => absurd z102 y⟩
              have aI12 : aI S12 = aI S8 := by funext x; exact (k12.2.2 x rfl).1
              have aL12 : aL S12 = aL S8 := by funext x; exact (k12.2.2 x rfl).2
              have cd8 : CD S3 S12 A (N + 1) q3 pc 0 0 0 := by have := co.cd0; unfold CD at this ⊢; rw [aI12, aL12]; exact this
              refine mx.uopn (hb0 := rfl) (hM := fun d m' v1 v2 v3 v4 => by
                rw [nI_eq (by omega) (by omega)] at v1
                rw [← v1] at v4
                rw [v4, four_n v3, nI_eq (by omega) (by omega)] at vM
                exact vM.symm) (q := r) (pl := bl B p) (pl1 := q3) (m := M) (S1 := S3) (S2 := S12) (Sr1 := Sr2) (Sr2 := Sr3) (a := nI dd) (b := 0) (t := 0) (a3 := 0) (b3 := 0) (t3 := 0) hbk.2.2 (by omega) M1 M4 (rt.km km) (nu.of z102 ob.2.1 ob.2.2.1 (by have := nu.2.2.2.1; omega) (by rw [f 117 rfl rfl (by decide)]; exact nu.2.2.2.2.1) (by rw [f 120 rfl rfl (by decide)]; exact nu.2.2.2.2.2.1) nu.2.2.2.2.2.2.1 ob.2.2.2.1 (f 125 rfl rfl (by decide)) (f 126 rfl rfl (by decide)) (f 129 rfl rfl (by decide))) cd3 cd8 (by rw [aI12, (co.1.2.2 26 rfl).1, (hb3.1.2.2 26 rfl).1, (ho.1.2.2 26 rfl).1]; rfl) rl ob (fun x x1 x2 => fa x (by unfold rUs; rw [decide_eq_false_iff_not]; omega) (by unfold rIH; rw [decide_eq_false_iff_not]; omega)) (by rw [(k.2.2 64 rfl).1]; exact ia.2.2.2.2.2.2.2.2.2.2) (by rw [rl.2.2.2.1, uq_at, if_pos rfl, nI_clamp (by omega)]; exact a58) ⟨bl B p, by omega, by rw [cd3.1, uq_at], by rw [rl.1, uq_at]; rfl, Or.inr ⟨hlt, by rw [rl.2.1, uq_at], Or.inr (Or.inr (Or.inr (Or.inr (Or.inr (Or.inr ⟨rfl, rfl, hb, AtU.mk2 (a := nI dd) (b := 0) (Or.inr ⟨rfl, dd, by omega, rfl⟩) (by rw [cd3.2.2.1, uq_at]) (by rw [cd3.2.2.2.1, uq_at]) (by rw [rl.2.2.1, uq_at])⟩)))))⟩⟩ hq.2.1
            · intro Sr mm R P2 hP2 hg
              obtain ⟨T, wr, sy, g, ow, bh, par, ks, lv, pe, lst, mx⟩ := mm.mx
              refine turn2 Sr R P2 T wr sy g ow bh par ks lv pe lst mx hP2 (fun r2 Sr1 Sr2 Sr3 y1 => by rw [e3] at y1; cases y1) (fun e2 Sr2 y1 y2 => ?_)
              rw [e3] at y1
              injection y1 with y1
              subst y1
              exact hg Sr2 y2
    · rw [if_neg e5]
      rw [if_pos e5] at hu
      refine ⟨_, h2.1.f58, ?_⟩
      refine s_setNum (S0 := S10) (q := sc isLet B (bl B (bl B p + 1))) h2 k3 (by rw [(k3.2.1 45 rfl).1]; exact o4) (by omega) (by omega) f2 (fun S3 hb3 => ?_)
      exact leaf _ _ _ S3 hu hb3 (fun z => absurd z (by decide))
  · rw [if_pos rfl]
    rw [if_pos c] at hu
    exact bad _ S2 hu (Keep.tr o10 (KL.cr (Keep.tr KL.pos cf.1))) cf.2.1 cf.2.2
end
