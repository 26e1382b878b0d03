/-! Voices: both. -/
section
variable {S S10 S13 Sr : PS} {A : Nat → Nat} {B : Nat → Int32} {n p op N pc nd pq T : Nat} {inm : Bool} {stk : List (Nat × Nat × Nat × Nat × Nat)} {G : Int32 → PS → Prop} {Q : PS → Prop}
def rV (r : Nat) : Bool := decide (42 ≤ r ∧ r ≤ 49 ∨ 61 ≤ r ∧ r ≤ 64)
def jV (j : Nat) : Bool := decide (j = 113 ∨ j = 134)
/-- a [ is there, its first music is item T + 1 -/
def VN (S S1 : PS) (A : Nat → Nat) (T op : Nat) (pl : Int32) : Prop := Keep jV rV S S1 ∧ fI S1 113 (A 9) = nI (T + 2) ∧ fI S1 134 (A 9) = nI (op + 2) ∧ aI S1 42 (A 42) = uq (uq (aI S 42 (A 42)) T 7) (T + 1) 11 ∧ aI S1 43 (A 43) = uq (aI S 43 (A 43)) (T + 1) pl ∧ aI S1 44 (A 44) = uq (aI S 44 (A 44)) (T + 1) 0 ∧ aI S1 45 (A 45) = uq (aI S 45 (A 45)) (T + 1) 0 ∧ aI S1 46 (A 46) = uq (uq (aI S 46 (A 46)) (T + 1) (-1)) T (nI (T + 1)) ∧ aI S1 47 (A 47) = uq (aI S 47 (A 47)) (T + 1) (-1) ∧ aL S1 48 (A 48) = uq (aL S 48 (A 48)) (T + 1) 0 ∧ aI S1 49 (A 49) = uq (aI S 49 (A 49)) (T + 1) 0 ∧ aI S1 61 (A 61) = uq (aI S 61 (A 61)) (op + 1) 2 ∧ aI S1 62 (A 62) = uq (aI S 62 (A 62)) (op + 1) (nI T) ∧ aI S1 63 (A 63) = uq (aI S 63 (A 63)) (op + 1) (nI (T + 1)) ∧ aI S1 64 (A 64) = uq (aI S 64 (A 64)) (op + 1) (-1)
theorem VN.km {S1 : PS} {pl : Int32} (h : VN S S1 A T op pl) : KM S S1 := h.1.mono (fun j => by unfold jM jV; simp only [decide_eq_false_iff_not]; omega) (fun r => by unfold rM rV; simp only [decide_eq_false_iff_not]; omega)
theorem chn_91 {q : Nat} (h : RT S A B n) (hf : fI S 102 (A 9) = 0) (hp : fI S 101 (A 9) = nI (q + 1)) (hx : T + 1 < 3100) (hT : fI S 113 (A 9) = nI (T + 1)) (ho : fI S 134 (A 9) = nI (op + 1)) (hop : op ≤ 8) (hpl : aI S 43 (A 43) T = nI q)
    (h1 : op < 8 → ∀ S1, VN S S1 A T op (nI (q + 1)) → Q S1) (h0 : op = 8 → ∀ S1, RFM S S1 A (5, q) → Q S1) : chn (A 9) 91 (nI T) S Q := by
  unfold chn
  rw [if_neg (by decide), if_neg (by decide), if_neg (by decide), if_neg (by decide), if_neg (by decide), if_neg (by decide), if_neg (by decide), if_neg (by decide), if_pos rfl]
  unfold wp_X12_voicesAt
  refine ⟨_, h.1.f105, by rw [h.1.n42]; exact vp_in_nI (by omega) (by omega), ?_⟩
  rw [nI_clamp (by omega)]
  rintro _ rfl
  have k2 : KM S (wI S 42 (A 42) T 7) := Keep.rf.wI rfl
  have h2 := h.km k2
  rw [fI_wI, ho]
  by_cases c : op < 8
  · rw [if_neg (ceq_no 9 (by rfl) (by omega) (by omega) (by omega))]
    refine ⟨_, h2.1.f109, ?_⟩
    rw [hp]
    refine r_item (T := T + 1) h2.1 (by rw [fI_wI]; exact hT) hx (fun S1 i1 => ?_)
    obtain ⟨k, a1, a2, a3, a4, a5, a6, a7, a8, a9⟩ := i1
    have h3 := h2.1.st k.1
    refine ⟨by rw [h3.n46]; exact vp_in_nI (by omega) (by omega), ?_⟩
    rintro _ rfl
    refine ⟨_, h3.f109, by show vp_in _ (aN S1 (A 46)); rw [h3.n46]; exact vp_in_nI (by omega) (by omega), ?_⟩
    rw [aI_w, uq_at]
    refine r_openMusic (op := op + 1) (S := wI S1 46 (A 46) T (nI (T + 1))) (h3.st (Keep.rf.wI (J := jV) (R := rV) rfl).1) (by rw [fI_wI, (k.2.1 134 rfl).1, fI_wI]; exact ho) (by omega) (fun S3 om => ?_)
    obtain ⟨k3, b1, b2, b3, b4, b5⟩ := om
    have e42 : ∀ r, rO r = false → r ≠ 46 → aI S3 r = aI S1 r := fun r hr hr2 => by rw [(k3.2.2 r hr).1, aI_wn _ _ _ _ _ _ hr2]
    have e61 : ∀ r, rJ r = false → r ≠ 42 → aI (wI S1 46 (A 46) T (nI (T + 1))) r = aI S r := fun r hr hr2 => by rw [aI_wn _ _ _ _ _ _ (by intro z; subst z; cases hr), (k.2.2 r hr).1, aI_wn _ _ _ _ _ _ hr2]
    refine h1 c S3 ⟨?_, ?_, b1, ?_, ?_, ?_, ?_, ?_, ?_, ?_, ?_, ?_, ?_, ?_, ?_⟩
    · exact Keep.tr (Keep.rf.wI rfl) (Keep.tr (k.mono (J1 := jV) (R1 := rV) (fun j => by unfold jV jJ; simp only [decide_eq_false_iff_not]; omega) (fun r => by unfold rV rJ; simp only [decide_eq_false_iff_not]; omega)) (Keep.tr (Keep.rf.wI rfl) (k3.mono (fun j => by unfold jV jO; simp only [decide_eq_false_iff_not]; omega) (fun r => by unfold rV rO; simp only [decide_eq_false_iff_not]; omega))))
    · rw [(k3.2.1 113 rfl).1, fI_wI]; exact a1
    · rw [e42 42 rfl (by decide), a2, aI_w]
    · rw [e42 43 rfl (by decide), a3, aI_wn _ _ _ _ _ _ (by decide)]
    · rw [e42 44 rfl (by decide), a4, aI_wn _ _ _ _ _ _ (by decide)]
    · rw [e42 45 rfl (by decide), a5, aI_wn _ _ _ _ _ _ (by decide)]
    · rw [(k3.2.2 46 rfl).1, aI_w, a6, aI_wn _ _ _ _ _ _ (by decide)]
    · rw [e42 47 rfl (by decide), a7, aI_wn _ _ _ _ _ _ (by decide)]
    · rw [(k3.2.2 48 rfl).2, aL_wI, a8, aL_wI]
    · rw [e42 49 rfl (by decide), a9, aI_wn _ _ _ _ _ _ (by decide)]
    · rw [b2, e61 61 rfl (by decide)]
    · rw [b3, e61 62 rfl (by decide)]
    · rw [b4, e61 63 rfl (by decide)]
    · rw [b5, e61 64 rfl (by decide)]
  · have e8 : op = 8 := by omega
    rw [e8, if_pos (by decide)]
    refine ⟨_, h2.1.f106, by rw [h2.1.n43]; exact vp_in_nI (by omega) (by omega), ?_⟩
    rw [aI_wn _ _ _ _ _ _ (by decide), hpl]
    exact r_bad (k := 5) hf (fun S1 z => h0 e8 S1 (RFM.of k2 z.m))
theorem CO.cd0 {N pl pc : Nat} {S1 : PS} (h : CO S S1 A N pl pc) : CD S S1 A N pl pc 0 0 0 := by
  obtain ⟨k0, a1, a2, a3, a4, a5, a6, a7⟩ := h
  exact ⟨a2, a3, a4, a5, a6, a7, fun j _ => by rw [(k0.2.2 22 rfl).1], (k0.2.2 23 rfl).1, (k0.2.2 24 rfl).1, (k0.2.2 25 rfl).1⟩
theorem CO.ct {N pl pc : Nat} {S1 : PS} (h : CT S A B n) (g : CO S S1 A N pl pc) : CT S1 A B n := h.keep g.1 rfl rfl
theorem k_voices {d : Nat} (ci : CIv S A B n p op N pc nd pq inm) (hb : B (bl B p) = 91) (ho : CO (sI S 60 (A 6) (nI (bl B p))) S10 A N (bl B p) pc) (ih : SMu A B n d) (hd : d + (op + 1) = 10) (hst : inm = false → ∀ f, f ∈ stk → f.1 ≠ 3)
    (h1 : ∀ S13, IOk A B n S p op N pc nd pq inm stk S13 → G 1 S13) (h0 : ∀ S13, IBad A B n S p op N pc nd pq inm stk S13 → G 0 S13) : wp_X7_voices (wp_X7_music d) (A 6) S10 G := by
  have hB := ci.1.2.2.1
  have hn := hB.1
  have hge := bl_ge (B := B) (p := p)
  have hlt := hB.lt hb (by decide)
  have ci0 := ci
  obtain ⟨o1, o2, o3, o4, o5, o6, o7, o8, o9, o10⟩ := ci.o hlt ho
  obtain ⟨c1, c2, c3, c4, c5, c6, c7, c8, c9, d1, d2, d3, d4, d5, d6⟩ := ci
  have turn : ∀ (Sr : PS) (R : PS → Prop) (P : Int32 → PS → Prop) T wr sy g ow bh par ks lv pe lst, MX S Sr A B n p op N pc nd pq inm stk T wr sy g ow bh par ks lv pe lst → ClR A R P →
      (op < 8 → ∀ Sr1 Sr2, IA (sI Sr 101 (A 9) (nI (bl B p))) Sr1 A T op (ow (hdx stk)) (bl B p) lst → VN Sr1 Sr2 A T op (nI (bl B p + 1)) → Nx A P Sr2) → (op = 8 → ∀ Sr2, RFM Sr Sr2 A (5, bl B p) → P 0 Sr2) → P 1 Sr := by
    intro Sr R P T wr sy g ow bh par ks lv pe lst mx hP y1 y0
    obtain ⟨e1, e2, e3, e4, e5, e6, e7⟩ := mx.pre (by omega)
    have rt := mx.1
    have nu := mx.2.1
    refine it_item rt nu.2.1 c3 (by rw [hb]; decide) (by rw [hb]; decide) (by rw [hb]; decide) (by rw [hb]; decide) hP (fun Q2 hQ2 => ?_)
    refine r_ri rt.pos fI_at hlt (by rw [hb]; decide) (by rw [hb]; decide) (by rw [hb]; decide) (by simp only [fI_s, fI_sn, fL_s, fL_sn, aI_w, aI_wn, aL_w, aL_wn, fI_sL, fI_wI, fI_wL, fL_sI, fL_wI, fL_wL, aI_sI, aI_sL, aI_wL, aL_sI, aL_sL, aL_wI, fR_sI, fR_sL, fR_wI, fR_wL, aN_sI, aN_sL, aN_wI, aN_wL, ne_eq, Nat.reduceEqDiff, not_false_eq_true]; exact e1) (by omega) (by simp only [fI_s, fI_sn, fL_s, fL_sn, aI_w, aI_wn, aL_w, aL_wn, fI_sL, fI_wI, fI_wL, fL_sI, fL_wI, fL_wL, aI_sI, aI_sL, aI_wL, aL_sI, aL_sL, aL_wI, fR_sI, fR_sL, fR_wI, fR_wL, aN_sI, aN_sL, aN_wI, aN_wL, ne_eq, Nat.reduceEqDiff, not_false_eq_true]; exact e3) c5 e4 e5 e6 e7 (fun Sr1 ia => ?_)
    rw [hb]
    have km : KM Sr Sr1 := Keep.tr (KR.m KR.pos) ia.km
    refine chn_91 (op := op) (rt.km km) (by rw [(ia.1.2.1 102 rfl).1, fI_at2]; exact nu.1) ia.2.1 (by omega) ia.2.2.1 (by rw [(ia.1.2.1 134 rfl).1, fI_sn _ _ _ _ _ (by decide)]; exact e3) c5 (by rw [ia.2.2.2.2.1, uq_at]) (fun z Sr2 vn => hQ2 Sr2 (y1 z Sr1 Sr2 ia vn)) (fun z Sr2 rf => hQ2 Sr2 ⟨fun y => absurd y (by rw [rf.2.1]; exact nI_ne0 (by show 0 < 5; omega) (by show 5 < _; omega)), fun _ => y0 z Sr2 (RFM.of km rf)⟩)
  unfold wp_X7_voices
  rw [o3]
  by_cases c : op < 8
  · rw [if_pos (ltc_yes 8 (by rfl) c (by omega)), nI_1]
    rintro _ rfl
    intro P hP
    have key : ∀ m q i N4 pc4 nd4 S4, 1500 - q = m → q < n → i ≤ q → CT S4 A B n → fI S4 60 (A 6) = nI q → fI S4 61 (A 6) = nI (op + 1) → fI S4 45 (A 5) = nI N4 → N4 ≤ q + op + 1 → fI S4 53 (A 5) = nI pc4 → pc4 ≤ q → fI S4 54 (A 5) = nI nd4 → nd4 ≤ 20 → fI S4 62 (A 6) = mI inm → fI S4 64 (A 6) = nI pq → N < N4 → p ≤ q → N4 + p ≤ N + q + 1 → (inm = true → nd4 = nd) → KCr S S4 →
        (∀ S8, CO S4 S8 A N4 q pc4 → Sim A B n S p op N pc nd pq inm stk (sI S8 60 (A 6) (nI (q + 1))) (q + 1) (op + 1) (N4 + 1) pc4 nd4 pq inm ((2, N4 + 1, 0, N + 1, 0) :: stk)) → P (nI i) S4 := by
      intro m
      induction m using Nat.strongRecOn with
      | ind m ihm =>
        intro q i N4 pc4 nd4 S4 a1 a2 a3 a4 a5 a6 a7 a8 a9 b1 b2 b3 b4 b5 b6 b7 b10 b9 b8 hs
        apply hP
        rw [if_neg (clt_no 1500 (by rfl) (by omega) (by omega))]
        refine ⟨_, a4.1.f58, ?_⟩
        rw [a5]
        refine s_open a4.1 a7 (by omega) a9 (fun S8 co => ?_)
        have k8 := co.1
        have h8 := CO.ct a4 co
        rw [show fI S8 60 (A 6) = nI q by rw [(k8.2.1 60 rfl).1]; exact a5, nI_1]
        rintro _ rfl
        have kc8 : KCr S (sI S8 60 (A 6) (nI (q + 1))) := Keep.tr b8 (Keep.tr co.cr (KL.cr KL.pos))
        have ci8 : CIv (sI S8 60 (A 6) (nI (q + 1))) A B n (q + 1) (op + 1) (N4 + 1) pc4 nd4 pq inm := ⟨h8.pos, fI_pos, a2, by simp only [fI_s, fI_sn, fL_s, fL_sn, aI_w, aI_wn, aL_w, aL_wn, fI_sL, fI_wI, fI_wL, fL_sI, fL_wI, fL_wL, aI_sI, aI_sL, aI_wL, aL_sI, aL_sL, aL_wI, fR_sI, fR_sL, fR_wI, fR_wL, aN_sI, aN_sL, aN_wI, aN_wL, ne_eq, Nat.reduceEqDiff, not_false_eq_true]; rw [(k8.2.1 61 rfl).1]; exact a6, by omega, by simp only [fI_s, fI_sn, fL_s, fL_sn, aI_w, aI_wn, aL_w, aL_wn, fI_sL, fI_wI, fI_wL, fL_sI, fL_wI, fL_wL, aI_sI, aI_sL, aI_wL, aL_sI, aL_sL, aL_wI, fR_sI, fR_sL, fR_wI, fR_wL, aN_sI, aN_sL, aN_wI, aN_wL, ne_eq, Nat.reduceEqDiff, not_false_eq_true]; exact co.2.1, by omega, by simp only [fI_s, fI_sn, fL_s, fL_sn, aI_w, aI_wn, aL_w, aL_wn, fI_sL, fI_wI, fI_wL, fL_sI, fL_wI, fL_wL, aI_sI, aI_sL, aI_wL, aL_sI, aL_sL, aL_wI, fR_sI, fR_sL, fR_wI, fR_wL, aN_sI, aN_sL, aN_wI, aN_wL, ne_eq, Nat.reduceEqDiff, not_false_eq_true]; rw [(k8.2.1 53 rfl).1]; exact a9, by omega, by simp only [fI_s, fI_sn, fL_s, fL_sn, aI_w, aI_wn, aL_w, aL_wn, fI_sL, fI_wI, fI_wL, fL_sI, fL_wI, fL_wL, aI_sI, aI_sL, aI_wL, aL_sI, aL_sL, aL_wI, fR_sI, fR_sL, fR_wI, fR_wL, aN_sI, aN_sL, aN_wI, aN_wL, ne_eq, Nat.reduceEqDiff, not_false_eq_true]; rw [(k8.2.1 54 rfl).1]; exact b2, b3, by simp only [fI_s, fI_sn, fL_s, fL_sn, aI_w, aI_wn, aL_w, aL_wn, fI_sL, fI_wI, fI_wL, fL_sI, fL_wI, fL_wL, aI_sI, aI_sL, aI_wL, aL_sI, aL_sL, aL_wI, fR_sI, fR_sL, fR_wI, fR_wL, aN_sI, aN_sL, aN_wI, aN_wL, ne_eq, Nat.reduceEqDiff, not_false_eq_true]; rw [(k8.2.1 62 rfl).1]; exact b4, by simp only [fI_s, fI_sn, fL_s, fL_sn, aI_w, aI_wn, aL_w, aL_wn, fI_sL, fI_wI, fI_wL, fL_sI, fL_wI, fL_wL, aI_sI, aI_sL, aI_wL, aL_sI, aL_sL, aL_wI, fR_sI, fR_sL, fR_wI, fR_wL, aN_sI, aN_sL, aN_wI, aN_wL, ne_eq, Nat.reduceEqDiff, not_false_eq_true]; rw [(k8.2.1 64 rfl).1]; exact b5, d5, d6⟩
        have sim8 := hs S8 co
        refine ih (sI S8 60 (A 6) (nI (q + 1))) (q + 1) (op + 1) (N4 + 1) pc4 nd4 pq inm ((2, N4 + 1, 0, N + 1, 0) :: stk) _ hd ci8 (fun z f hf => ?_) (fun S0 p0 N0 pc0 nd0 c0 hp0 hN0 hgr0 hnd0 k0 nb sm => ?_) (fun S9 bad => ?_)
        · rcases List.mem_cons.mp hf with e | e
          · rw [e]; show (2 : Nat) ≠ 3; decide
          · exact hst z f e
        · rw [if_neg (by decide)]
          have c0' := c0
          obtain ⟨x1, x2, x3, x4, x5, x6, x7, x8, x9, y1, y2, y3, y4, y5, y6⟩ := c0
          have hb0 := bl_ge (B := B) (p := p0)
          have hb0n := bl_le hB x3
          have chain := Sim.tr sim8 sm
          refine ⟨_, x1.pos.1.f58, ?_⟩
          refine s_close (N := N0) (x := N4) x1.pos.1 (by simp only [fI_s, fI_sn, fL_s, fL_sn, aI_w, aI_wn, aL_w, aL_wn, fI_sL, fI_wI, fI_wL, fL_sI, fL_wI, fL_wL, aI_sI, aI_sL, aI_wL, aL_sI, aL_sL, aL_wI, fR_sI, fR_sL, fR_wI, fR_wL, aN_sI, aN_sL, aN_wI, aN_wL, ne_eq, Nat.reduceEqDiff, not_false_eq_true]; exact x6) (by omega) (by omega) ?_
          have h14 : CT (wI (sI S0 60 (A 6) (nI (bl B p0))) 17 (A 17) N4 (nI N0)) A B n := x1.cr ((Keep.rf.sI rfl).wI rfl)
          have k14 : KCr S (wI (sI S0 60 (A 6) (nI (bl B p0))) 17 (A 17) N4 (nI N0)) := Keep.tr kc8 (Keep.tr k0 ((Keep.rf.sI rfl).wI rfl))
          refine s_take h14 (by simp only [fI_s, fI_sn, fL_s, fL_sn, aI_w, aI_wn, aL_w, aL_wn, fI_sL, fI_wI, fI_wL, fL_sI, fL_wI, fL_wL, aI_sI, aI_sL, aI_wL, aL_sI, aL_sL, aL_wI, fR_sI, fR_sL, fR_wI, fR_wL, aN_sI, aN_sL, aN_wI, aN_wL, ne_eq, Nat.reduceEqDiff, not_false_eq_true]) hb0n (fun e => ?_) (fun e => ?_)
          · rw [if_neg (by decide)]
            have hlt0 := hB.lt e (by decide)
            have eo : fI (sI (wI (sI S0 60 (A 6) (nI (bl B p0))) 17 (A 17) N4 (nI N0)) 60 (A 6) (nI (bl B p0 + 1))) 61 (A 6) - 1 = nI op := by simp only [fI_s, fI_sn, fL_s, fL_sn, aI_w, aI_wn, aL_w, aL_wn, fI_sL, fI_wI, fI_wL, fL_sI, fL_wI, fL_wL, aI_sI, aI_sL, aI_wL, aL_sI, aL_sL, aL_wI, fR_sI, fR_sL, fR_wI, fR_wL, aN_sI, aN_sL, aN_wI, aN_wL, ne_eq, Nat.reduceEqDiff, not_false_eq_true]; rw [x4]; exact nI_pred op
            rw [eo]
            rintro _ rfl
            refine h1 _ ⟨bl B p0 + 1, N0, pc0, nd0, by omega, by omega, by omega, fun z => (hnd0 z).trans (b9 z), ⟨x1.cr ((((Keep.rf.sI rfl).wI rfl).sI rfl).sI rfl), by simp only [fI_s, fI_sn, fL_s, fL_sn, aI_w, aI_wn, aL_w, aL_wn, fI_sL, fI_wI, fI_wL, fL_sI, fL_wI, fL_wL, aI_sI, aI_sL, aI_wL, aL_sI, aL_sL, aL_wI, fR_sI, fR_sL, fR_wI, fR_wL, aN_sI, aN_sL, aN_wI, aN_wL, ne_eq, Nat.reduceEqDiff, not_false_eq_true], hlt0, by simp only [fI_s, fI_sn, fL_s, fL_sn, aI_w, aI_wn, aL_w, aL_wn, fI_sL, fI_wI, fI_wL, fL_sI, fL_wI, fL_wL, aI_sI, aI_sL, aI_wL, aL_sI, aL_sL, aL_wI, fR_sI, fR_sL, fR_wI, fR_wL, aN_sI, aN_sL, aN_wI, aN_wL, ne_eq, Nat.reduceEqDiff, not_false_eq_true], c5, by simp only [fI_s, fI_sn, fL_s, fL_sn, aI_w, aI_wn, aL_w, aL_wn, fI_sL, fI_wI, fI_wL, fL_sI, fL_wI, fL_wL, aI_sI, aI_sL, aI_wL, aL_sI, aL_sL, aL_wI, fR_sI, fR_sL, fR_wI, fR_wL, aN_sI, aN_sL, aN_wI, aN_wL, ne_eq, Nat.reduceEqDiff, not_false_eq_true]; exact x6, by omega, by simp only [fI_s, fI_sn, fL_s, fL_sn, aI_w, aI_wn, aL_w, aL_wn, fI_sL, fI_wI, fI_wL, fL_sI, fL_wI, fL_wL, aI_sI, aI_sL, aI_wL, aL_sI, aL_sL, aL_wI, fR_sI, fR_sL, fR_wI, fR_wL, aN_sI, aN_sL, aN_wI, aN_wL, ne_eq, Nat.reduceEqDiff, not_false_eq_true]; exact x8, by omega, by simp only [fI_s, fI_sn, fL_s, fL_sn, aI_w, aI_wn, aL_w, aL_wn, fI_sL, fI_wI, fI_wL, fL_sI, fL_wI, fL_wL, aI_sI, aI_sL, aI_wL, aL_sI, aL_sL, aL_wI, fR_sI, fR_sL, fR_wI, fR_wL, aN_sI, aN_sL, aN_wI, aN_wL, ne_eq, Nat.reduceEqDiff, not_false_eq_true]; exact y1, y2, by simp only [fI_s, fI_sn, fL_s, fL_sn, aI_w, aI_wn, aL_w, aL_wn, fI_sL, fI_wI, fI_wL, fL_sI, fL_wI, fL_wL, aI_sI, aI_sL, aI_wL, aL_sI, aL_sL, aL_wI, fR_sI, fR_sL, fR_wI, fR_wL, aN_sI, aN_sL, aN_wI, aN_wL, ne_eq, Nat.reduceEqDiff, not_false_eq_true]; exact y3, by simp only [fI_s, fI_sn, fL_s, fL_sn, aI_w, aI_wn, aL_w, aL_wn, fI_sL, fI_wI, fI_wL, fL_sI, fL_wI, fL_wL, aI_sI, aI_sL, aI_wL, aL_sI, aL_sL, aL_wI, fR_sI, fR_sL, fR_wI, fR_wL, aN_sI, aN_sL, aN_wI, aN_wL, ne_eq, Nat.reduceEqDiff, not_false_eq_true]; exact y4, d5, d6⟩, Keep.tr k14 ((Keep.rf.sI rfl).sI rfl), ?_⟩
            refine Sim.tr chain ?_
            intro Sr mm R P2 hP2 hg
            obtain ⟨T, wr, sy, g, ow, bh, par, ks, lv, pe, lst, mx⟩ := mm.mx
            obtain ⟨e1, e2, e3', e4, e5, e6, e7⟩ := mx.pre (by omega)
            have rt := mx.1
            have nu := mx.2.1
            cases hstk : stk with
            | nil => rw [hstk] at mx; exact absurd mx.2.2.2.2.2.2.2.2.2.1.1 (show ¬ (2 : Nat) = 0 by decide)
            | cons f1 r1 =>
              rw [hstk] at mx
              have sk2 := mx.2.2.2.2.2.2.2.2.2.1.two
              have hlen := mx.2.2.2.2.2.2.2.2.2.2.1
              have hr1 : r1.length = op := by simpa using hlen
              have s61 : aI Sr 61 (A 61) (op + 1) = nI 2 := by rw [← hr1]; exact sk2.2.2.2.1
              refine it_ends rt nu.2.1 x3 (Or.inr (Or.inr (Or.inl e))) e3' (by omega) s61 (by omega) hP2 (fun z => by omega) (fun _ Q2 hQ2 => ?_)
              refine r_endOk rt.pos fI_at (by simp only [fI_s, fI_sn, fL_s, fL_sn, aI_w, aI_wn, aL_w, aL_wn, fI_sL, fI_wI, fI_wL, fL_sI, fL_wI, fL_wL, aI_sI, aI_sL, aI_wL, aL_sI, aL_sL, aL_wI, fR_sI, fR_sL, fR_wI, fR_wL, aN_sI, aN_sL, aN_wI, aN_wL, ne_eq, Nat.reduceEqDiff, not_false_eq_true]; exact e3') (by omega) s61 (by omega) rfl rfl (Or.inl ⟨rfl, e⟩) (fun z => absurd (e.symm.trans z) (by decide)) (fun z => by omega) (fun z => by omega) (fun _ _ _ => ?_)
              rw [sI_sI]
              refine hQ2 _ ⟨fun _ => hg _ ((Keep.rf.sI rfl).sI rfl) ?_, fun z => absurd (show fI (sI (sI Sr 101 (A 9) (nI (bl B p0 + 1))) 134 (A 9) (nI (op + 1))) 102 (A 9) = 0 by simp only [fI_s, fI_sn, fL_s, fL_sn, aI_w, aI_wn, aL_w, aL_wn, fI_sL, fI_wI, fI_wL, fL_sI, fL_wI, fL_wL, aI_sI, aI_sL, aI_wL, aL_sI, aL_sL, aL_wI, fR_sI, fR_sL, fR_wI, fR_wL, aN_sI, aN_sL, aN_wI, aN_wL, ne_eq, Nat.reduceEqDiff, not_false_eq_true]; exact nu.1) z⟩
              rw [hstk]
              have hpx : par (N4 + 1) = N + 1 := sk2.2.2.2.2.2.2.2.2.2.2.2.2.2.2.2
              refine mx.vend (q := bl B p0 + 1) (S1 := wI S0 17 (A 17) (N4 + 1 - 1) (nI N0)) (Sr1 := sI (sI Sr 101 (A 9) (nI (bl B p0 + 1))) 134 (A 9) (nI (op + 1))) (by omega) rfl ⟨fun x e he z1 z2 z3 z4 => by rw [aI_wn _ _ _ _ _ _ z1, aI_sI, aI_sI, aI_wn _ _ _ _ _ _ z1, aI_wn _ _ _ _ _ _ z1]; rfl, fun e he => rfl, fun k hk => by rw [aI_wn _ _ _ _ _ _ (by decide), aI_sI, aI_sI, aI_wn _ _ _ _ _ _ (by decide), aI_wn _ _ _ _ _ _ (by decide)]; rfl⟩ ?_ (fun x z1 z2 => by rw [aI_wn _ _ _ _ _ _ (by omega), aI_sI, aI_sI, aI_wn _ _ _ _ _ _ (by omega)]; rfl) (rt.km ((Keep.rf.sI rfl).sI rfl)) (nu.of (by simp only [fI_s, fI_sn, fL_s, fL_sn, aI_w, aI_wn, aL_w, aL_wn, fI_sL, fI_wI, fI_wL, fL_sI, fL_wI, fL_wL, aI_sI, aI_sL, aI_wL, aL_sI, aL_sL, aL_wI, fR_sI, fR_sL, fR_wI, fR_wL, aN_sI, aN_sL, aN_wI, aN_wL, ne_eq, Nat.reduceEqDiff, not_false_eq_true]; exact nu.1) (by simp only [fI_s, fI_sn, fL_s, fL_sn, aI_w, aI_wn, aL_w, aL_wn, fI_sL, fI_wI, fI_wL, fL_sI, fL_wI, fL_wL, aI_sI, aI_sL, aI_wL, aL_sI, aL_sL, aL_wI, fR_sI, fR_sL, fR_wI, fR_wL, aN_sI, aN_sL, aN_wI, aN_wL, ne_eq, Nat.reduceEqDiff, not_false_eq_true]) (by simp only [fI_s, fI_sn, fL_s, fL_sn, aI_w, aI_wn, aL_w, aL_wn, fI_sL, fI_wI, fI_wL, fL_sI, fL_wI, fL_wL, aI_sI, aI_sL, aI_wL, aL_sI, aL_sL, aL_wI, fR_sI, fR_sL, fR_wI, fR_wL, aN_sI, aN_sL, aN_wI, aN_wL, ne_eq, Nat.reduceEqDiff, not_false_eq_true]; exact e1) nu.2.2.2.1 (by simp only [fI_s, fI_sn, fL_s, fL_sn, aI_w, aI_wn, aL_w, aL_wn, fI_sL, fI_wI, fI_wL, fL_sI, fL_wI, fL_wL, aI_sI, aI_sL, aI_wL, aL_sI, aL_sL, aL_wI, fR_sI, fR_sL, fR_wI, fR_wL, aN_sI, aN_sL, aN_wI, aN_wL, ne_eq, Nat.reduceEqDiff, not_false_eq_true]; exact nu.2.2.2.2.1) (by simp only [fI_s, fI_sn, fL_s, fL_sn, aI_w, aI_wn, aL_w, aL_wn, fI_sL, fI_wI, fI_wL, fL_sI, fL_wI, fL_wL, aI_sI, aI_sL, aI_wL, aL_sI, aL_sL, aL_wI, fR_sI, fR_sL, fR_wI, fR_wL, aN_sI, aN_sL, aN_wI, aN_wL, ne_eq, Nat.reduceEqDiff, not_false_eq_true]; exact nu.2.2.2.2.2.1) nu.2.2.2.2.2.2.1 (by simp only [fI_s, fI_sn, fL_s, fL_sn, aI_w, aI_wn, aL_w, aL_wn, fI_sL, fI_wI, fI_wL, fL_sI, fL_wI, fL_wL, aI_sI, aI_sL, aI_wL, aL_sI, aL_sL, aL_wI, fR_sI, fR_sL, fR_wI, fR_wL, aN_sI, aN_sL, aN_wI, aN_wL, ne_eq, Nat.reduceEqDiff, not_false_eq_true]) (by simp only [fI_s, fI_sn, fL_s, fL_sn, aI_w, aI_wn, aL_w, aL_wn, fI_sL, fI_wI, fI_wL, fL_sI, fL_wI, fL_wL, aI_sI, aI_sL, aI_wL, aL_sI, aL_sL, aL_wI, fR_sI, fR_sL, fR_wI, fR_wL, aN_sI, aN_sL, aN_wI, aN_wL, ne_eq, Nat.reduceEqDiff, not_false_eq_true]) (by simp only [fI_s, fI_sn, fL_s, fL_sn, aI_w, aI_wn, aL_w, aL_wn, fI_sL, fI_wI, fI_wL, fL_sI, fL_wI, fL_wL, aI_sI, aI_sL, aI_wL, aL_sI, aL_sL, aL_wI, fR_sI, fR_sL, fR_wI, fR_wL, aN_sI, aN_sL, aN_wI, aN_wL, ne_eq, Nat.reduceEqDiff, not_false_eq_true]) (by simp only [fI_s, fI_sn, fL_s, fL_sn, aI_w, aI_wn, aL_w, aL_wn, fI_sL, fI_wI, fI_wL, fL_sI, fL_wI, fL_wL, aI_sI, aI_sL, aI_wL, aL_sI, aL_sL, aL_wI, fR_sI, fR_sL, fR_wI, fR_wL, aN_sI, aN_sL, aN_wI, aN_wL, ne_eq, Nat.reduceEqDiff, not_false_eq_true])) rfl rfl
              rw [hpx, aI_w, aI_sI, aI_sI, aI_w, aI_w, Nat.add_sub_cancel, Nat.add_sub_cancel]; rfl
          · rw [if_pos rfl]
            refine s_next h14 (by simp only [fI_s, fI_sn, fL_s, fL_sn, aI_w, aI_wn, aL_w, aL_wn, fI_sL, fI_wI, fI_wL, fL_sI, fL_wI, fL_wL, aI_sI, aI_sL, aI_wL, aL_sI, aL_sL, aL_wI, fR_sI, fR_sL, fR_wI, fR_wL, aN_sI, aN_sL, aN_wI, aN_wL, ne_eq, Nat.reduceEqDiff, not_false_eq_true]) hb0n ?_
            by_cases e47 : B (bl B p0) = 47
            · rw [if_pos e47]
              rintro _ rfl
              rw [nI_1]
              have hlt0 := hB.lt e47 (by decide)
              refine ihm (1500 - bl B p0) (by omega) (bl B p0) (i + 1) N0 pc0 nd0 _ rfl hlt0 (by omega) h14 (by simp only [fI_s, fI_sn, fL_s, fL_sn, aI_w, aI_wn, aL_w, aL_wn, fI_sL, fI_wI, fI_wL, fL_sI, fL_wI, fL_wL, aI_sI, aI_sL, aI_wL, aL_sI, aL_sL, aL_wI, fR_sI, fR_sL, fR_wI, fR_wL, aN_sI, aN_sL, aN_wI, aN_wL, ne_eq, Nat.reduceEqDiff, not_false_eq_true]) (by simp only [fI_s, fI_sn, fL_s, fL_sn, aI_w, aI_wn, aL_w, aL_wn, fI_sL, fI_wI, fI_wL, fL_sI, fL_wI, fL_wL, aI_sI, aI_sL, aI_wL, aL_sI, aL_sL, aL_wI, fR_sI, fR_sL, fR_wI, fR_wL, aN_sI, aN_sL, aN_wI, aN_wL, ne_eq, Nat.reduceEqDiff, not_false_eq_true]; exact x4) (by simp only [fI_s, fI_sn, fL_s, fL_sn, aI_w, aI_wn, aL_w, aL_wn, fI_sL, fI_wI, fI_wL, fL_sI, fL_wI, fL_wL, aI_sI, aI_sL, aI_wL, aL_sI, aL_sL, aL_wI, fR_sI, fR_sL, fR_wI, fR_wL, aN_sI, aN_sL, aN_wI, aN_wL, ne_eq, Nat.reduceEqDiff, not_false_eq_true]; exact x6) (by omega) (by simp only [fI_s, fI_sn, fL_s, fL_sn, aI_w, aI_wn, aL_w, aL_wn, fI_sL, fI_wI, fI_wL, fL_sI, fL_wI, fL_wL, aI_sI, aI_sL, aI_wL, aL_sI, aL_sL, aL_wI, fR_sI, fR_sL, fR_wI, fR_wL, aN_sI, aN_sL, aN_wI, aN_wL, ne_eq, Nat.reduceEqDiff, not_false_eq_true]; exact x8) (by omega) (by simp only [fI_s, fI_sn, fL_s, fL_sn, aI_w, aI_wn, aL_w, aL_wn, fI_sL, fI_wI, fI_wL, fL_sI, fL_wI, fL_wL, aI_sI, aI_sL, aI_wL, aL_sI, aL_sL, aL_wI, fR_sI, fR_sL, fR_wI, fR_wL, aN_sI, aN_sL, aN_wI, aN_wL, ne_eq, Nat.reduceEqDiff, not_false_eq_true]; exact y1) y2 (by simp only [fI_s, fI_sn, fL_s, fL_sn, aI_w, aI_wn, aL_w, aL_wn, fI_sL, fI_wI, fI_wL, fL_sI, fL_wI, fL_wL, aI_sI, aI_sL, aI_wL, aL_sI, aL_sL, aL_wI, fR_sI, fR_sL, fR_wI, fR_wL, aN_sI, aN_sL, aN_wI, aN_wL, ne_eq, Nat.reduceEqDiff, not_false_eq_true]; exact y3) (by simp only [fI_s, fI_sn, fL_s, fL_sn, aI_w, aI_wn, aL_w, aL_wn, fI_sL, fI_wI, fI_wL, fL_sI, fL_wI, fL_wL, aI_sI, aI_sL, aI_wL, aL_sI, aL_sL, aL_wI, fR_sI, fR_sL, fR_wI, fR_wL, aN_sI, aN_sL, aN_wI, aN_wL, ne_eq, Nat.reduceEqDiff, not_false_eq_true]; exact y4) (by omega) (by omega) (by omega) (fun z => (hnd0 z).trans (b9 z)) k14 (fun S18 co2 => ?_)
              refine Sim.tr chain ?_
              intro Sr mm R P2 hP2 hg
              obtain ⟨T, wr, sy, g, ow, bh, par, ks, lv, pe, lst, mx⟩ := mm.mx
              obtain ⟨e1, e2, e3', e4, e5, e6, e7⟩ := mx.pre (by omega)
              have rt := mx.1
              have nu := mx.2.1
              cases hstk : stk with
              | nil => rw [hstk] at mx; exact absurd mx.2.2.2.2.2.2.2.2.2.1.1 (show ¬ (2 : Nat) = 0 by decide)
              | cons f1 r1 =>
                rw [hstk] at mx
                have sk2 := mx.2.2.2.2.2.2.2.2.2.1.two
                have hlen := mx.2.2.2.2.2.2.2.2.2.2.1
                have hr1 : r1.length = op := by simpa using hlen
                have s61 : aI Sr 61 (A 61) (op + 1) = nI 2 := by rw [← hr1]; exact sk2.2.2.2.1
                have s62 : aI Sr 62 (A 62) (op + 1) = nI (g (par (N4 + 1))) := by rw [← hr1]; exact sk2.2.2.2.2.2.1
                have tre := mx.2.2.1
                have att := mx.2.2.2.2.2.2.1 (N4 + 1) sk2.1 sk2.2.1
                have hks : ks (N4 + 1) = 11 := sk2.2.2.2.2.2.2.2.2.2.2.2.2.1
                have how : ow (N4 + 1) = g (N4 + 1) := by
                  obtain ⟨pl, w1, w2, w3, w4⟩ := att
                  rw [hks] at w4
                  rcases w4 with w4 | ⟨w5, w6, w7⟩
                  · exact w4.2
                  · rcases w7 with z | z | z | z | z | z | z
                    · exact absurd z.1 (by decide)
                    · exact absurd z.1 (by decide)
                    · rcases z.1 with y | y
                      · exact absurd y.2.1 (by decide)
                      · rcases y.1 with y | y | y | y <;> exact absurd y.2 (by decide)
                    · exact absurd z.1 (by decide)
                    · exact absurd z.1 (by decide)
                    · exact absurd z.1 (by decide)
                    · exact absurd z.1 (by decide)
                have s63 : aI Sr 63 (A 63) (op + 1) = nI (g (N4 + 1)) := by rw [← hr1, ← how]; exact sk2.2.2.2.2.1
                have hgx := tre.glt sk2.2.1
                refine it_ends rt nu.2.1 x3 (Or.inr (Or.inr (Or.inr e47))) e3' (by omega) s61 (by omega) hP2 (fun z => by omega) (fun _ Q2 hQ2 => ?_)
                refine r_endOk rt.pos fI_at (by simp only [fI_s, fI_sn, fL_s, fL_sn, aI_w, aI_wn, aL_w, aL_wn, fI_sL, fI_wI, fI_wL, fL_sI, fL_wI, fL_wL, aI_sI, aI_sL, aI_wL, aL_sI, aL_sL, aL_wI, fR_sI, fR_sL, fR_wI, fR_wL, aN_sI, aN_sL, aN_wI, aN_wL, ne_eq, Nat.reduceEqDiff, not_false_eq_true]; exact e3') (by omega) s61 (by omega) s62 s63 (Or.inr (Or.inl ⟨rfl, e47⟩)) (fun _ => ?_) (fun z => by omega) (fun z => by omega) (fun _ _ z => absurd e47 z)
                rw [sI_sI]
                have rt14 : RT (sI (sI Sr 101 (A 9) (nI (bl B p0 + 1))) 134 (A 9) (nI (op + 1))) A B n := rt.km ((Keep.rf.sI rfl).sI rfl)
                refine r_item (T := T) rt14.1 (by simp only [fI_s, fI_sn, fL_s, fL_sn, aI_w, aI_wn, aL_w, aL_wn, fI_sL, fI_wI, fI_wL, fL_sI, fL_wI, fL_wL, aI_sI, aI_sL, aI_wL, aL_sI, aL_sL, aL_wI, fR_sI, fR_sL, fR_wI, fR_wL, aN_sI, aN_sL, aN_wI, aN_wL, ne_eq, Nat.reduceEqDiff, not_false_eq_true]; exact e1) (by omega) (fun Sr1 i1 => ?_)
                obtain ⟨k, v1, v2, v3, v4, v5, v6, v7, v8, v9⟩ := i1
                have l1 := rt14.1.st k.1
                refine ⟨_, l1.f110, by rw [l1.n47]; exact vp_in_nI (by omega) (by omega), ?_⟩
                rw [nI_clamp (by omega)]
                rintro _ rfl
                refine r_openMusic (op := op + 1) (S := wI Sr1 47 (A 47) (g (N4 + 1)) (nI T)) (l1.st (Keep.rf.wI (J := jV) (R := rV) rfl).1) (by rw [fI_wI, (k.2.1 134 rfl).1]; simp only [fI_s, fI_sn, fL_s, fL_sn, aI_w, aI_wn, aL_w, aL_wn, fI_sL, fI_wI, fI_wL, fL_sI, fL_wI, fL_wL, aI_sI, aI_sL, aI_wL, aL_sI, aL_sL, aL_wI, fR_sI, fR_sL, fR_wI, fR_wL, aN_sI, aN_sL, aN_wI, aN_wL, ne_eq, Nat.reduceEqDiff, not_false_eq_true]) (by omega) (fun Sr3 om => ?_)
                obtain ⟨k3, u1, u2, u3, u4, u5⟩ := om
                have f3 : ∀ j, jO j = false → jJ j = false → j ≠ 101 → j ≠ 134 → fI Sr3 j = fI Sr j := fun j j1 j2 j3 j4 => by rw [(k3.2.1 j j1).1, fI_wI, (k.2.1 j j2).1, fI_sn _ _ _ _ _ j4, fI_sn _ _ _ _ _ j3]
                have fa : ∀ x, rO x = false → rJ x = false → aI Sr3 x = aI Sr x := fun x z1 z2 => by rw [(k3.2.2 x z1).1, aI_wn _ _ _ _ _ _ (by intro z; subst z; cases z2), (k.2.2 x z2).1]; rfl
                have z102 : fI Sr3 102 (A 9) = 0 := by rw [f3 102 rfl rfl (by decide) (by decide)]; exact nu.1
                have km : KM Sr Sr3 := Keep.tr (Keep.tr ((Keep.rf.sI rfl).sI rfl) (k.mono (J1 := jM) (R1 := rM) (fun j => by unfold jM jJ; simp only [decide_eq_false_iff_not]; omega) (fun r => by unfold rM rJ; simp only [decide_eq_false_iff_not]; omega))) (Keep.tr (Keep.rf.wI rfl) (k3.mono (fun j => by unfold jM jO; simp only [decide_eq_false_iff_not]; omega) (fun r => by unfold rM rO; simp only [decide_eq_false_iff_not]; omega)))
                refine hQ2 _ ⟨fun _ => hg _ km ?_, fun z => absurd z102 z⟩
                have hpx : par (N4 + 1) = N + 1 := sk2.2.2.2.2.2.2.2.2.2.2.2.2.2.2.2
                have cd2 := co2.cd0
                have o47 : ∀ r, rO r = false → r ≠ 47 → aI Sr3 r = aI Sr1 r := fun r z1 z2 => by rw [(k3.2.2 r z1).1, aI_wn _ _ _ _ _ _ z2]
                have o61 : ∀ r, rJ r = false → aI (wI Sr1 47 (A 47) (g (N4 + 1)) (nI T)) r = aI Sr r := fun r z1 => by rw [aI_wn _ _ _ _ _ _ (by intro z; subst z; cases z1), (k.2.2 r z1).1]; rfl
                have := mx.vnxt (q := bl B p0 + 1) (pl := bl B p0) (a := 0) (b := 0) (t := 0) (S1 := wI S0 17 (A 17) (N4 + 1 - 1) (nI N0)) (S2 := sI S18 60 (A 6) (nI (bl B p0 + 1))) (Sr2 := Sr3) (by omega) (by omega) rfl (by
                  have e9 : N4 + 1 - 1 = N4 := by omega
                  rw [e9]
                  exact cd2) (by rw [aI_sI, (co2.1.2.2 26 rfl).1, aI_wn _ _ _ _ _ _ (by decide)]; rfl) hb0n (rt.km km) (nu.of z102 (by rw [(k3.2.1 101 rfl).1, fI_wI, (k.2.1 101 rfl).1]; simp only [fI_s, fI_sn, fL_s, fL_sn, aI_w, aI_wn, aL_w, aL_wn, fI_sL, fI_wI, fI_wL, fL_sI, fL_wI, fL_wL, aI_sI, aI_sL, aI_wL, aL_sI, aL_sL, aL_wI, fR_sI, fR_sL, fR_wI, fR_wL, aN_sI, aN_sL, aN_wI, aN_wL, ne_eq, Nat.reduceEqDiff, not_false_eq_true]) (by rw [(k3.2.1 113 rfl).1, fI_wI]; exact v1) (by have := nu.2.2.2.1; omega) (by rw [f3 117 rfl rfl (by decide) (by decide)]; exact nu.2.2.2.2.1) (by rw [f3 120 rfl rfl (by decide) (by decide)]; exact nu.2.2.2.2.2.1) nu.2.2.2.2.2.2.1 u1 (f3 125 rfl rfl (by decide) (by decide)) (f3 126 rfl rfl (by decide) (by decide)) (f3 129 rfl rfl (by decide) (by decide))) ⟨fun x i hi w1 w2 w3 w4 w5 => ?_, fun i hi => by rw [(k3.2.2 48 rfl).2, aL_wI, v8, uq_ne (by omega)]; rfl, fun x i hi w1 w2 => by rw [fa x (by unfold rO; rw [decide_eq_false_iff_not]; omega) (by unfold rJ; rw [decide_eq_false_iff_not]; omega)], fun x i hi w1 w2 => by rw [fa x (by unfold rO; rw [decide_eq_false_iff_not]; omega) (by unfold rJ; rw [decide_eq_false_iff_not]; omega)]⟩ (by rw [o47 42 rfl (by decide), v2, uq_at]) (fun i w => by rw [o47 46 rfl (by decide), v6, uq_ne w]; rfl) (by rw [o47 46 rfl (by decide), v6, uq_at]) (fun i w1 w2 => by rw [(k3.2.2 47 rfl).1, aI_w, uq_ne w2, v7, uq_ne w1]; rfl) (by rw [(k3.2.2 47 rfl).1, aI_w, uq_ne (by omega), v7, uq_at]) (by rw [(k3.2.2 47 rfl).1, aI_w, uq_at]) (fun x w1 w2 => fa x (by unfold rO; rw [decide_eq_false_iff_not]; omega) (by unfold rJ; rw [decide_eq_false_iff_not]; omega)) (by rw [u2, o61 61 rfl]) (by rw [u3, o61 62 rfl]) (by rw [u4, o61 63 rfl]) (by rw [u5, o61 64 rfl])
                · rw [hpx] at this
                  rw [hstk]; exact this
                · have hx : x = 42 ∨ x = 43 ∨ x = 44 ∨ x = 45 ∨ x = 49 := by omega
                  rcases hx with rfl | rfl | rfl | rfl | rfl
                  · rw [o47 42 rfl (by decide), v2, uq_ne (by omega)]; rfl
                  · rw [o47 43 rfl (by decide), v3, uq_ne (by omega)]; rfl
                  · rw [o47 44 rfl (by decide), v4, uq_ne (by omega)]; rfl
                  · rw [o47 45 rfl (by decide), v5, uq_ne (by omega)]; rfl
                  · rw [o47 49 rfl (by decide), v9, uq_ne (by omega)]; rfl
            · rw [if_neg e47]
              refine s_refuse (p := bl B p0) h14 (by simp only [fI_s, fI_sn, fL_s, fL_sn, aI_w, aI_wn, aL_w, aL_wn, fI_sL, fI_wI, fI_wL, fL_sI, fL_wI, fL_wL, aI_sI, aI_sL, aI_wL, aL_sI, aL_sL, aL_wI, fR_sI, fR_sL, fR_wI, fR_wL, aN_sI, aN_sL, aN_wI, aN_wL, ne_eq, Nat.reduceEqDiff, not_false_eq_true]) (fun S15 cf => ?_)
              refine h0 S15 ⟨(1, bl B p0), kdm (by decide) (by decide), Keep.tr k14 cf.1.cr, cf.2.1, cf.2.2, Sim.f chain ?_⟩
              cases hstk : stk with
              | nil =>
                intro Sr mm R P2 hP2 hg
                obtain ⟨T, wr, sy, g, ow, bh, par, ks, lv, pe, lst, mx⟩ := mm.mx
                exact absurd mx.2.2.2.2.2.2.2.2.2.1.1 (show ¬ (2 : Nat) = 0 by decide)
              | cons f1 r1 => exact simF_no c0' rfl nb (fun _ => ⟨e, e47⟩) (fun z => absurd rfl z)
        · rw [if_pos rfl]
          obtain ⟨e, w0, w1, w2, w3, w4⟩ := bad
          exact h0 S9 ⟨e, w0, Keep.tr kc8 w1, w2, w3, Sim.f sim8 w4⟩
    refine key _ (bl B p) 0 (N + 1) pc nd (sI S10 61 (A 6) (nI (op + 1))) rfl hlt (Nat.zero_le _) (o1.cr (Keep.rf.sI rfl)) (by simp only [fI_s, fI_sn, fL_s, fL_sn, aI_w, aI_wn, aL_w, aL_wn, fI_sL, fI_wI, fI_wL, fL_sI, fL_wI, fL_wL, aI_sI, aI_sL, aI_wL, aL_sI, aL_sL, aL_wI, fR_sI, fR_sL, fR_wI, fR_wL, aN_sI, aN_sL, aN_wI, aN_wL, ne_eq, Nat.reduceEqDiff, not_false_eq_true]; exact o2) (by simp only [fI_s, fI_sn, fL_s, fL_sn, aI_w, aI_wn, aL_w, aL_wn, fI_sL, fI_wI, fI_wL, fL_sI, fL_wI, fL_wL, aI_sI, aI_sL, aI_wL, aL_sI, aL_sL, aL_wI, fR_sI, fR_sL, fR_wI, fR_wL, aN_sI, aN_sL, aN_wI, aN_wL, ne_eq, Nat.reduceEqDiff, not_false_eq_true]) (by simp only [fI_s, fI_sn, fL_s, fL_sn, aI_w, aI_wn, aL_w, aL_wn, fI_sL, fI_wI, fI_wL, fL_sI, fL_wI, fL_wL, aI_sI, aI_sL, aI_wL, aL_sI, aL_sL, aL_wI, fR_sI, fR_sL, fR_wI, fR_wL, aN_sI, aN_sL, aN_wI, aN_wL, ne_eq, Nat.reduceEqDiff, not_false_eq_true]; exact o4) (by omega) (by simp only [fI_s, fI_sn, fL_s, fL_sn, aI_w, aI_wn, aL_w, aL_wn, fI_sL, fI_wI, fI_wL, fL_sI, fL_wI, fL_wL, aI_sI, aI_sL, aI_wL, aL_sI, aL_sL, aL_wI, fR_sI, fR_sL, fR_wI, fR_wL, aN_sI, aN_sL, aN_wI, aN_wL, ne_eq, Nat.reduceEqDiff, not_false_eq_true]; exact o5) (by omega) (by simp only [fI_s, fI_sn, fL_s, fL_sn, aI_w, aI_wn, aL_w, aL_wn, fI_sL, fI_wI, fI_wL, fL_sI, fL_wI, fL_wL, aI_sI, aI_sL, aI_wL, aL_sI, aL_sL, aL_wI, fR_sI, fR_sL, fR_wI, fR_wL, aN_sI, aN_sL, aN_wI, aN_wL, ne_eq, Nat.reduceEqDiff, not_false_eq_true]; exact o6) d2 (by simp only [fI_s, fI_sn, fL_s, fL_sn, aI_w, aI_wn, aL_w, aL_wn, fI_sL, fI_wI, fI_wL, fL_sI, fL_wI, fL_wL, aI_sI, aI_sL, aI_wL, aL_sI, aL_sL, aL_wI, fR_sI, fR_sL, fR_wI, fR_wL, aN_sI, aN_sL, aN_wI, aN_wL, ne_eq, Nat.reduceEqDiff, not_false_eq_true]; exact o7) (by simp only [fI_s, fI_sn, fL_s, fL_sn, aI_w, aI_wn, aL_w, aL_wn, fI_sL, fI_wI, fI_wL, fL_sI, fL_wI, fL_wL, aI_sI, aI_sL, aI_wL, aL_sI, aL_sL, aL_wI, fR_sI, fR_sL, fR_wI, fR_wL, aN_sI, aN_sL, aN_wI, aN_wL, ne_eq, Nat.reduceEqDiff, not_false_eq_true]; exact o8) (by omega) hge (by omega) (fun _ => rfl) (Keep.tr o10 (Keep.rf.sI rfl)) (fun S8 co => ?_)
    intro Sr mm R P2 hP2 hg
    obtain ⟨T, wr, sy, g, ow, bh, par, ks, lv, pe, lst, mx⟩ := mm.mx
    refine turn Sr R P2 T wr sy g ow bh par ks lv pe lst mx hP2 (fun _ Sr1 Sr2 ia vn => ?_) (fun z => by omega)
    obtain ⟨e1, e2, e3, e4, e5, e6, e7⟩ := mx.pre (by omega)
    have rt := mx.1
    have nu := mx.2.1
    have hr : HR Sr1 (wI Sr1 42 (A 42) T 7) A T 7 0 0 (bl B p + 1) := ⟨Keep.rf.wI rfl, by rw [fI_wI]; exact ia.2.1, by rw [aI_w], by rw [aI_wn _ _ _ _ _ _ (by decide)]; exact (uq_self (by rw [ia.2.2.2.2.2.1, uq_at])).symm, by rw [aI_wn _ _ _ _ _ _ (by decide)]; exact (uq_self (by rw [ia.2.2.2.2.2.2.1, uq_at])).symm⟩
    have rl : RLn Sr (wI Sr1 42 (A 42) T 7) A T wr sy (ow (hdx stk)) lst 7 (nI (bl B p)) 0 0 0 0 := (ia.rl (wr := wr) (sy := sy)).hr hr
    have km : KM Sr Sr2 := Keep.tr (Keep.tr (KR.m KR.pos) ia.km) vn.km
    obtain ⟨k, v1, v2, v3, v4, v5, v6, v7, v8, v9, v10, v11, v12, v13, v14⟩ := vn
    have f : ∀ j, jV j = false → jI2 j = false → j ≠ 101 → fI Sr2 j = fI Sr j := fun j j1 j3 j4 => by rw [(k.2.1 j j1).1, (ia.1.2.1 j j3).1, fI_sn _ _ _ _ _ j4]
    have fa : ∀ x, rV x = false → rIH x = false → aI Sr2 x = aI Sr x := fun x x1 x3 => by rw [(k.2.2 x x1).1, (ia.1.2.2 x x3).1]; rfl
    have o61 : ∀ x, rIH x = false → aI Sr1 x = aI Sr x := fun x x3 => by rw [(ia.1.2.2 x x3).1]; rfl
    have z102 : fI Sr2 102 (A 9) = 0 := by rw [f 102 rfl rfl (by decide)]; exact nu.1
    have cd1 : CD S S10 A N (bl B p) pc 0 0 0 := ho.cd0
    have cd2 := co.cd0
    refine ⟨fun _ => hg Sr2 km ?_, fun z => absurd z102 z⟩
    refine mx.vopn (q := bl B p + 1) (pl := bl B p) (S1 := S10) (S2 := sI S8 60 (A 6) (nI (bl B p + 1))) (Sr1 := wI Sr1 42 (A 42) T 7) (Sr2 := Sr2) (a3 := 0) (b3 := 0) (t3 := 0) c (by omega) (rt.km km) (nu.of z102 (by rw [(k.2.1 101 rfl).1]; exact ia.2.1) v1 (by have := nu.2.2.2.1; omega) (by rw [f 117 rfl rfl (by decide)]; exact nu.2.2.2.2.1) (by rw [f 120 rfl rfl (by decide)]; exact nu.2.2.2.2.2.1) nu.2.2.2.2.2.2.1 v2 (f 125 rfl rfl (by decide)) (f 126 rfl rfl (by decide)) (f 129 rfl rfl (by decide))) cd1 cd2 (by rw [aI_sI, (co.1.2.2 26 rfl).1, aI_sI, (ho.1.2.2 26 rfl).1]; rfl) rl ⟨fun x i hi w1 w2 w3 w4 w5 => ?_, fun i hi => by rw [v9, uq_ne (by omega)]; rfl, fun x i hi w1 w2 => by rw [(k.2.2 x (by unfold rV; rw [decide_eq_false_iff_not]; omega)).1, aI_wn _ _ _ _ _ _ (by omega)], fun x i hi w1 w2 => by rw [(k.2.2 x (by unfold rV; rw [decide_eq_false_iff_not]; omega)).1, aI_wn _ _ _ _ _ _ (by omega)]⟩ (fun i w1 w2 => by rw [v7, uq_ne w2, uq_ne w1, aI_wn _ _ _ _ _ _ (by decide)]) (by rw [v7, uq_ne (by omega), uq_at]) (by rw [v7, uq_at]) (fun i w => by rw [v8, uq_ne w, aI_wn _ _ _ _ _ _ (by decide)]) (by rw [v8, uq_at]) (fun x w1 w2 => fa x (by unfold rV; rw [decide_eq_false_iff_not]; omega) (by unfold rIH; rw [decide_eq_false_iff_not]; omega)) (by rw [v11, o61 61 rfl]) (by rw [v12, o61 62 rfl]) (by rw [v13, o61 63 rfl]) (by rw [v14, ia.2.2.2.2.2.2.2.2.2.2]; rfl) ⟨bl B p, by omega, by rw [cd1.1, uq_at], by rw [rl.1, uq_at]; rfl, Or.inr ⟨hlt, by rw [rl.2.1, uq_at], Or.inr (Or.inr (Or.inr (Or.inl ⟨rfl, rfl, hb⟩)))⟩⟩ (by omega) (by rw [v3, uq_at])
    have hx : x = 42 ∨ x = 43 ∨ x = 44 ∨ x = 45 ∨ x = 49 := by omega
    rcases hx with rfl | rfl | rfl | rfl | rfl
    · rw [v3, uq_ne (by omega), aI_w]
    · rw [v4, uq_ne (by omega), aI_wn _ _ _ _ _ _ (by decide)]
    · rw [v5, uq_ne (by omega), aI_wn _ _ _ _ _ _ (by decide)]
    · rw [v6, uq_ne (by omega), aI_wn _ _ _ _ _ _ (by decide)]
    · rw [v10, uq_ne (by omega), aI_wn _ _ _ _ _ _ (by decide)]
  · have e8 : op = 8 := by omega
    rw [if_neg (ltc_no 8 (by rfl) (by omega) (by omega))]
    refine ⟨_, o1.1.f59, ?_⟩
    rw [o2]
    refine s_tell (h0 _ ⟨(5, bl B p), kdm (by decide) (by decide), Keep.tr o10 ((Keep.rf.sI rfl).sI rfl), (CF_tell (k := 5)).2.1, (CF_tell (k := 5)).2.2, ?_⟩)
    intro Sr mm R P hP hg
    obtain ⟨T, wr, sy, g, ow, bh, par, ks, lv, pe, lst, mx⟩ := mm.mx
    exact turn Sr R P T wr sy g ow bh par ks lv pe lst mx hP (fun z => absurd z c) (fun _ Sr2 rf => hg Sr2 rf)
end
