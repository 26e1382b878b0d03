/-! A block from its head to its end: both. -/
section
variable {S S1 S10 S13 Sr Sr1 : PS} {A : Nat → Nat} {B : Nat → Int32} {n p op N pc nd pq T wr sy : Nat} {inm : Bool} {stk : List (Nat × Nat × Nat × Nat × Nat)} {G : Int32 → PS → Prop} {g ow bh par ks lv : Nat → Nat} {pe : Nat → Bool} {lst : Int32}
theorem Nms.same {S1 Sr1 : PS} (h : Nms S Sr A B n N nd pq inm ow bh ks) (hc : ∀ r, 23 ≤ r → r ≤ 26 → aI S1 r = aI S r) (hr : ∀ r, 55 ≤ r → r ≤ 60 → aI Sr1 r = aI Sr r) : Nms S1 Sr1 A B n N nd pq inm ow bh ks :=
  h.mono (Nat.le_refl N) (fun _ _ => ⟨rfl, rfl, fun _ => rfl⟩) (hc 23 (by decide) (by decide)) (hc 24 (by decide) (by decide)) (hc 25 (by decide) (by decide)) (fun _ => hc 26 (by decide) (by decide)) (fun r x y => hr r x (by omega)) (fun _ => ⟨hr 59 (by decide) (by decide), hr 60 (by decide) (by decide)⟩)
/-- a block of L, R, T or X ends -/
theorem MX.end1 {x k q : Nat} {w : Nat × Nat} {f1 : Nat × Nat × Nat × Nat × Nat} {r : List (Nat × Nat × Nat × Nat × Nat)} (h : MX S Sr A B n p (op + 1) N pc nd pq inm ((1, x, k, w) :: f1 :: r) T wr sy g ow bh par ks lv pe lst) (hN : N < 1510)
    (hc : GrC S S1 A N pc) (h17 : aI S1 17 (A 17) = uq (aI S 17 (A 17)) (x - 1) (nI N)) (hc2 : ∀ r, 23 ≤ r → r ≤ 26 → aI S1 r = aI S r) (rt : RT Sr1 A B n) (nu : Num Sr1 A q op N T pc wr sy nd pq inm) (ha : aI Sr1 = aI Sr) (hl : aL Sr1 = aL Sr) : MM S1 Sr1 A B n q op N pc nd pq inm (f1 :: r) := by
  have hpar := h.parlt
  obtain ⟨m1, m2, m3, m4, m5, m6, m7, m8, m9, m10, m11, m12, m13⟩ := h
  have sk := m10
  obtain ⟨a1, a2, a3, a4, a5, a6, a7, a8, a9, b1, b2, b3, b4, b5, b6, b7, b8, b9, c1⟩ := m10
  have hx1 : 1 ≤ x := a3
  have hxN : x ≤ N := a4
  have hit : itm par 1 x = x := by unfold itm; rw [if_pos (Or.inl rfl)]
  have hpx : par x = f1.2.1 := by have z : par (itm par 1 x) = f1.2.1 := b3; rw [hit] at z; exact z
  have h64 : aI Sr 64 (A 64) r.length = nI (g x) := by have z : aI Sr 64 (A 64) r.length = nI (g (itm par 1 x)) := a9; rw [hit] at z; exact z
  have hlen : r.length = op := by simpa using m11
  obtain ⟨t1, u1⟩ := m3.close m4 (by omega) hx1
  have ux : hdx ((1, x, k, w) :: f1 :: r) = x := rfl
  rw [ux] at t1 u1
  rw [hpx] at u1
  have hbx : bh x = 5000 := a5
  have k9 : ks x ≠ 9 := by have z : ks x = 3 ∨ ks x = 4 ∨ ks x = 5 ∨ ks x = 6 := b6 rfl; omega
  refine ⟨T, wr, sy, g, ow, uq bh x N, par, ks, lv, pe, nI (g x), rt, nu, by rw [ha]; exact t1, u1, by rw [ha, ← hlen]; exact h64, m6.close hx1 h17, ?_, m8, ?_, ?_, by rw [List.length_cons, hlen], m12, m13⟩
  · refine m7.same (T := T) (fun z hz => m3.glt hz) hc ⟨fun _ _ _ _ _ _ _ _ => by rw [ha], fun _ _ => by rw [hl], fun _ _ _ _ _ => by rw [ha], fun _ _ _ _ _ => by rw [ha]⟩ (fun z _ _ _ => by rw [ha]) (Nat.le_refl _) (Nat.le_refl _) (Nat.le_refl _) (Nat.le_refl _) (fun z z1 z2 z3 => ?_)
    by_cases e : z = x
    · subst e; exact Or.inr k9
    · rw [uq_ne e] at z3; exact Or.inl z3
  · refine ⟨m9.1.mono (Nat.le_refl N) (fun z hz => ⟨rfl, rfl, fun y => uq_ne (fun e => by subst e; exact y hbx)⟩) (hc2 23 (by decide) (by decide)) (hc2 24 (by decide) (by decide)) (hc2 25 (by decide) (by decide)) (fun _ => hc2 26 (by decide) (by decide)) (fun _ _ _ => by rw [ha]) (fun _ => ⟨by rw [ha], by rw [ha]⟩), m9.2.step hpar (fun z z1 z2 => (m3.2.2.2.2.2.1 z z1 z2).2.2.2) (Nat.le_refl N) (fun z hz => ⟨rfl, rfl, fun y => uq_ne (fun e => by subst e; exact y hbx)⟩) (fun e he => ⟨hc.1 18 e he (by decide) (by decide) (by decide) (by decide), hc.1 19 e he (by decide) (by decide) (by decide) (by decide)⟩) (hc2 24 (by decide) (by decide)) (hc2 25 (by decide) (by decide)) (fun z => ⟨z, Nat.le_refl _⟩) (fun z z1 z2 z3 z4 => ?_) (fun _ _ y => y) (fun z z1 z2 => by omega) (fun f hf _ => Or.inl (List.mem_cons_of_mem _ hf)) (fun z => ?_)⟩
    · by_cases e : z = x
      · subst e
        have k0 : ks z = 3 ∨ ks z = 4 ∨ ks z = 5 ∨ ks z = 6 := b6 rfl
        exact ⟨k9, fun y => by omega, fun y => by omega, fun _ y => by omega⟩
      · exact absurd ((uq_ne e).trans z3) z4
    · obtain ⟨f, f2, f3⟩ := m9.2.2.2 z
      rcases List.mem_cons.mp f2 with e | e
      · rw [e] at f3; exact absurd f3 (show ¬ (1 : Nat) = 3 by decide)
      · exact ⟨f, e, f3⟩
  · refine SK.mono (T := T) (L := op + 1) (x0 := x) hpar (fun z hz => m3.glt hz) (Nat.le_refl N) (by omega) (fun z hz => ⟨rfl, rfl, rfl, rfl, rfl, rfl⟩) (fun z hz y => uq_ne (fun e => ?_)) (fun j _ => ⟨by rw [ha], by rw [ha], by rw [ha]⟩) (fun j hj => by rw [ha]) (fun i hi => ⟨by rw [ha], by rw [hl]⟩) ⟨by rw [ha], by rw [ha]⟩ (f1 :: r) (by rw [List.length_cons, hlen]; omega) ?_ c1
    · subst e
      rcases y with y | y
      · omega
      · exact y hbx
    · show f1.2.1 < x
      rw [← hpx]; exact hpar x hx1 hxN
/-- what the class's music, d levels deep, does -/
def SMu (A : Nat → Nat) (B : Nat → Int32) (n d : Nat) : Prop := ∀ (S : PS) (p op N pc nd pq : Nat) (inm : Bool) (stk : List (Nat × Nat × Nat × Nat × Nat)) (Q : Int32 → PS → Prop), d + op = 10 → CIv S A B n p op N pc nd pq inm → (inm = false → ∀ f, f ∈ stk → f.1 ≠ 3) →
  (∀ S0 p0 N0 pc0 nd0, CIv S0 A B n p0 op N0 pc0 nd0 pq inm → p ≤ p0 → N ≤ N0 → N0 + p ≤ N + p0 → (inm = true → nd0 = nd) → KCr S S0 → NoB B (bl B p0) → Sim A B n S p op N pc nd pq inm stk S0 p0 op N0 pc0 nd0 pq inm stk → Q 1 (sI S0 60 (A 6) (nI (bl B p0)))) →
  (∀ S1, IBad A B n S p op N pc nd pq inm stk S1 → Q 0 S1) → wp_X7_music d (A 6) S Q
theorem GrR.ob {Sr2 Sr3 : PS} {s i pl : Int32} {q : Nat} (h : OB Sr2 Sr3 A (T + 1) op s i pl q) : GrR Sr2 (wI Sr3 46 (A 46) T (nI (T + 1))) A (T + 1) wr sy := by
  obtain ⟨k, b1, b2, b3, b4, b5, b6, b7, b8, b9, b10, b11, b12, b13, b14, b15⟩ := h
  refine ⟨fun r i hi r1 r2 r3 r4 r5 => ?_, fun i hi => by rw [aL_wI, b10, uq_ne (by omega)], fun r i hi x y => by rw [aI_wn _ _ _ _ _ _ (by omega), (k.2.2 r (by unfold rB; rw [decide_eq_false_iff_not]; omega)).1], fun r i hi x y => by rw [aI_wn _ _ _ _ _ _ (by omega), (k.2.2 r (by unfold rB; rw [decide_eq_false_iff_not]; omega)).1]⟩
  rw [aI_wn _ _ _ _ _ _ r3]
  have hr : r = 42 ∨ r = 43 ∨ r = 44 ∨ r = 45 ∨ r = 49 := by omega
  rcases hr with rfl | rfl | rfl | rfl | rfl
  · rw [b4, uq_ne (by omega)]
  · rw [b5, uq_ne (by omega)]
  · rw [b6, uq_ne (by omega)]
  · rw [b7, uq_ne (by omega)]
  · rw [b11, uq_ne (by omega)]
theorem OB.km {Sr2 Sr3 : PS} {s i pl : Int32} {q : Nat} (h : OB Sr2 Sr3 A T op s i pl q) : KM Sr2 Sr3 := h.1.mono (fun j => by unfold jM jB; simp only [decide_eq_false_iff_not]; omega) (fun r => by unfold rM rB; simp only [decide_eq_false_iff_not]; omega)
theorem k_blk {d s q : Nat} {c a b : Int32} {S2 : PS} (ci : CIv S A B n p op N pc nd pq inm) (hcs : c = 76 ∧ s = 3 ∨ c = 82 ∧ s = 4 ∨ c = 84 ∧ s = 5 ∨ c = 88 ∧ s = 6) (hb : B (bl B p) = c) (ho : CO (sI S 60 (A 6) (nI (bl B p))) S10 A N (bl B p) pc) (ih : SMu A B n d) (hd : d + (op + 1) = 10) (hst : inm = false → ∀ f, f ∈ stk → f.1 ≠ 3)
    (z1 : hdr B c (bl B p) = .ok (a, b, q)) (z2 : HB S10 S2 A N a b q)
    (h1 : ∀ S13, IOk A B n S p op N pc nd pq inm stk S13 → G 1 S13) (h0 : ∀ S13, IBad A B n S p op N pc nd pq inm stk S13 → G 0 S13) : wp_X7_block (wp_X7_music d) (A 6) S2 G := by
  have hB := ci.1.2.2.1
  have hn := hB.1
  have hge := bl_ge (B := B) (p := p)
  have hc5 : c = 76 ∨ c = 82 ∨ c = 84 ∨ c = 88 ∨ c = 77 := by
    rcases hcs with ⟨z, _⟩ | ⟨z, _⟩ | ⟨z, _⟩ | ⟨z, _⟩
    · exact Or.inl z
    · exact Or.inr (Or.inl z)
    · exact Or.inr (Or.inr (Or.inl z))
    · exact Or.inr (Or.inr (Or.inr (Or.inl z)))
  have hlt : bl B p < n := by
    rcases hcs with ⟨z, _⟩ | ⟨z, _⟩ | ⟨z, _⟩ | ⟨z, _⟩ <;> exact hB.lt (hb.trans z) (by decide)
  have hq := hdr_ok hB hlt hc5 z1
  obtain ⟨ci2, kc⟩ := ci.h hlt ho z2 hq.1 hq.2.1
  have hN : N < 1508 := (ci.o hlt ho).2.2.2.2.2.2.2.2.1
  have cd := z2.cd ho
  refine s_block ci2.1 ci2.2.1 hq.2.1 ci2.2.2.2.1 ci2.2.2.2.2.1 (fun r S3 e3 k3 f3 g3 => ?_) (fun e S3 e3 c3 => ?_)
  · have hr := blk_ok hB e3
    have kc3 : KCr S S3 := Keep.tr kc (k3.mono (fun j => by unfold jCr jBk; simp only [decide_eq_false_iff_not]; omega) (fun _ _ => rfl))
    have aI3 : aI S3 = aI S2 := by funext x; exact (k3.2.2 x rfl).1
    have aL3 : aL S3 = aL S2 := by funext x; exact (k3.2.2 x rfl).2
    have ci3 : CIv S3 A B n r (op + 1) (N + 1) pc nd pq inm := by
      obtain ⟨c1, c2, c3, c4, c5, c6, c7, c8, c9, d1, d2, d3, d4, d5, d6⟩ := ci2
      exact ⟨c1.keep k3 rfl rfl, f3, hr.2.1, g3, by omega, by rw [(k3.2.1 45 rfl).1]; exact c6, by omega, by rw [(k3.2.1 53 rfl).1]; exact c8, by omega, by rw [(k3.2.1 54 rfl).1]; exact d1, d2, by rw [(k3.2.1 62 rfl).1]; exact d3, by rw [(k3.2.1 64 rfl).1]; exact d4, d5, d6⟩
    have cd3 : CD S S3 A N (bl B p) pc a b 0 := by unfold CD; rw [aI3, aL3]; exact cd
    have sop : Sim A B n S p op N pc nd pq inm stk S3 r (op + 1) (N + 1) pc nd pq inm ((1, N + 1, 0, 0, 0) :: stk) := by
      intro Sr mm R P hP hg
      obtain ⟨T, wr, sy, g, ow, bh, par, ks, lv, pe, lst, mx⟩ := mm.mx
      refine r_turn4 ci hcs hb (by omega) mx hP (fun a2 b2 q2 r2 Sr1 Sr2 Sr3 y1 y2 ia hr3 ob => ?_) (fun e Sr2 y1 => ?_)
      · rw [z1] at y1
        injection y1 with y1; injection y1 with w1 w2; injection w2 with w2 w3
        subst w1 w2 w3
        rw [e3] at y2
        injection y2 with y2
        subst y2
        obtain ⟨e1, e2, e3', e4, e5, e6, e7⟩ := mx.pre (by omega)
        have rt := mx.1
        have nu := mx.2.1
        have rl : RLn Sr Sr2 A T wr sy (ow (hdx stk)) lst (nI s) (nI (bl B p)) a b 0 0 := (ia.rl (wr := wr) (sy := sy)).hr hr3
        have km : KM Sr (wI Sr3 46 (A 46) T (nI (T + 1))) := Keep.tr (Keep.tr (Keep.tr (Keep.tr (KR.m KR.pos) ia.km) hr3.keep) ob.km) (Keep.rf.wI rfl)
        have f : ∀ j, jB j = false → jHr j = false → jI2 j = false → j ≠ 101 → fI (wI Sr3 46 (A 46) T (nI (T + 1))) j = fI Sr j := fun j j1 j2 j3 j4 => by rw [fI_wI, (ob.1.2.1 j j1).1, (hr3.1.2.1 j j2).1, (ia.1.2.1 j j3).1, fI_sn _ _ _ _ _ j4]
        have fa : ∀ x, x ≠ 46 → rB x = false → rHr x = false → rIH x = false → aI (wI Sr3 46 (A 46) T (nI (T + 1))) x = aI Sr x := fun x x0 x1 x2 x3 => by rw [aI_wn _ _ _ _ _ _ x0, (ob.1.2.2 x x1).1, (hr3.1.2.2 x x2).1, (ia.1.2.2 x x3).1]; rfl
        have gr2 : GrR Sr2 (wI Sr3 46 (A 46) T (nI (T + 1))) A (T + 1) wr sy := GrR.ob ob
        obtain ⟨kob, b1, b2, b3, b4, b5, b6, b7, b8, b9, b10, b11, b12, b13, b14, b15⟩ := ob
        have z102 : fI (wI Sr3 46 (A 46) T (nI (T + 1))) 102 (A 9) = 0 := by rw [f 102 rfl rfl rfl (by decide)]; exact nu.1
        refine ⟨fun _ => hg _ km ?_, fun z => absurd z102 z⟩
        have o61 : ∀ x, rHr x = false → rIH x = false → aI Sr2 x = aI Sr x := fun x x2 x3 => by rw [(hr3.1.2.2 x x2).1, (ia.1.2.2 x x3).1]; rfl
        have v42 : aI (wI Sr3 46 (A 46) T (nI (T + 1))) 42 (A 42) T = nI s := by rw [aI_wn _ _ _ _ _ _ (by decide), b4, uq_ne (by omega), rl.1, uq_at]
        have v43 : aI (wI Sr3 46 (A 46) T (nI (T + 1))) 43 (A 43) T = nI (bl B p) := by rw [aI_wn _ _ _ _ _ _ (by decide), b5, uq_ne (by omega), rl.2.1, uq_at]
        have v44 : aI (wI Sr3 46 (A 46) T (nI (T + 1))) 44 (A 44) T = a := by rw [aI_wn _ _ _ _ _ _ (by decide), b6, uq_ne (by omega), rl.2.2.1, uq_at]
        have v45 : aI (wI Sr3 46 (A 46) T (nI (T + 1))) 45 (A 45) T = b := by rw [aI_wn _ _ _ _ _ _ (by decide), b7, uq_ne (by omega), rl.2.2.2.1, uq_at]
        refine mx.opn (s := s) (s1 := 1) (hinm := fun z => ⟨z, Nat.le_refl _⟩) (hsame := fun z _ => z) (h9i := fun z => by omega) (w0 := (0, 0)) hr.2.2 hN (rt.km km) (nu.of z102 (by rw [fI_wI]; exact b1) (by rw [fI_wI]; exact b2) (by have := nu.2.2.2.1; omega) (by rw [f 117 rfl rfl rfl (by decide)]; exact nu.2.2.2.2.1) (by rw [f 120 rfl rfl rfl (by decide)]; exact nu.2.2.2.2.2.1) nu.2.2.2.2.2.2.1 (by rw [fI_wI]; exact b3) (f 125 rfl rfl rfl (by decide)) (f 126 rfl rfl rfl (by decide)) (f 129 rfl rfl rfl (by decide))) cd3 rl gr2 (fun i x y => by rw [aI_w, uq_ne y, b8, uq_ne x]) (by rw [aI_w, uq_ne (by omega), b8, uq_at]) (fun i x => by rw [aI_wn _ _ _ _ _ _ (by decide), b9, uq_ne x]) (fun x x1 x2 => fa x (by omega) (by unfold rB; rw [decide_eq_false_iff_not]; omega) (by unfold rHr; rw [decide_eq_false_iff_not]; omega) (by unfold rIH; rw [decide_eq_false_iff_not]; omega)) (by rw [aI_wn _ _ _ _ _ _ (by decide), b12, o61 61 rfl rfl]; rfl) (by rw [aI_wn _ _ _ _ _ _ (by decide), b13, o61 62 rfl rfl]) (by rw [aI_wn _ _ _ _ _ _ (by decide), b14, o61 63 rfl rfl]) (by rw [aI_wn _ _ _ _ _ _ (by decide), b15, (hr3.1.2.2 64 rfl).1, ia.2.2.2.2.2.2.2.2.2.2]; rfl) ?_ (fun _ => ⟨fa 59 (by decide) rfl rfl rfl, fa 60 (by decide) rfl rfl rfl⟩) hst (Or.inl ⟨rfl, by rcases hcs with ⟨_, z⟩ | ⟨_, z⟩ | ⟨_, z⟩ | ⟨_, z⟩ <;> omega⟩) ⟨bl B p, by omega, by rw [cd3.1, uq_at], v42, Or.inr ⟨hlt, v43, Or.inr (Or.inr (Or.inl ⟨Or.inr ⟨?_, rfl, by rw [aI_w, uq_at]⟩, by rw [v44, cd3.2.2.1, uq_at], by rw [v45, cd3.2.2.2.1, uq_at], by rw [cd3.2.2.1, uq_at, cd3.2.2.2.1, uq_at, hb]; exact hq.2.2⟩))⟩⟩
        · refine mx.2.2.2.2.2.2.2.2.1.1.same (fun x x1 x2 => ?_) (fun x x1 x2 => fa x (by omega) (by unfold rB; rw [decide_eq_false_iff_not]; omega) (by unfold rHr; rw [decide_eq_false_iff_not]; omega) (by unfold rIH; rw [decide_eq_false_iff_not]; omega))
          rw [aI3, (z2.1.2.2 x (by unfold rHd; rw [decide_eq_false_iff_not]; omega)).1, (ho.1.2.2 x (by unfold rCo; rw [decide_eq_false_iff_not]; omega)).1]; rfl
        · rw [hb]; exact hcs
      · rcases y1 with y1 | ⟨a2, b2, q2, y1, y2⟩
        · rw [z1] at y1; cases y1
        · rw [z1] at y1
          injection y1 with y1; injection y1 with w1 w2; injection w2 with w2 w3
          subst w1 w2 w3
          rw [e3] at y2; cases y2
    refine ih S3 r (op + 1) (N + 1) pc nd pq inm ((1, N + 1, 0, 0, 0) :: stk) _ hd ci3 (fun z f hf => ?_) (fun S0 p0 N0 pc0 nd0 c0 hp0 hN0 hgr0 hnd0 k0 nb sm => ?_) (fun S4 bad => ?_)
    · rcases List.mem_cons.mp hf with e | e
      · rw [e]; show (1 : Nat) ≠ 3; decide
      · exact hst z f e
    · rw [if_neg (by decide)]
      have c0' := c0
      obtain ⟨c1, c2, c3, c4, c5, c6, c7, c8, c9, d1, d2, d3, d4, d5, d6⟩ := c0
      have hb0 := bl_ge (B := B) (p := p0)
      have hN0b : N0 ≤ 1508 := by omega
      refine s_must c1.pos fI_pos (bl_le hB c3) (fun e => ?_) (fun e S5 c5' => ?_)
      · rw [if_neg (by decide), sI_sI]
        have hlt0 := hB.lt e (by decide)
        have eo : fI (sI S0 60 (A 6) (nI (bl B p0 + 1))) 61 (A 6) - 1 = nI op := by rw [fI_sn _ _ _ _ _ (by decide), c4]; exact nI_pred op
        rw [eo]
        rintro _ rfl
        refine h1 _ ⟨bl B p0 + 1, N0, pc0, nd0, by omega, by omega, by omega, hnd0, ⟨c1.keep (J := jBk) (R := rN) ((Keep.rf.sI rfl).sI rfl) rfl rfl, by simp only [fI_s, fI_sn, fL_s, fL_sn, aI_w, aI_wn, aL_w, aL_wn, fI_sL, fI_wI, fI_wL, fL_sI, fL_wI, fL_wL, aI_sI, aI_sL, aI_wL, aL_sI, aL_sL, aL_wI, fR_sI, fR_sL, fR_wI, fR_wL, aN_sI, aN_sL, aN_wI, aN_wL, ne_eq, Nat.reduceEqDiff, not_false_eq_true], hlt0, by simp only [fI_s, fI_sn, fL_s, fL_sn, aI_w, aI_wn, aL_w, aL_wn, fI_sL, fI_wI, fI_wL, fL_sI, fL_wI, fL_wL, aI_sI, aI_sL, aI_wL, aL_sI, aL_sL, aL_wI, fR_sI, fR_sL, fR_wI, fR_wL, aN_sI, aN_sL, aN_wI, aN_wL, ne_eq, Nat.reduceEqDiff, not_false_eq_true], by omega, by simp only [fI_s, fI_sn, fL_s, fL_sn, aI_w, aI_wn, aL_w, aL_wn, fI_sL, fI_wI, fI_wL, fL_sI, fL_wI, fL_wL, aI_sI, aI_sL, aI_wL, aL_sI, aL_sL, aL_wI, fR_sI, fR_sL, fR_wI, fR_wL, aN_sI, aN_sL, aN_wI, aN_wL, ne_eq, Nat.reduceEqDiff, not_false_eq_true]; exact c6, by omega, by simp only [fI_s, fI_sn, fL_s, fL_sn, aI_w, aI_wn, aL_w, aL_wn, fI_sL, fI_wI, fI_wL, fL_sI, fL_wI, fL_wL, aI_sI, aI_sL, aI_wL, aL_sI, aL_sL, aL_wI, fR_sI, fR_sL, fR_wI, fR_wL, aN_sI, aN_sL, aN_wI, aN_wL, ne_eq, Nat.reduceEqDiff, not_false_eq_true]; exact c8, by omega, by simp only [fI_s, fI_sn, fL_s, fL_sn, aI_w, aI_wn, aL_w, aL_wn, fI_sL, fI_wI, fI_wL, fL_sI, fL_wI, fL_wL, aI_sI, aI_sL, aI_wL, aL_sI, aL_sL, aL_wI, fR_sI, fR_sL, fR_wI, fR_wL, aN_sI, aN_sL, aN_wI, aN_wL, ne_eq, Nat.reduceEqDiff, not_false_eq_true]; exact d1, d2, by simp only [fI_s, fI_sn, fL_s, fL_sn, aI_w, aI_wn, aL_w, aL_wn, fI_sL, fI_wI, fI_wL, fL_sI, fL_wI, fL_wL, aI_sI, aI_sL, aI_wL, aL_sI, aL_sL, aL_wI, fR_sI, fR_sL, fR_wI, fR_wL, aN_sI, aN_sL, aN_wI, aN_wL, ne_eq, Nat.reduceEqDiff, not_false_eq_true]; exact d3, by simp only [fI_s, fI_sn, fL_s, fL_sn, aI_w, aI_wn, aL_w, aL_wn, fI_sL, fI_wI, fI_wL, fL_sI, fL_wI, fL_wL, aI_sI, aI_sL, aI_wL, aL_sI, aL_sL, aL_wI, fR_sI, fR_sL, fR_wI, fR_wL, aN_sI, aN_sL, aN_wI, aN_wL, ne_eq, Nat.reduceEqDiff, not_false_eq_true]; exact d4, d5, d6⟩, Keep.tr (Keep.tr kc3 k0) ((Keep.rf.sI rfl).sI rfl), ?_⟩
        refine Sim.tr sop (Sim.tr sm ?_)
        intro Sr mm R P hP hg
        obtain ⟨T, wr, sy, g, ow, bh, par, ks, lv, pe, lst, mx⟩ := mm.mx
        obtain ⟨e1, e2, e3', e4, e5, e6, e7⟩ := mx.pre hN0b
        have rt := mx.1
        have nu := mx.2.1
        have sk := mx.2.2.2.2.2.2.2.2.2.1
        have hlen := mx.2.2.2.2.2.2.2.2.2.2.1
        cases hs : stk with
        | nil => rw [hs] at sk; exact absurd sk.1 (show ¬ (1 : Nat) = 0 by decide)
        | cons f1 r1 =>
          rw [hs] at sk hlen mx
          have hr1 : r1.length = op := by simpa using hlen
          have s61 : aI Sr 61 (A 61) (op + 1) = nI 1 := by rw [← hr1]; exact sk.2.2.2.2.2.1
          refine it_ends rt nu.2.1 c3 (Or.inr (Or.inl e)) e3' (by omega) s61 (by omega) hP (fun z => by omega) (fun _ Q2 hQ2 => ?_)
          refine r_endOk rt.pos fI_at (by simp only [fI_s, fI_sn, fL_s, fL_sn, aI_w, aI_wn, aL_w, aL_wn, fI_sL, fI_wI, fI_wL, fL_sI, fL_wI, fL_wL, aI_sI, aI_sL, aI_wL, aL_sI, aL_sL, aL_wI, fR_sI, fR_sL, fR_wI, fR_wL, aN_sI, aN_sL, aN_wI, aN_wL, ne_eq, Nat.reduceEqDiff, not_false_eq_true]; exact e3') (by omega) s61 (by omega) rfl rfl (Or.inr (Or.inr ⟨by decide, e⟩)) (fun z => absurd (e.symm.trans z) (by decide)) (fun z => by omega) (fun z => by omega) (fun _ _ _ => ?_)
          rw [sI_sI]
          refine hQ2 _ ⟨fun _ => hg _ ((Keep.rf.sI rfl).sI rfl) ?_, fun z => absurd (show fI (sI (sI Sr 101 (A 9) (nI (bl B p0 + 1))) 134 (A 9) (nI (op + 1))) 102 (A 9) = 0 by simp only [fI_s, fI_sn, fL_s, fL_sn, aI_w, aI_wn, aL_w, aL_wn, fI_sL, fI_wI, fI_wL, fL_sI, fL_wI, fL_wL, aI_sI, aI_sL, aI_wL, aL_sI, aL_sL, aL_wI, fR_sI, fR_sL, fR_wI, fR_wL, aN_sI, aN_sL, aN_wI, aN_wL, ne_eq, Nat.reduceEqDiff, not_false_eq_true]; exact nu.1) z⟩
          rw [hs]
          refine mx.end1 (q := bl B p0 + 1) (Sr1 := sI (sI Sr 101 (A 9) (nI (bl B p0 + 1))) 134 (A 9) (nI (op + 1))) (S1 := wI (sI (sI S0 60 (A 6) (nI (bl B p0 + 1))) 61 (A 6) (nI op)) 17 (A 17) N (nI N0)) (by omega) ⟨fun x e he x1 x2 x3 x4 => by rw [aI_wn _ _ _ _ _ _ x1]; rfl, fun e he => rfl, fun k hk => by rw [aI_wn _ _ _ _ _ _ (by decide)]; rfl⟩ (by rw [aI_w, Nat.add_sub_cancel]; rfl) (fun x x1 x2 => by rw [aI_wn _ _ _ _ _ _ (by omega)]; rfl) (rt.km ((Keep.rf.sI rfl).sI rfl)) (nu.of (by simp only [fI_s, fI_sn, fL_s, fL_sn, aI_w, aI_wn, aL_w, aL_wn, fI_sL, fI_wI, fI_wL, fL_sI, fL_wI, fL_wL, aI_sI, aI_sL, aI_wL, aL_sI, aL_sL, aL_wI, fR_sI, fR_sL, fR_wI, fR_wL, aN_sI, aN_sL, aN_wI, aN_wL, ne_eq, Nat.reduceEqDiff, not_false_eq_true]; exact nu.1) (by simp only [fI_s, fI_sn, fL_s, fL_sn, aI_w, aI_wn, aL_w, aL_wn, fI_sL, fI_wI, fI_wL, fL_sI, fL_wI, fL_wL, aI_sI, aI_sL, aI_wL, aL_sI, aL_sL, aL_wI, fR_sI, fR_sL, fR_wI, fR_wL, aN_sI, aN_sL, aN_wI, aN_wL, ne_eq, Nat.reduceEqDiff, not_false_eq_true]) (by simp only [fI_s, fI_sn, fL_s, fL_sn, aI_w, aI_wn, aL_w, aL_wn, fI_sL, fI_wI, fI_wL, fL_sI, fL_wI, fL_wL, aI_sI, aI_sL, aI_wL, aL_sI, aL_sL, aL_wI, fR_sI, fR_sL, fR_wI, fR_wL, aN_sI, aN_sL, aN_wI, aN_wL, ne_eq, Nat.reduceEqDiff, not_false_eq_true]; exact e1) nu.2.2.2.1 (by simp only [fI_s, fI_sn, fL_s, fL_sn, aI_w, aI_wn, aL_w, aL_wn, fI_sL, fI_wI, fI_wL, fL_sI, fL_wI, fL_wL, aI_sI, aI_sL, aI_wL, aL_sI, aL_sL, aL_wI, fR_sI, fR_sL, fR_wI, fR_wL, aN_sI, aN_sL, aN_wI, aN_wL, ne_eq, Nat.reduceEqDiff, not_false_eq_true]; exact nu.2.2.2.2.1) (by simp only [fI_s, fI_sn, fL_s, fL_sn, aI_w, aI_wn, aL_w, aL_wn, fI_sL, fI_wI, fI_wL, fL_sI, fL_wI, fL_wL, aI_sI, aI_sL, aI_wL, aL_sI, aL_sL, aL_wI, fR_sI, fR_sL, fR_wI, fR_wL, aN_sI, aN_sL, aN_wI, aN_wL, ne_eq, Nat.reduceEqDiff, not_false_eq_true]; exact nu.2.2.2.2.2.1) nu.2.2.2.2.2.2.1 (by simp only [fI_s, fI_sn, fL_s, fL_sn, aI_w, aI_wn, aL_w, aL_wn, fI_sL, fI_wI, fI_wL, fL_sI, fL_wI, fL_wL, aI_sI, aI_sL, aI_wL, aL_sI, aL_sL, aL_wI, fR_sI, fR_sL, fR_wI, fR_wL, aN_sI, aN_sL, aN_wI, aN_wL, ne_eq, Nat.reduceEqDiff, not_false_eq_true]) (by simp only [fI_s, fI_sn, fL_s, fL_sn, aI_w, aI_wn, aL_w, aL_wn, fI_sL, fI_wI, fI_wL, fL_sI, fL_wI, fL_wL, aI_sI, aI_sL, aI_wL, aL_sI, aL_sL, aL_wI, fR_sI, fR_sL, fR_wI, fR_wL, aN_sI, aN_sL, aN_wI, aN_wL, ne_eq, Nat.reduceEqDiff, not_false_eq_true]) (by simp only [fI_s, fI_sn, fL_s, fL_sn, aI_w, aI_wn, aL_w, aL_wn, fI_sL, fI_wI, fI_wL, fL_sI, fL_wI, fL_wL, aI_sI, aI_sL, aI_wL, aL_sI, aL_sL, aL_wI, fR_sI, fR_sL, fR_wI, fR_wL, aN_sI, aN_sL, aN_wI, aN_wL, ne_eq, Nat.reduceEqDiff, not_false_eq_true]) (by simp only [fI_s, fI_sn, fL_s, fL_sn, aI_w, aI_wn, aL_w, aL_wn, fI_sL, fI_wI, fI_wL, fL_sI, fL_wI, fL_wL, aI_sI, aI_sL, aI_wL, aL_sI, aL_sL, aL_wI, fR_sI, fR_sL, fR_wI, fR_wL, aN_sI, aN_sL, aN_wI, aN_wL, ne_eq, Nat.reduceEqDiff, not_false_eq_true])) rfl rfl
      · rw [if_pos rfl]
        refine h0 S5 ⟨(1, bl B p0), kdm (by decide) (by decide), Keep.tr (Keep.tr kc3 k0) (KL.cr (Keep.tr KL.pos c5'.1)), c5'.2.1, c5'.2.2, ?_⟩
        refine Sim.f sop (Sim.f sm ?_)
        cases hs : stk with
        | nil =>
          intro Sr mm R P hP hg
          obtain ⟨T, wr, sy, g, ow, bh, par, ks, lv, pe, lst, mx⟩ := mm.mx
          exact absurd mx.2.2.2.2.2.2.2.2.2.1.1 (show ¬ (1 : Nat) = 0 by decide)
        | cons f1 r1 => exact simF_no c0' rfl nb (fun z => by omega) (fun _ => e)
    · rw [if_pos rfl]
      obtain ⟨e, w0, w1, w2, w3, w4⟩ := bad
      exact h0 S4 ⟨e, w0, Keep.tr kc3 w1, w2, w3, Sim.f sop w4⟩
  · refine h0 S3 ⟨e, blk_kd e3, Keep.tr kc (KL.cr c3.1), c3.2.1, c3.2.2, ?_⟩
    intro Sr mm R P hP hg
    obtain ⟨T, wr, sy, g, ow, bh, par, ks, lv, pe, lst, mx⟩ := mm.mx
    refine r_turn4 ci hcs hb (by omega) mx hP (fun a2 b2 q2 r2 Sr1 Sr2 Sr3 y1 y2 => ?_) (fun e2 Sr2 y1 y2 => ?_)
    · rw [z1] at y1
      injection y1 with y1; injection y1 with w1 w2; injection w2 with w2 w3
      subst w1 w2 w3
      rw [e3] at y2; cases y2
    · rcases y1 with y1 | ⟨a2, b2, q2, y1, y3⟩
      · rw [z1] at y1; cases y1
      · rw [z1] at y1
        injection y1 with y1; injection y1 with w1 w2; injection w2 with w2 w3
        subst w1 w2 w3
        rw [e3] at y3
        injection y3 with y3
        subst y3
        exact hg Sr2 y2
/-- a head that is refused -/
theorem k_hbad {s : Nat} {c : Int32} {e : Nat × Nat} (ci : CIv S A B n p op N pc nd pq inm) (hcs : c = 76 ∧ s = 3 ∨ c = 82 ∧ s = 4 ∨ c = 84 ∧ s = 5 ∨ c = 88 ∧ s = 6) (hb : B (bl B p) = c) (ho : CO (sI S 60 (A 6) (nI (bl B p))) S10 A N (bl B p) pc) (hlt : bl B p < n) (z1 : hdr B c (bl B p) = .error e) (z2 : CF S10 S13 A e) : IBad A B n S p op N pc nd pq inm stk S13 := by
  obtain ⟨o1, o2, o3, o4, o5, o6, o7, o8, o9, o10⟩ := ci.o hlt ho
  refine ⟨e, hdr_kd z1, Keep.tr o10 z2.1.cr, z2.2.1, z2.2.2, ?_⟩
  intro Sr mm R P hP hg
  obtain ⟨T, wr, sy, g, ow, bh, par, ks, lv, pe, lst, mx⟩ := mm.mx
  refine r_turn4 ci hcs hb (by omega) mx hP (fun a2 b2 q2 r2 Sr1 Sr2 Sr3 y1 => by rw [z1] at y1; cases y1) (fun e2 Sr2 y1 y2 => ?_)
  rcases y1 with y1 | ⟨a2, b2, q2, y1, y3⟩
  · rw [z1] at y1
    injection y1 with y1
    subst y1
    exact hg Sr2 y2
  · rw [z1] at y1; cases y1
end
