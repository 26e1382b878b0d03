/-! The class as it is made. -/
section
variable {S S' S1 S2 : PS} {a b q k j : Nat} {L : List Nat}
theorem ust (ha : Rf S a 8) (hq : q ∉ pL S) (k2 : Kws (fun b => b = q) (nO S k q) S2) (h' : S' = sR S2 j a (some q)) : Kws (fun b => b = a) S S' ∧ (∀ i, i ≠ j → fR S' i a = fR S i a) ∧ fR S' j a = some q ∧ (∀ i, fI S' i a = fI S i a ∧ fL S' i a = fL S i a) ∧ Kws (fun b => b = a) S2 S' ∧ Rf S' a 8 ∧ Rf S2 q k ∧ q ≠ a := by
  subst h'
  have hqa : q ≠ a := fun e => hq (by rw [e]; exact ha.1)
  have k0 : Kws (fun b => b = q) S (nO S k q) := Kws.rf.mkO hq
  have k1 := k0.tr k2
  have sa := k1.2 a ha.1 (fun e => hqa e.symm)
  have k3 : Kws (fun b => b = a) S2 (sR S2 j a (some q)) := Kws.sR (W := fun b => b = a) Kws.rf (Or.inl rfl)
  refine ⟨⟨k1.1.tr k3.1, fun b hb hw => ?_⟩, fun i hi => ?_, ?_, fun i => ⟨?_, ?_⟩, k3, (ha.tr k1.1).tr k3.1, (Rf.mkO (S := S) (k := k) (q := q)).tr k2.1, hqa⟩
  · exact (k1.2 b hb (fun e => hq (by rw [← e]; exact hb))).tr (k3.2 b (k1.1 b hb).1 hw)
  · rw [fR_sR, if_neg (fun y => hi y.1)]; exact sa.fR
  · rw [fR_sR, if_pos ⟨rfl, rfl⟩]
  · exact sa.fI
  · exact sa.fL
theorem kne8 (ha : Rf S a 8) {x r : Nat} (hx : Rf S x r) (h : r ≠ 8) : x ≠ a := fun e => h (by rw [← hx.2, e, ha.2])
theorem Fz.k8 (h : Fz L S b j) (ha : Rf S a 8) {r : Nat} (hb : Rf S b r) (h8 : r ≠ 8) (hj : fG j ≠ 8) (k : Kws (fun y => y = a) S S') : Fz L S' b j := h.kw hb.1 (kne8 ha hb h8) (fun x hx => kne8 ha hx hj) k
theorem Fz.wk (h : Fz L S b j) : Fz [] S b j := by
  obtain ⟨x, x1, x2, x3⟩ := h
  exact ⟨x, x1, fun e => (by cases e), x3⟩
theorem Sc0.k8 (h : Sc0 L S b) (ha : Rf S a 8) (k : Kws (fun y => y = a) S S') : Sc0 L S' b := h.kw (kne8 ha h.1 (by decide)) (fun x r hx hr => kne8 ha hx (by omega)) k
/-- cells of a score that lie in L -/
def Sin (L : List Nat) (S : PS) (x : Nat) : Prop := (∀ j z, 69 ≤ j → j < 83 → fT j = 2 → fR S j x = some z → z ∈ L) ∧ ∀ m, fR S 83 x = some m → m ∈ L ∧ ∀ j z, 18 ≤ j → j ≤ 20 → fR S j m = some z → z ∈ L
/-- the class, made -/
def Cl0 (S : PS) (a : Nat) : Prop := Rf S a 8 ∧ (∃ t, fR S 87 a = some t ∧ Rf S t 39 ∧ aN S t = 1500) ∧ fI S 88 a = 0 ∧ ∃ f p r x y u d L, (fR S 89 a = some f ∧ Rf S f 0 ∧ fI S 0 f = 0) ∧ (fR S 90 a = some p ∧ Rf S p 5 ∧ ∀ j, 43 ≤ j → j < 58 → fT j = 2 → Fz [] S p j) ∧ (fR S 91 a = some r ∧ Rf S r 6 ∧ fR S 58 r = some p ∧ fR S 59 r = some f ∧ Fz [] S r 63) ∧ (fR S 92 a = some x ∧ Rf S x 3 ∧ fR S 21 x = some p ∧ fR S 22 x = some f ∧ Fz [] S x 23) ∧ (fR S 93 a = some y ∧ Rf S y 4 ∧ Fz [] S y 40 ∧ Fz [] S y 42 ∧ fI S 41 y = 0) ∧ (fR S 94 a = some u ∧ Sc0 [] S u) ∧ (fR S 95 a = some d ∧ Sc0 L S d ∧ d ≠ u ∧ Sin L S u)
theorem Mt0.wk (h : Mt0 L S b) : Mt0 [] S b := by
  obtain ⟨h1, h2, ⟨x, x1, x2, x3⟩, ⟨y, y1, y2, y3⟩, z, z1, z2, z3⟩ := h
  exact ⟨h1, h2, ⟨x, x1, fun e => (by cases e), x3⟩, ⟨y, y1, fun e => (by cases e), y3⟩, z, z1, fun e => (by cases e), z3⟩
theorem Sc0.wk (h : Sc0 L S b) : Sc0 [] S b := by
  obtain ⟨h1, h2, h3, m, m1, m2, m3⟩ := h
  exact ⟨h1, fun j a1 a2 a3 => (h2 j a1 a2 a3).wk, h3, m, m1, fun e => (by cases e), m3.wk⟩
theorem Sc0.sin (h : Sc0 L S b) : Sin (pL S) S b := by
  obtain ⟨h1, h2, h3, m, m1, m2, m3⟩ := h
  refine ⟨fun j z a1 a2 a3 hz => ?_, fun m' hm => ?_⟩
  · obtain ⟨x, x1, _, x3, _⟩ := h2 j a1 a2 a3
    have : x = z := Option.some.inj (x1.symm.trans hz)
    rw [← this]; exact x3.1
  · have e : m = m' := Option.some.inj (m1.symm.trans hm)
    subst e
    refine ⟨m3.1.1, fun j z a1 a2 hz => ?_⟩
    obtain ⟨_, _, ⟨x, x1, _, x3, _⟩, ⟨y, y1, _, y3, _⟩, w, w1, _, w3, _⟩ := m3
    have hh : j = 18 ∨ j = 19 ∨ j = 20 := by omega
    rcases hh with rfl | rfl | rfl
    · rw [← Option.some.inj (x1.symm.trans hz)]; exact x3.1
    · rw [← Option.some.inj (y1.symm.trans hz)]; exact y3.1
    · rw [← Option.some.inj (w1.symm.trans hz)]; exact w3.1
/-- the same cells in a later state -/
theorem Sin.k8 (h : Sin L S b) (hs : Sc0 [] S b) (ha : Rf S a 8) (k : Kws (fun y => y = a) S S') : Sin L S' b := by
  obtain ⟨h1, _, _, m, m1, _, m3⟩ := hs
  have sb := k.2 b h1.1 (kne8 ha h1 (by decide))
  have sm := k.2 m m3.1.1 (kne8 ha m3.1 (by decide))
  refine ⟨fun j z a1 a2 a3 hz => h.1 j z a1 a2 a3 (by rw [← sb.fR]; exact hz), fun m' hm => ?_⟩
  have hm2 : fR S 83 b = some m' := by rw [← sb.fR]; exact hm
  have e : m = m' := Option.some.inj (m1.symm.trans hm2)
  subst e
  exact ⟨(h.2 m hm2).1, fun j z a1 a2 hz => (h.2 m hm2).2 j z a1 a2 (by rw [← sm.fR]; exact hz)⟩
theorem Sin.mono {L' : List Nat} (h : Sin L S b) (hl : ∀ x, x ∈ L → x ∈ L') : Sin L' S b := ⟨fun j z a1 a2 a3 hz => hl z (h.1 j z a1 a2 a3 hz), fun m hm => ⟨hl m (h.2 m hm).1, fun j z a1 a2 hz => hl z ((h.2 m hm).2 j z a1 a2 hz)⟩⟩
theorem nO_z (hq : q ∉ pL S) : ∀ j, fI (nO S k q) j q = 0 ∧ fL (nO S k q) j q = 0 := fun j => ⟨by rw [fI_nO, if_pos rfl], by rw [fL_nO, if_pos rfl]⟩
theorem From.k1 {S0 : PS} (h : From S0 S b) : Kws (fun y => y = b) S0 S := ⟨h.1, fun y hy hw => h.2 y hy hw⟩
set_option maxHeartbeats 4000000 in
theorem i_X11 {Q : PS → Prop} (ha : Rf S a 8) (hz : ∀ j, fI S j a = 0 ∧ fL S j a = 0) (hQ : ∀ S', Kws (fun b => b = a) S S' → Cl0 S' a → Q S') : wp_X11_init a S Q := by
  unfold wp_X11_init
  intro t ht S2 h2 S3 h3 S4 h4
  have kt : Kws (fun b => b = a) S S4 := by rw [h4, h3, h2]; exact ((Kws.sR (W := fun b => b = a) (Kws.rf.mkA ht) (Or.inl rfl))).sI (Or.inl rfl)
  have ta : t ≠ a := fun e => ht (by rw [e]; exact ha.1)
  have t1 : Rf S4 t 39 := by rw [h4, h3, h2]; exact Rf.mkA (N := 1500)
  have t2 : aN S4 t = 1500 := by rw [h4, h3, h2, aN_sI, aN_sR, aN_nA, if_pos rfl]
  have t3 : fR S4 87 a = some t := by rw [h4, h3, fR_sI, fR_sR, if_pos ⟨rfl, rfl⟩]
  have t4 : fI S4 88 a = 0 := by rw [h4, fI_s]
  have a4 : Rf S4 a 8 := ha.tr kt.1
  clear h2 h3 h4
  -- the fault
  intro f hf S6 h6
  unfold wp_X0_init
  intro S8 h8
  obtain ⟨k8, r8, s8, i8, l8, a8, f8, fa⟩ := ust (k := 0) (S2 := S6) a4 hf (by rw [h6]; exact Kws.rf) h8
  have u8 : Rf S8 f 0 ∧ fI S8 0 f = 0 := ⟨f8.tr l8.1, by rw [(l8.2 f f8.1 fa).fI, h6]; exact (nO_z hf 0).1⟩
  clear h6 h8
  -- the program
  intro p hp S10 h10
  refine i_X6 (by rw [h10]; exact Rf.mkO) (fun S11 b11 => ?_)
  intro S12 h12
  obtain ⟨k12, r12, s12, i12, l12, a12, p12, pa⟩ := ust (k := 5) (S2 := S11) a8 hp (by rw [← h10]; exact b11.1.2.1.k1) h12
  have a11 : Rf S11 a 8 := by
    have := a8.tr (Ext.mkO (k := 5) hp)
    rw [← h10] at this
    exact this.tr b11.1.2.1.1
  have g5 : ∀ j, 43 ≤ j → j < 58 → fT j = 2 → fG j ≠ 8 := by
    intro j c1 c2
    have hh : j = 43 ∨ j = 44 ∨ j = 45 ∨ j = 46 ∨ j = 47 ∨ j = 48 ∨ j = 49 ∨ j = 50 ∨ j = 51 ∨ j = 52 ∨ j = 53 ∨ j = 54 ∨ j = 55 ∨ j = 56 ∨ j = 57 := by omega
    rcases hh with rfl | rfl | rfl | rfl | rfl | rfl | rfl | rfl | rfl | rfl | rfl | rfl | rfl | rfl | rfl <;> decide
  have u12 : Rf S12 p 5 ∧ ∀ j, 43 ≤ j → j < 58 → fT j = 2 → Fz [] S12 p j := ⟨p12.tr l12.1, fun j c1 c2 c3 => ((b11.fz c1 c2 c3).wk).k8 a11 p12 (by decide) (g5 j c1 c2 c3) l12⟩
  clear h10 h12
  -- the reader
  intro r hr S14 h14
  have ra0 : r ≠ a := fun e => hr (by rw [e]; exact a12.1)
  have q90 : fR S14 90 a = some p := by rw [h14, fR_nO, if_neg (fun e => ra0 e.symm)]; exact s12
  have q89 : fR S14 89 a = some f := by rw [h14, fR_nO, if_neg (fun e => ra0 e.symm), r12 89 (by decide)]; exact s8
  refine ⟨p, q90, f, q89, ?_⟩
  refine i_X7 (fun S17 fm17 ii17 e58 e59 z63 => ?_)
  intro S18 h18
  obtain ⟨k18, r18, s18, i18, l18, a18, p18, ra⟩ := ust (k := 6) (S2 := S17) a12 hr (by rw [← h14]; exact fm17.k1) h18
  have a17 : Rf S17 a 8 := by
    have := a12.tr (Ext.mkO (k := 6) hr)
    rw [← h14] at this
    exact this.tr fm17.1
  have sr18 := l18.2 r p18.1 ra
  have u18 : Rf S18 r 6 ∧ fR S18 58 r = some p ∧ fR S18 59 r = some f ∧ Fz [] S18 r 63 := ⟨p18.tr l18.1, by rw [sr18.fR]; exact e58, by rw [sr18.fR]; exact e59, z63.wk.k8 a17 p18 (by decide) (by decide) l18⟩
  clear h14 h18
  -- the performer
  intro x hx S20 h20
  have xa0 : x ≠ a := fun e => hx (by rw [e]; exact a18.1)
  have w90 : fR S20 90 a = some p := by rw [h20, fR_nO, if_neg (fun e => xa0 e.symm), r18 90 (by decide)]; exact s12
  have w89 : fR S20 89 a = some f := by rw [h20, fR_nO, if_neg (fun e => xa0 e.symm), r18 89 (by decide), r12 89 (by decide)]; exact s8
  refine ⟨p, w90, f, w89, ?_⟩
  refine i_X3 (fun S23 fm23 ii23 e21 e22 z23 => ?_)
  intro S24 h24
  obtain ⟨k24, r24, s24, i24, l24, a24, p24, xa⟩ := ust (k := 3) (S2 := S23) a18 hx (by rw [← h20]; exact fm23.k1) h24
  have a23 : Rf S23 a 8 := by
    have := a18.tr (Ext.mkO (k := 3) hx)
    rw [← h20] at this
    exact this.tr fm23.1
  have sx24 := l24.2 x p24.1 xa
  have u24 : Rf S24 x 3 ∧ fR S24 21 x = some p ∧ fR S24 22 x = some f ∧ Fz [] S24 x 23 := ⟨p24.tr l24.1, by rw [sx24.fR]; exact e21, by rw [sx24.fR]; exact e22, z23.wk.k8 a23 p24 (by decide) (by decide) l24⟩
  clear h20 h24
  -- the printer
  intro y hy S26 h26
  refine i_X5 (by rw [h26]; exact Rf.mkO) (fun S27 b27 => ?_)
  intro S28 h28
  obtain ⟨k28, r28, s28, i28, l28, a28, p28, ya⟩ := ust (k := 4) (S2 := S27) a24 hy (by rw [← h26]; exact b27.1.2.1.k1) h28
  have a27 : Rf S27 a 8 := by
    have := a24.tr (Ext.mkO (k := 4) hy)
    rw [← h26] at this
    exact this.tr b27.1.2.1.1
  have u28 : Rf S28 y 4 ∧ Fz [] S28 y 40 ∧ Fz [] S28 y 42 ∧ fI S28 41 y = 0 := ⟨p28.tr l28.1, (b27.fz (j := 40) (by omega) (by omega) (by decide)).wk.k8 a27 p28 (by decide) (by decide) l28, (b27.fz (j := 42) (by omega) (by omega) (by decide)).wk.k8 a27 p28 (by decide) (by decide) l28, by rw [(l28.2 y p28.1 ya).fI, (b27.2 41).1, h26]; exact (nO_z hy 41).1⟩
  clear h26 h28
  -- the score told of
  intro u hu S30 h30
  refine i_X8 (by rw [h30]; exact Rf.mkO) (by rw [h30]; exact nO_z hu) (fun S31 kw31 sc31 => ?_)
  intro S32 h32
  obtain ⟨k32, r32, s32, i32, l32, a32, p32, ua⟩ := ust (k := 7) (S2 := S31) a28 hu (by rw [← h30]; exact kw31) h32
  have a31 : Rf S31 a 8 := by
    have := a28.tr (Ext.mkO (k := 7) hu)
    rw [← h30] at this
    exact this.tr kw31.1
  have u32 : Sc0 [] S32 u := sc31.wk.k8 a31 l32
  clear h30 h32
  -- the score in work
  intro d hd S34 h34
  have sub : ∀ z, z ∈ pL S32 → z ∈ pL S34 := fun z hz => by rw [h34]; exact ((Ext.mkO (k := 7) hd) z hz).1
  refine i_X8 (by rw [h34]; exact Rf.mkO) (by rw [h34]; exact nO_z hd) (fun S35 kw35 sc35 => ?_)
  intro S36 h36
  obtain ⟨k36, r36, s36, i36, l36, a36, p36, da⟩ := ust (k := 7) (S2 := S35) a32 hd (by rw [← h34]; exact kw35) h36
  have a35 : Rf S35 a 8 := by
    have := a32.tr (Ext.mkO (k := 7) hd)
    rw [← h34] at this
    exact this.tr kw35.1
  have du : d ≠ u := fun e => hd (by rw [e]; exact u32.1.1)
  -- all at the end
  have K28 := k32.tr k36
  have K24 := k28.tr K28
  have K18 := k24.tr K24
  have K12 := k18.tr K18
  have K8 := k12.tr K12
  have K4 := k8.tr K8
  have R : ∀ i, i < 89 ∨ 95 < i → fR S36 i a = fR S4 i a := fun i hi => by rw [r36 i (by omega), r32 i (by omega), r28 i (by omega), r24 i (by omega), r18 i (by omega), r12 i (by omega), r8 i (by omega)]
  refine hQ S36 (kt.tr K4) ⟨a36, ⟨t, by rw [R 87 (by omega)]; exact t3, t1.tr K4.1, by rw [(K4.1 t t1.1).2.2]; exact t2⟩, ?_, f, p, r, x, y, u, d, pL S34, ⟨?_, u8.1.tr K8.1, ?_⟩, ⟨?_, u12.1.tr K12.1, fun j c1 c2 c3 => (u12.2 j c1 c2 c3).k8 a12 u12.1 (by decide) (g5 j c1 c2 c3) K12⟩, ⟨?_, u18.1.tr K18.1, ?_, ?_, u18.2.2.2.k8 a18 u18.1 (by decide) (by decide) K18⟩, ⟨?_, u24.1.tr K24.1, ?_, ?_, u24.2.2.2.k8 a24 u24.1 (by decide) (by decide) K24⟩, ⟨?_, u28.1.tr K28.1, u28.2.1.k8 a28 u28.1 (by decide) (by decide) K28, u28.2.2.1.k8 a28 u28.1 (by decide) (by decide) K28, ?_⟩, ⟨?_, u32.k8 a32 k36⟩, ⟨s36, sc35.k8 a35 l36, du, (u32.sin.mono sub).k8 u32 a32 k36⟩⟩
  · rw [(i36 88).1, (i32 88).1, (i28 88).1, (i24 88).1, (i18 88).1, (i12 88).1, (i8 88).1]; exact t4
  · rw [r36 89 (by decide), r32 89 (by decide), r28 89 (by decide), r24 89 (by decide), r18 89 (by decide), r12 89 (by decide)]; exact s8
  · rw [(K8.2 f u8.1.1 (kne8 a8 u8.1 (by decide))).fI]; exact u8.2
  · rw [r36 90 (by decide), r32 90 (by decide), r28 90 (by decide), r24 90 (by decide), r18 90 (by decide)]; exact s12
  · rw [r36 91 (by decide), r32 91 (by decide), r28 91 (by decide), r24 91 (by decide)]; exact s18
  · rw [(K18.2 r u18.1.1 (kne8 a18 u18.1 (by decide))).fR]; exact u18.2.1
  · rw [(K18.2 r u18.1.1 (kne8 a18 u18.1 (by decide))).fR]; exact u18.2.2.1
  · rw [r36 92 (by decide), r32 92 (by decide), r28 92 (by decide)]; exact s24
  · rw [(K24.2 x u24.1.1 (kne8 a24 u24.1 (by decide))).fR]; exact u24.2.1
  · rw [(K24.2 x u24.1.1 (kne8 a24 u24.1 (by decide))).fR]; exact u24.2.2.1
  · rw [r36 93 (by decide), r32 93 (by decide)]; exact s28
  · rw [(K28.2 y u28.1.1 (kne8 a28 u28.1 (by decide))).fI]; exact u28.2.2.2
  · rw [r36 94 (by decide)]; exact s32
end
