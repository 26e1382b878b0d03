/-! Both objects as they are made. -/
def szA (j : Nat) : Nat := [0, 0, 0, 0, 0, 0, 0, 0, 0, 0, 0, 0, 0, 0, 0, 0, 0, 0, 40, 40, 40, 0, 0, 201, 0, 0, 0, 0, 0, 0, 0, 0, 0, 0, 0, 0, 0, 0, 0, 0, 256, 0, 20, 0, 0, 0, 1508, 1508, 1508, 1508, 1508, 1508, 1500, 0, 0, 20, 20, 20, 0, 0, 0, 0, 0, 4, 0, 0, 0, 0, 0, 1500, 0, 300, 300, 300, 300, 300, 300, 900, 300, 0, 12, 12, 12, 0, 0, 0, 0, 1500, 0, 0, 0, 0, 0, 0, 0, 0, 0, 1500, 0, 1500, 0, 0, 0, 0, 0, 3100, 3100, 3100, 3100, 3100, 3100, 3100, 3100, 0, 1500, 1500, 1500, 0, 1500, 1500, 0, 20, 20, 20, 20, 0, 0, 5, 5, 0, 10, 10, 10, 10, 0, 300, 300, 300, 300, 300, 300, 300, 1800, 1800, 1800, 900, 0, 12, 12, 0, 40, 40, 40, 0, 0, 0, 0, 0, 0, 0, 0, 0, 0, 0, 0, 0, 0, 24, 24, 0, 6, 6, 6, 260, 260, 260, 260, 260, 260, 260, 260, 260, 260, 260, 260, 260, 260, 260, 0, 1500, 300, 300, 300, 300, 300, 300, 1800, 1800, 1800, 900, 900, 300, 12, 40, 40, 40, 0, 0, 0, 0, 0, 0, 40000].getD j 0
def Bt (S0 S : PS) (a k lo n : Nat) : Prop := Built S0 S a k lo n szA ∧ ∀ j, fI S j a = fI S0 j a ∧ fL S j a = fL S0 j a
section
variable {S S0 S1 S2 S3 S' : PS} {a b k lo n q r N j : Nat}
theorem Bt.ar (h : Bt S0 S a k lo n) (hq : q ∉ pL S) (h2 : S2 = nA S r q N) (h3 : S3 = sR S2 n a (some q)) (hr : fG n = r) (hN : szA n = N) : Bt S0 S3 a k lo (n + 1) := by
  subst h2 h3; exact ⟨h.1.arr hq hr hN, h.2⟩
theorem Bt.sk (h : Bt S0 S a k lo n) (hn : fT n ≠ 2) : Bt S0 S a k lo (n + 1) := ⟨h.1.skip hn, h.2⟩
theorem Bt.be (h : Rf S a k) : Bt S S a k lo lo := ⟨Built.rf h, fun _ => ⟨rfl, rfl⟩⟩
theorem i_X6 {Q : PS → Prop} (h : Rf S a 5) (hQ : ∀ S', Bt S S' a 5 43 58 → Q S') : wp_X6_init a S Q := by
  have bb := Bt.be (lo := 43) h
  unfold wp_X6_init
  intro q hq S2 h2 S3 h3
  replace bb := bb.ar hq h2 h3 rfl rfl
  clear h2 h3 hq
  replace bb := bb.sk (by decide)
  replace bb := bb.sk (by decide)
  intro q hq S2 h2 S3 h3
  replace bb := bb.ar hq h2 h3 rfl rfl
  clear h2 h3 hq
  intro q hq S2 h2 S3 h3
  replace bb := bb.ar hq h2 h3 rfl rfl
  clear h2 h3 hq
  intro q hq S2 h2 S3 h3
  replace bb := bb.ar hq h2 h3 rfl rfl
  clear h2 h3 hq
  intro q hq S2 h2 S3 h3
  replace bb := bb.ar hq h2 h3 rfl rfl
  clear h2 h3 hq
  intro q hq S2 h2 S3 h3
  replace bb := bb.ar hq h2 h3 rfl rfl
  clear h2 h3 hq
  intro q hq S2 h2 S3 h3
  replace bb := bb.ar hq h2 h3 rfl rfl
  clear h2 h3 hq
  intro q hq S2 h2 S3 h3
  replace bb := bb.ar hq h2 h3 rfl rfl
  clear h2 h3 hq
  replace bb := bb.sk (by decide)
  replace bb := bb.sk (by decide)
  intro q hq S2 h2 S3 h3
  replace bb := bb.ar hq h2 h3 rfl rfl
  clear h2 h3 hq
  intro q hq S2 h2 S3 h3
  replace bb := bb.ar hq h2 h3 rfl rfl
  clear h2 h3 hq
  intro q hq S2 h2 S3 h3
  replace bb := bb.ar hq h2 h3 rfl rfl
  clear h2 h3 hq
  exact hQ _ bb
theorem i_X5 {Q : PS → Prop} (h : Rf S a 4) (hQ : ∀ S', Bt S S' a 4 40 43 → Q S') : wp_X5_init a S Q := by
  have bb := Bt.be (lo := 40) h
  unfold wp_X5_init
  intro q hq S2 h2 S3 h3
  replace bb := bb.ar hq h2 h3 rfl rfl
  clear h2 h3 hq
  replace bb := bb.sk (by decide)
  intro q hq S2 h2 S3 h3
  replace bb := bb.ar hq h2 h3 rfl rfl
  clear h2 h3 hq
  exact hQ _ bb
/-- a row of zeros in a field -/
def Fz (L : List Nat) (S : PS) (a j : Nat) : Prop := ∃ x, fR S j a = some x ∧ x ∉ L ∧ Rf S x (fG j) ∧ aN S x = szA j ∧ ∀ r i, aI S r x i = 0 ∧ aL S r x i = 0 ∧ aR S r x i = none
theorem Bt.fz (h : Bt S0 S a k lo n) (h1 : lo ≤ j) (h2 : j < n) (h3 : fT j = 2) : Fz (pL S0) S a j := by
  obtain ⟨x, x1, x2, x3, x4, x5⟩ := h.1.2.2 j h1 h2 h3
  exact ⟨x, x1, x2, x3, x4, x5⟩
theorem i_X7 {Q : PS → Prop} {p f : Nat} (hQ : ∀ S', From S S' a → (∀ j, fI S' j a = fI S j a ∧ fL S' j a = fL S j a) → fR S' 58 a = some p → fR S' 59 a = some f → Fz (pL S) S' a 63 → Q S') : wp_X7_init a p f S Q := by
  unfold wp_X7_init
  rintro _ rfl _ rfl q hq _ rfl _ rfl
  have fm : From S (sR (sR S 58 a (some p)) 59 a (some f)) a := From.rf.sR.sR
  have z := Zero.mkA (r := 26) (N := 4) fm hq
  refine hQ _ ((fm.mkA hq).sR) (fun j => ⟨rfl, rfl⟩) ?_ ?_ ⟨q, ?_, z.1, z.2.1, z.2.2.1, z.2.2.2⟩
  · rw [fR_sR, if_neg (fun y => absurd y.1 (by decide)), fR_nA, fR_sR, if_neg (fun y => absurd y.1 (by decide)), fR_sR, if_pos ⟨rfl, rfl⟩]
  · rw [fR_sR, if_neg (fun y => absurd y.1 (by decide)), fR_nA, fR_sR, if_pos ⟨rfl, rfl⟩]
  · rw [fR_sR, if_pos ⟨rfl, rfl⟩]
theorem i_X3 {Q : PS → Prop} {p f : Nat} (hQ : ∀ S', From S S' a → (∀ j, fI S' j a = fI S j a ∧ fL S' j a = fL S j a) → fR S' 21 a = some p → fR S' 22 a = some f → Fz (pL S) S' a 23 → Q S') : wp_X3_init a p f S Q := by
  unfold wp_X3_init
  rintro _ rfl _ rfl q hq _ rfl _ rfl _ rfl
  have fm : From S (sR (sR S 21 a (some p)) 22 a (some f)) a := From.rf.sR.sR
  have z := Zero.mkA (r := 13) (N := 201) fm hq
  refine hQ _ ((fm.mkA hq).sR.sR) (fun j => ⟨rfl, rfl⟩) ?_ ?_ ⟨q, ?_, z.1, z.2.1, z.2.2.1, z.2.2.2⟩
  · rw [fR_sR, if_neg (fun y => absurd y.1 (by decide)), fR_sR, if_neg (fun y => absurd y.1 (by decide)), fR_nA, fR_sR, if_neg (fun y => absurd y.1 (by decide)), fR_sR, if_pos ⟨rfl, rfl⟩]
  · rw [fR_sR, if_neg (fun y => absurd y.1 (by decide)), fR_sR, if_neg (fun y => absurd y.1 (by decide)), fR_nA, fR_sR, if_pos ⟨rfl, rfl⟩]
  · rw [fR_sR, if_neg (fun y => absurd y.1 (by decide)), fR_sR, if_pos ⟨rfl, rfl⟩]
/-- meters -/
def Mt0 (L : List Nat) (S : PS) (a : Nat) : Prop := Rf S a 2 ∧ fI S 17 a = 1 ∧ (∃ x, fR S 18 a = some x ∧ x ∉ L ∧ Rf S x 10 ∧ aN S x = 40 ∧ aL S 10 x 0 = 0) ∧ (∃ x, fR S 19 a = some x ∧ x ∉ L ∧ Rf S x 11 ∧ aN S x = 40 ∧ aI S 11 x 0 = 4) ∧ ∃ x, fR S 20 a = some x ∧ x ∉ L ∧ Rf S x 12 ∧ aN S x = 40 ∧ aI S 12 x 0 = 4
theorem i_X2 {Q : PS → Prop} (h : Rf S a 2) (hQ : ∀ S', Kws (fun b => b = a) S S' → Mt0 (pL S) S' a → Q S') : wp_X2_init a S Q := by
  have bb := Bt.be (lo := 18) h
  unfold wp_X2_init
  intro q hq S2 h2 S3 h3
  replace bb := bb.ar hq h2 h3 rfl rfl
  clear h2 h3 hq
  intro q hq S2 h2 S3 h3
  replace bb := bb.ar hq h2 h3 rfl rfl
  clear h2 h3 hq
  intro q hq S2 h2 S3 h3
  replace bb := bb.ar hq h2 h3 rfl rfl
  clear h2 h3 hq
  have ha := bb.1.1
  have fm := bb.1.2.1
  obtain ⟨x10, a1, a2, a3, a4, a5⟩ := bb.fz (j := 18) (by omega) (by omega) (by decide)
  obtain ⟨x11, b1, b2, b3, b4, b5⟩ := bb.fz (j := 19) (by omega) (by omega) (by decide)
  obtain ⟨x12, c1, c2, c3, c4, c5⟩ := bb.fz (j := 20) (by omega) (by omega) (by decide)
  rintro _ rfl
  refine ⟨x11, b1, by rw [aN_sI, b4]; exact vp_in_nI (n := 0) (N := 40) (by omega) (by omega), ?_⟩
  rintro _ rfl
  refine ⟨x12, c1, by rw [aN_wI, aN_sI, c4]; exact vp_in_nI (n := 0) (N := 40) (by omega) (by omega), ?_⟩
  rintro _ rfl
  have n1 : x10 ≠ x11 := fun e => by rw [e] at a3; have := a3.2.symm.trans b3.2; exact absurd this (by decide)
  have kw : Kws (fun b => b = a) S S3 := ⟨fm.1, fun b hb hw => fm.2 b hb hw⟩
  refine hQ _ (((kw.sI (Or.inl rfl)).wI (Or.inr b2)).wI (Or.inr c2)) ⟨ha, ?_, ⟨x10, a1, a2, a3, a4, (a5 10 0).2.1⟩, ⟨x11, b1, b2, b3, b4, ?_⟩, ⟨x12, c1, c2, c3, c4, ?_⟩⟩
  · rw [fI_wI, fI_wI, fI_s]
  · rw [aI_wI, if_neg (fun y => absurd y.1 (by decide)), aI_wI, if_pos ⟨rfl, rfl, rfl⟩]
  · rw [aI_wI, if_pos ⟨rfl, rfl, rfl⟩]
/-- a score -/
def Sc0 (L : List Nat) (S : PS) (a : Nat) : Prop := Rf S a 7 ∧ (∀ j, 69 ≤ j → j < 83 → fT j = 2 → Fz L S a j) ∧ (fI S 70 a = 0 ∧ fI S 79 a = 1 ∧ fI S 84 a = 0 ∧ fI S 85 a = 0 ∧ fL S 86 a = 0) ∧ ∃ m, fR S 83 a = some m ∧ m ∉ L ∧ Mt0 L S m
theorem From.kw (h : From S0 S a) : Kws (fun b => b = a) S0 S := ⟨h.1, fun b hb hw => h.2 b hb hw⟩
/-- stays when another cell is written -/
theorem Fz.kw {L : List Nat} (h : Fz L S a j) (ha : a ∈ pL S) (hw : a ≠ b) (hx : ∀ x, Rf S x (fG j) → x ≠ b) (k : Kws (fun y => y = b) S S') : Fz L S' a j := by
  obtain ⟨x, x1, x2, x3, x4, x5⟩ := h
  have sa := k.2 a ha hw
  have sx := k.2 x x3.1 (hx x x3)
  exact ⟨x, by rw [sa.fR]; exact x1, x2, x3.tr k.1, by rw [(k.1 x x3.1).2.2]; exact x4, fun r i => ⟨((sx.2 r i).1).trans (x5 r i).1, ((sx.2 r i).2.1).trans (x5 r i).2.1, ((sx.2 r i).2.2).trans (x5 r i).2.2⟩⟩
theorem Mt0.kw {L : List Nat} (h : Mt0 L S a) (hw : a ≠ b) (hb : ∀ x r, Rf S x r → 10 ≤ r → x ≠ b) (k : Kws (fun y => y = b) S S') : Mt0 L S' a := by
  obtain ⟨h1, h2, ⟨x, x1, x2, x3, x4, x5⟩, ⟨y, y1, y2, y3, y4, y5⟩, z, z1, z2, z3, z4, z5⟩ := h
  have sa := k.2 a h1.1 hw
  have sx := k.2 x x3.1 (hb x 10 x3 (by omega))
  have sy := k.2 y y3.1 (hb y 11 y3 (by omega))
  have sz := k.2 z z3.1 (hb z 12 z3 (by omega))
  exact ⟨h1.tr k.1, by rw [sa.fI]; exact h2, ⟨x, by rw [sa.fR]; exact x1, x2, x3.tr k.1, by rw [(k.1 x x3.1).2.2]; exact x4, by rw [sx.aL]; exact x5⟩, ⟨y, by rw [sa.fR]; exact y1, y2, y3.tr k.1, by rw [(k.1 y y3.1).2.2]; exact y4, by rw [sy.aI]; exact y5⟩, z, by rw [sa.fR]; exact z1, z2, z3.tr k.1, by rw [(k.1 z z3.1).2.2]; exact z4, by rw [sz.aI]; exact z5⟩
theorem Sc0.kw {L : List Nat} (h : Sc0 L S a) (hw : a ≠ b) (hb : ∀ x r, Rf S x r → 10 ≤ r ∨ r = 2 → x ≠ b) (k : Kws (fun y => y = b) S S') : Sc0 L S' a := by
  obtain ⟨h1, h2, ⟨i1, i2, i3, i4, i5⟩, m, m1, m2, m3⟩ := h
  have sa := k.2 a h1.1 hw
  have q : ∀ j, 69 ≤ j → j < 83 → fT j = 2 → 10 ≤ fG j := by
    intro j a1 a2
    have hh : j = 69 ∨ j = 70 ∨ j = 71 ∨ j = 72 ∨ j = 73 ∨ j = 74 ∨ j = 75 ∨ j = 76 ∨ j = 77 ∨ j = 78 ∨ j = 79 ∨ j = 80 ∨ j = 81 ∨ j = 82 := by omega
    rcases hh with rfl | rfl | rfl | rfl | rfl | rfl | rfl | rfl | rfl | rfl | rfl | rfl | rfl | rfl <;> decide
  exact ⟨h1.tr k.1, fun j a1 a2 a3 => (h2 j a1 a2 a3).kw h1.1 hw (fun x hx => hb x _ hx (Or.inl (q j a1 a2 a3))) k, ⟨by rw [sa.fI]; exact i1, by rw [sa.fI]; exact i2, by rw [sa.fI]; exact i3, by rw [sa.fI]; exact i4, by rw [sa.fL]; exact i5⟩, m, by rw [sa.fR]; exact m1, m2, m3.kw (hb m 2 m3.1 (Or.inr rfl)) (fun x r hx hr => hb x r hx (Or.inl hr)) k⟩
theorem i_X8 {Q : PS → Prop} (h : Rf S a 7) (hz : ∀ j, fI S j a = 0 ∧ fL S j a = 0) (hQ : ∀ S', Kws (fun b => b = a) S S' → Sc0 (pL S) S' a → Q S') : wp_X8_init a S Q := by
  have bb := Bt.be (lo := 69) h
  unfold wp_X8_init
  intro q hq S2 h2 S3 h3
  replace bb := bb.ar hq h2 h3 rfl rfl
  clear h2 h3 hq
  replace bb := bb.sk (by decide)
  intro q hq S2 h2 S3 h3
  replace bb := bb.ar hq h2 h3 rfl rfl
  clear h2 h3 hq
  intro q hq S2 h2 S3 h3
  replace bb := bb.ar hq h2 h3 rfl rfl
  clear h2 h3 hq
  intro q hq S2 h2 S3 h3
  replace bb := bb.ar hq h2 h3 rfl rfl
  clear h2 h3 hq
  intro q hq S2 h2 S3 h3
  replace bb := bb.ar hq h2 h3 rfl rfl
  clear h2 h3 hq
  intro q hq S2 h2 S3 h3
  replace bb := bb.ar hq h2 h3 rfl rfl
  clear h2 h3 hq
  intro q hq S2 h2 S3 h3
  replace bb := bb.ar hq h2 h3 rfl rfl
  clear h2 h3 hq
  intro q hq S2 h2 S3 h3
  replace bb := bb.ar hq h2 h3 rfl rfl
  clear h2 h3 hq
  intro q hq S2 h2 S3 h3
  replace bb := bb.ar hq h2 h3 rfl rfl
  clear h2 h3 hq
  replace bb := bb.sk (by decide)
  intro q hq S2 h2 S3 h3
  replace bb := bb.ar hq h2 h3 rfl rfl
  clear h2 h3 hq
  intro q hq S2 h2 S3 h3
  replace bb := bb.ar hq h2 h3 rfl rfl
  clear h2 h3 hq
  intro q hq S2 h2 S3 h3
  replace bb := bb.ar hq h2 h3 rfl rfl
  clear h2 h3 hq
  have ha := bb.1.1
  have fm := bb.1.2.1
  intro q hq S38 h38
  have kq : Kws (fun b => b = a) S S38 := by rw [h38]; exact fm.kw.mkO hq
  have hq0 : q ∉ pL S := fun e => hq (fm.1 q e).1
  have hqa : a ≠ q := fun e => hq (by rw [← e]; exact ha.1)
  have rq : Rf S38 q 2 := by rw [h38]; exact Rf.mkO
  have sub : ∀ x, x ∈ pL S → x ∈ pL S38 := fun x hx => (kq.1 x hx).1
  have k0 : Kws (fun b => b = q) S3 S38 := by rw [h38]; exact Kws.rf.mkO hq
  refine i_X2 rq (fun S39 k39 mt => ?_)
  rintro _ rfl _ rfl
  have k2 : Kws (fun b => b = q) S3 S39 := k0.tr k39
  have fz : ∀ j, 69 ≤ j → j < 83 → fT j = 2 → Fz (pL S) S39 a j := fun j a1 a2 a3 => (bb.fz a1 a2 a3).kw ha.1 hqa (fun x hx e => hq (by rw [← e]; exact hx.1)) k2
  have sa := k2.2 a ha.1 hqa
  have kk : Kws (fun b => b = a) S S39 := ⟨fm.1.tr k2.1, fun b hb hw => (fm.2 b hb hw).tr (k2.2 b (fm.1 b hb).1 (fun e => hq (by rw [← e]; exact (fm.1 b hb).1)))⟩
  have iz : ∀ j, fI S39 j a = 0 ∧ fL S39 j a = 0 := fun j => ⟨by rw [sa.fI, (bb.2 j).1]; exact (hz j).1, by rw [sa.fL, (bb.2 j).2]; exact (hz j).2⟩
  have ra : Rf S39 a 7 := ha.tr k2.1
  have mt' : Mt0 (pL S) S39 q := by
    obtain ⟨h1, h2, ⟨x, x1, x2, x3⟩, ⟨y, y1, y2, y3⟩, z, z1, z2, z3⟩ := mt
    exact ⟨h1, h2, ⟨x, x1, fun e => x2 (sub x e), x3⟩, ⟨y, y1, fun e => y2 (sub y e), y3⟩, z, z1, fun e => z2 (sub z e), z3⟩
  have kf : Kws (fun b => b = a) S39 (sI (sR S39 83 a (some q)) 79 a 1) := (Kws.sR (W := fun b => b = a) Kws.rf (Or.inl rfl)).sI (Or.inl rfl)
  refine hQ _ (kk.tr kf) ⟨ra, fun j a1 a2 a3 => ?_, ⟨?_, ?_, ?_, ?_, ?_⟩, q, ?_, hq0, mt'.kw (fun e => hqa e.symm) (fun x r hx hr e => ?_) kf⟩
  · obtain ⟨x, x1, x2, x3, x4, x5⟩ := fz j a1 a2 a3
    exact ⟨x, by rw [fR_sI, fR_sR, if_neg (fun y => by omega)]; exact x1, x2, x3, x4, x5⟩
  · rw [fI_sn _ _ _ _ _ (by decide), fI_sR]; exact (iz 70).1
  · rw [fI_s]
  · rw [fI_sn _ _ _ _ _ (by decide), fI_sR]; exact (iz 84).1
  · rw [fI_sn _ _ _ _ _ (by decide), fI_sR]; exact (iz 85).1
  · rw [fL_sI, fL_sR]; exact (iz 86).2
  · rw [fR_sI, fR_sR, if_pos ⟨rfl, rfl⟩]
  · rw [e] at hx
    have := hx.2.symm.trans ra.2
    omega
/-- the reference -/
def Rf0 (L : List Nat) (S : PS) (a : Nat) : Prop := Rf S a 9 ∧ (∀ j, 97 ≤ j → j < 213 → fT j = 2 → ∃ x, fR S j a = some x ∧ x ∉ L ∧ Rf S x (fG j) ∧ aN S x = szA j ∧ ∀ r i, r ≠ 116 → r ≠ 117 → aI S r x i = 0 ∧ aL S r x i = 0) ∧ (∀ j, j ≠ 207 → j ≠ 210 → fI S j a = 0) ∧ (∀ j, fL S j a = 0) ∧ fI S 207 a = 1 ∧ fI S 210 a = 1 ∧ (∃ x, fR S 204 a = some x ∧ aI S 116 x 0 = 4) ∧ ∃ x, fR S 205 a = some x ∧ aI S 117 x 0 = 4
set_option maxHeartbeats 4000000 in
theorem i_X12 {Q : PS → Prop} (h : Rf S a 9) (hz : ∀ j, fI S j a = 0 ∧ fL S j a = 0) (hQ : ∀ S', Kws (fun b => b = a) S S' → Rf0 (pL S) S' a → Q S') : wp_X12_init a S Q := by
  have bb := Bt.be (lo := 97) h
  unfold wp_X12_init
  intro q hq S2 h2 S3 h3
  replace bb := bb.ar hq h2 h3 rfl rfl
  clear h2 h3 hq
  replace bb := bb.sk (by decide)
  intro q hq S2 h2 S3 h3
  replace bb := bb.ar hq h2 h3 rfl rfl
  clear h2 h3 hq
  replace bb := bb.sk (by decide)
  replace bb := bb.sk (by decide)
  replace bb := bb.sk (by decide)
  replace bb := bb.sk (by decide)
  replace bb := bb.sk (by decide)
  intro q hq S2 h2 S3 h3
  replace bb := bb.ar hq h2 h3 rfl rfl
  clear h2 h3 hq
  intro q hq S2 h2 S3 h3
  replace bb := bb.ar hq h2 h3 rfl rfl
  clear h2 h3 hq
  intro q hq S2 h2 S3 h3
  replace bb := bb.ar hq h2 h3 rfl rfl
  clear h2 h3 hq
  intro q hq S2 h2 S3 h3
  replace bb := bb.ar hq h2 h3 rfl rfl
  clear h2 h3 hq
  intro q hq S2 h2 S3 h3
  replace bb := bb.ar hq h2 h3 rfl rfl
  clear h2 h3 hq
  intro q hq S2 h2 S3 h3
  replace bb := bb.ar hq h2 h3 rfl rfl
  clear h2 h3 hq
  intro q hq S2 h2 S3 h3
  replace bb := bb.ar hq h2 h3 rfl rfl
  clear h2 h3 hq
  intro q hq S2 h2 S3 h3
  replace bb := bb.ar hq h2 h3 rfl rfl
  clear h2 h3 hq
  replace bb := bb.sk (by decide)
  intro q hq S2 h2 S3 h3
  replace bb := bb.ar hq h2 h3 rfl rfl
  clear h2 h3 hq
  intro q hq S2 h2 S3 h3
  replace bb := bb.ar hq h2 h3 rfl rfl
  clear h2 h3 hq
  intro q hq S2 h2 S3 h3
  replace bb := bb.ar hq h2 h3 rfl rfl
  clear h2 h3 hq
  replace bb := bb.sk (by decide)
  intro q hq S2 h2 S3 h3
  replace bb := bb.ar hq h2 h3 rfl rfl
  clear h2 h3 hq
  intro q hq S2 h2 S3 h3
  replace bb := bb.ar hq h2 h3 rfl rfl
  clear h2 h3 hq
  replace bb := bb.sk (by decide)
  intro q hq S2 h2 S3 h3
  replace bb := bb.ar hq h2 h3 rfl rfl
  clear h2 h3 hq
  intro q hq S2 h2 S3 h3
  replace bb := bb.ar hq h2 h3 rfl rfl
  clear h2 h3 hq
  intro q hq S2 h2 S3 h3
  replace bb := bb.ar hq h2 h3 rfl rfl
  clear h2 h3 hq
  intro q hq S2 h2 S3 h3
  replace bb := bb.ar hq h2 h3 rfl rfl
  clear h2 h3 hq
  replace bb := bb.sk (by decide)
  replace bb := bb.sk (by decide)
  intro q hq S2 h2 S3 h3
  replace bb := bb.ar hq h2 h3 rfl rfl
  clear h2 h3 hq
  intro q hq S2 h2 S3 h3
  replace bb := bb.ar hq h2 h3 rfl rfl
  clear h2 h3 hq
  replace bb := bb.sk (by decide)
  intro q hq S2 h2 S3 h3
  replace bb := bb.ar hq h2 h3 rfl rfl
  clear h2 h3 hq
  intro q hq S2 h2 S3 h3
  replace bb := bb.ar hq h2 h3 rfl rfl
  clear h2 h3 hq
  intro q hq S2 h2 S3 h3
  replace bb := bb.ar hq h2 h3 rfl rfl
  clear h2 h3 hq
  intro q hq S2 h2 S3 h3
  replace bb := bb.ar hq h2 h3 rfl rfl
  clear h2 h3 hq
  replace bb := bb.sk (by decide)
  intro q hq S2 h2 S3 h3
  replace bb := bb.ar hq h2 h3 rfl rfl
  clear h2 h3 hq
  intro q hq S2 h2 S3 h3
  replace bb := bb.ar hq h2 h3 rfl rfl
  clear h2 h3 hq
  intro q hq S2 h2 S3 h3
  replace bb := bb.ar hq h2 h3 rfl rfl
  clear h2 h3 hq
  intro q hq S2 h2 S3 h3
  replace bb := bb.ar hq h2 h3 rfl rfl
  clear h2 h3 hq
  intro q hq S2 h2 S3 h3
  replace bb := bb.ar hq h2 h3 rfl rfl
  clear h2 h3 hq
  intro q hq S2 h2 S3 h3
  replace bb := bb.ar hq h2 h3 rfl rfl
  clear h2 h3 hq
  intro q hq S2 h2 S3 h3
  replace bb := bb.ar hq h2 h3 rfl rfl
  clear h2 h3 hq
  intro q hq S2 h2 S3 h3
  replace bb := bb.ar hq h2 h3 rfl rfl
  clear h2 h3 hq
  intro q hq S2 h2 S3 h3
  replace bb := bb.ar hq h2 h3 rfl rfl
  clear h2 h3 hq
  intro q hq S2 h2 S3 h3
  replace bb := bb.ar hq h2 h3 rfl rfl
  clear h2 h3 hq
  intro q hq S2 h2 S3 h3
  replace bb := bb.ar hq h2 h3 rfl rfl
  clear h2 h3 hq
  replace bb := bb.sk (by decide)
  intro q hq S2 h2 S3 h3
  replace bb := bb.ar hq h2 h3 rfl rfl
  clear h2 h3 hq
  intro q hq S2 h2 S3 h3
  replace bb := bb.ar hq h2 h3 rfl rfl
  clear h2 h3 hq
  replace bb := bb.sk (by decide)
  intro q hq S2 h2 S3 h3
  replace bb := bb.ar hq h2 h3 rfl rfl
  clear h2 h3 hq
  intro q hq S2 h2 S3 h3
  replace bb := bb.ar hq h2 h3 rfl rfl
  clear h2 h3 hq
  intro q hq S2 h2 S3 h3
  replace bb := bb.ar hq h2 h3 rfl rfl
  clear h2 h3 hq
  replace bb := bb.sk (by decide)
  replace bb := bb.sk (by decide)
  replace bb := bb.sk (by decide)
  replace bb := bb.sk (by decide)
  replace bb := bb.sk (by decide)
  replace bb := bb.sk (by decide)
  replace bb := bb.sk (by decide)
  replace bb := bb.sk (by decide)
  replace bb := bb.sk (by decide)
  replace bb := bb.sk (by decide)
  replace bb := bb.sk (by decide)
  replace bb := bb.sk (by decide)
  replace bb := bb.sk (by decide)
  replace bb := bb.sk (by decide)
  intro q hq S2 h2 S3 h3
  replace bb := bb.ar hq h2 h3 rfl rfl
  clear h2 h3 hq
  intro q hq S2 h2 S3 h3
  replace bb := bb.ar hq h2 h3 rfl rfl
  clear h2 h3 hq
  replace bb := bb.sk (by decide)
  intro q hq S2 h2 S3 h3
  replace bb := bb.ar hq h2 h3 rfl rfl
  clear h2 h3 hq
  intro q hq S2 h2 S3 h3
  replace bb := bb.ar hq h2 h3 rfl rfl
  clear h2 h3 hq
  intro q hq S2 h2 S3 h3
  replace bb := bb.ar hq h2 h3 rfl rfl
  clear h2 h3 hq
  intro q hq S2 h2 S3 h3
  replace bb := bb.ar hq h2 h3 rfl rfl
  clear h2 h3 hq
  intro q hq S2 h2 S3 h3
  replace bb := bb.ar hq h2 h3 rfl rfl
  clear h2 h3 hq
  intro q hq S2 h2 S3 h3
  replace bb := bb.ar hq h2 h3 rfl rfl
  clear h2 h3 hq
  intro q hq S2 h2 S3 h3
  replace bb := bb.ar hq h2 h3 rfl rfl
  clear h2 h3 hq
  intro q hq S2 h2 S3 h3
  replace bb := bb.ar hq h2 h3 rfl rfl
  clear h2 h3 hq
  intro q hq S2 h2 S3 h3
  replace bb := bb.ar hq h2 h3 rfl rfl
  clear h2 h3 hq
  intro q hq S2 h2 S3 h3
  replace bb := bb.ar hq h2 h3 rfl rfl
  clear h2 h3 hq
  intro q hq S2 h2 S3 h3
  replace bb := bb.ar hq h2 h3 rfl rfl
  clear h2 h3 hq
  intro q hq S2 h2 S3 h3
  replace bb := bb.ar hq h2 h3 rfl rfl
  clear h2 h3 hq
  intro q hq S2 h2 S3 h3
  replace bb := bb.ar hq h2 h3 rfl rfl
  clear h2 h3 hq
  intro q hq S2 h2 S3 h3
  replace bb := bb.ar hq h2 h3 rfl rfl
  clear h2 h3 hq
  intro q hq S2 h2 S3 h3
  replace bb := bb.ar hq h2 h3 rfl rfl
  clear h2 h3 hq
  intro q hq S2 h2 S3 h3
  replace bb := bb.ar hq h2 h3 rfl rfl
  clear h2 h3 hq
  intro q hq S2 h2 S3 h3
  replace bb := bb.ar hq h2 h3 rfl rfl
  clear h2 h3 hq
  intro q hq S2 h2 S3 h3
  replace bb := bb.ar hq h2 h3 rfl rfl
  clear h2 h3 hq
  replace bb := bb.sk (by decide)
  intro q hq S2 h2 S3 h3
  replace bb := bb.ar hq h2 h3 rfl rfl
  clear h2 h3 hq
  intro q hq S2 h2 S3 h3
  replace bb := bb.ar hq h2 h3 rfl rfl
  clear h2 h3 hq
  intro q hq S2 h2 S3 h3
  replace bb := bb.ar hq h2 h3 rfl rfl
  clear h2 h3 hq
  intro q hq S2 h2 S3 h3
  replace bb := bb.ar hq h2 h3 rfl rfl
  clear h2 h3 hq
  intro q hq S2 h2 S3 h3
  replace bb := bb.ar hq h2 h3 rfl rfl
  clear h2 h3 hq
  intro q hq S2 h2 S3 h3
  replace bb := bb.ar hq h2 h3 rfl rfl
  clear h2 h3 hq
  intro q hq S2 h2 S3 h3
  replace bb := bb.ar hq h2 h3 rfl rfl
  clear h2 h3 hq
  intro q hq S2 h2 S3 h3
  replace bb := bb.ar hq h2 h3 rfl rfl
  clear h2 h3 hq
  intro q hq S2 h2 S3 h3
  replace bb := bb.ar hq h2 h3 rfl rfl
  clear h2 h3 hq
  intro q hq S2 h2 S3 h3
  replace bb := bb.ar hq h2 h3 rfl rfl
  clear h2 h3 hq
  intro q hq S2 h2 S3 h3
  replace bb := bb.ar hq h2 h3 rfl rfl
  clear h2 h3 hq
  intro q hq S2 h2 S3 h3
  replace bb := bb.ar hq h2 h3 rfl rfl
  clear h2 h3 hq
  intro q hq S2 h2 S3 h3
  replace bb := bb.ar hq h2 h3 rfl rfl
  clear h2 h3 hq
  intro q hq S2 h2 S3 h3
  replace bb := bb.ar hq h2 h3 rfl rfl
  clear h2 h3 hq
  intro q hq S2 h2 S3 h3
  replace bb := bb.ar hq h2 h3 rfl rfl
  clear h2 h3 hq
  intro q hq S2 h2 S3 h3
  replace bb := bb.ar hq h2 h3 rfl rfl
  clear h2 h3 hq
  intro q hq S2 h2 S3 h3
  replace bb := bb.ar hq h2 h3 rfl rfl
  clear h2 h3 hq
  intro S235 h235 S236 h236
  have b2 : Built S S236 a 9 97 212 szA := by
    rw [h236, h235]
    exact ((((((bb.sk (by decide)).sk (by decide)).sk (by decide)).sk (by decide)).sk (by decide)).sk (by decide)).1.sI.sI
  have i2 : ∀ j, j ≠ 207 → j ≠ 210 → fI S236 j a = 0 := fun j a1 a2 => by rw [h236, h235, fI_sn _ _ _ _ _ a2, fI_sn _ _ _ _ _ a1, (bb.2 j).1]; exact (hz j).1
  have l2 : ∀ j, fL S236 j a = 0 := fun j => by rw [h236, h235, fL_sI, fL_sI, (bb.2 j).2]; exact (hz j).2
  have i207 : fI S236 207 a = 1 := by rw [h236, h235, fI_sn _ _ _ _ _ (by decide), fI_s]
  have i210 : fI S236 210 a = 1 := by rw [h236, h235, fI_s]
  clear h236 h235 bb S235
  intro q hq S238 h238 S239 h239
  have b3 : Built S S239 a 9 97 213 szA := by rw [h239, h238]; exact b2.arr hq rfl rfl
  have fi3 : fI S239 = fI S236 := by rw [h239, h238]; rfl
  have fl3 : fL S239 = fL S236 := by rw [h239, h238]; rfl
  clear h238 h239
  obtain ⟨x, x1, x2, x3, x4, x5⟩ := b3.2.2 204 (by omega) (by omega) (by decide)
  obtain ⟨y, y1, y2, y3, y4, y5⟩ := b3.2.2 205 (by omega) (by omega) (by decide)
  have x4' : aN S239 x = 40 := x4
  have y4' : aN S239 y = 40 := y4
  refine ⟨x, x1, by rw [x4']; exact vp_in_nI (n := 0) (N := 40) (by omega) (by omega), ?_⟩
  rintro _ rfl
  refine ⟨y, y1, by rw [aN_wI, y4']; exact vp_in_nI (n := 0) (N := 40) (by omega) (by omega), ?_⟩
  rintro _ rfl
  have fm := b3.2.1
  refine hQ _ ((fm.kw.wI (Or.inr x2)).wI (Or.inr y2)) ⟨b3.1, fun j a1 a2 a3 => ?_, fun j a1 a2 => ?_, fun j => ?_, ?_, ?_, ⟨x, x1, ?_⟩, ⟨y, y1, ?_⟩⟩
  · obtain ⟨z, z1, z2, z3, z4, z5⟩ := b3.2.2 j a1 a2 a3
    refine ⟨z, z1, z2, z3, z4, fun r i r1 r2 => ⟨?_, (z5 r i).2.1⟩⟩
    rw [aI_wn _ _ _ _ _ _ r2, aI_wn _ _ _ _ _ _ r1]; exact (z5 r i).1
  · rw [fI_wI, fI_wI, fi3]; exact i2 j a1 a2
  · rw [fL_wI, fL_wI, fl3]; exact l2 j
  · rw [fI_wI, fI_wI, fi3]; exact i207
  · rw [fI_wI, fI_wI, fi3]; exact i210
  · rw [aI_wI, if_neg (fun y => absurd y.1 (by decide)), aI_wI, if_pos ⟨rfl, rfl, rfl⟩]
  · rw [aI_wI, if_pos ⟨rfl, rfl, rfl⟩]
end
