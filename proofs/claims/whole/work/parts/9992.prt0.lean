/-! Writing: the class's printer. -/
def bt (x : Int32) : Int32 := vp_nar .byte (x.toInt8.toInt32)
/-- its rooms -/
def capv (c : Nat) : Nat := if c = 0 then 256 else if c = 1 then 768 else if c = 2 then 1792 else if c = 3 then 3840 else if c = 4 then 7936 else if c = 5 then 16128 else if c = 6 then 32512 else 40000
def smv (c : Nat) : Nat := if c = 0 then 0 else if c = 1 then 768 else if c = 2 then 2560 else if c = 3 then 6400 else if c = 4 then 14336 else if c = 5 then 30464 else if c = 6 then 62976 else 102976
def lvl (L : Nat) : Nat := if L ≤ 256 then 0 else if L ≤ 768 then 1 else if L ≤ 1792 then 2 else if L ≤ 3840 then 3 else if L ≤ 7936 then 4 else if L ≤ 16128 then 5 else if L ≤ 32512 then 6 else 7
def mxl (c L : Nat) : Nat := if c ≤ lvl L then lvl L else c
def Dle (c c' : Nat) (k : Nat × Nat) : Prop := c' - c ≤ k.1 ∧ smv c' - smv c ≤ k.2
def dif (c c' : Nat) : Nat × Nat := (c' - c, smv c' - smv c)
theorem smv_mono {a b : Nat} (h : a ≤ b) : smv a ≤ smv b := by unfold smv; (repeat' split) <;> omega
theorem lvl_mono {a b : Nat} (h : a ≤ b) : lvl a ≤ lvl b := by unfold lvl; (repeat' split) <;> omega
theorem lvl_7 {a : Nat} : lvl a ≤ 7 := by unfold lvl; (repeat' split) <;> omega
theorem mxl_ge {c L : Nat} : c ≤ mxl c L := by unfold mxl; split <;> omega
theorem mxl_mono {c a b : Nat} (h : a ≤ b) : mxl c a ≤ mxl c b := by have := lvl_mono h; unfold mxl; (repeat' split) <;> omega
theorem mxl_mxl {c a b : Nat} (h : a ≤ b) : mxl (mxl c a) b = mxl c b := by have := lvl_mono h; unfold mxl; (repeat' split) <;> omega
theorem mxl_self {c L : Nat} (h : lvl L ≤ c) : mxl c L = c := by unfold mxl; split <;> omega
theorem mxl_lv {c L : Nat} : lvl L ≤ mxl c L := by unfold mxl; split <;> omega
theorem mxl_7 {c L : Nat} (h : c ≤ 7) : mxl c L ≤ 7 := by have := lvl_7 (a := L); unfold mxl; split <;> omega
theorem Dle.fst {c c1 c2 : Nat} {k : Nat × Nat} (h : Dle c c2 k) (h1 : c ≤ c1) (h2 : c1 ≤ c2) : (dif c c1).1 ≤ k.1 ∧ (dif c c1).2 ≤ k.2 := by
  have a := smv_mono h1; have b := smv_mono h2
  unfold Dle at h
  unfold dif
  exact ⟨by show c1 - c ≤ k.1; omega, by show smv c1 - smv c ≤ k.2; omega⟩
theorem Dle.snd {c c1 c2 : Nat} {k : Nat × Nat} (h : Dle c c2 k) (h1 : c ≤ c1) (h2 : c1 ≤ c2) : Dle c1 c2 (k.1 - (dif c c1).1, k.2 - (dif c c1).2) := by
  have a := smv_mono h1; have b := smv_mono h2
  unfold Dle at h ⊢
  unfold dif
  exact ⟨by show c2 - c1 ≤ k.1 - (c1 - c); omega, by show smv c2 - smv c1 ≤ k.2 - (smv c1 - smv c); omega⟩
theorem Dle.rf {c c' : Nat} : Dle c c' (dif c c') := ⟨Nat.le_refl _, Nat.le_refl _⟩
theorem capv_lv {c n : Nat} (hc : c ≤ 7) (h : n ≤ 40000) : lvl n ≤ c ↔ n ≤ capv c := by
  unfold lvl capv
  have hh : c = 0 ∨ c = 1 ∨ c = 2 ∨ c = 3 ∨ c = 4 ∨ c = 5 ∨ c = 6 ∨ c = 7 := by omega
  rcases hh with rfl | rfl | rfl | rfl | rfl | rfl | rfl | rfl <;> (simp only [reduceIte, Nat.reduceEqDiff]; repeat' split) <;> omega
theorem capv_b {c : Nat} : 256 ≤ capv c ∧ capv c ≤ 40000 := by unfold capv; (repeat' split) <;> omega
theorem capv_up {c : Nat} (h : c < 7) : (if 2 * capv c + 256 < 40000 then 2 * capv c + 256 else 40000) = capv (c + 1) ∧ smv (c + 1) - smv c = capv (c + 1) ∧ capv c < capv (c + 1) ∧ lvl (capv c + 1) = c + 1 ∧ capv c < 40000 := by
  have hh : c = 0 ∨ c = 1 ∨ c = 2 ∨ c = 3 ∨ c = 4 ∨ c = 5 ∨ c = 6 := by omega
  rcases hh with rfl | rfl | rfl | rfl | rfl | rfl | rfl <;> decide
/-- what is printed -/
theorem gd_lt {l : List Int32} {x : Int32} {i : Nat} (h : i < l.length) : (l ++ [x]).getD i 0 = l.getD i 0 := by
  rw [List.getD_eq_getElem?_getD, List.getD_eq_getElem?_getD, List.getElem?_append_left h]
theorem gd_at {l : List Int32} {x : Int32} : (l ++ [x]).getD l.length 0 = x := by
  rw [List.getD_eq_getElem?_getD, List.getElem?_append_right (Nat.le_refl _), Nat.sub_self]; rfl
def Pr (S : PS) (A : Nat → Nat) (P c : Nat) (l : List Int32) : Prop := (fR S 40 (A 4) = some P ∧ Rf S P 14 ∧ aN S P = capv c) ∧ (fI S 41 (A 4) = nI l.length ∧ l.length ≤ capv c ∧ c ≤ 7) ∧ (∀ i, i < l.length → aI S 14 P i = bt (l.getD i 0)) ∧ (∀ i, Byt (aI S 14 P i)) ∧ fR S 42 (A 4) = some (A 15) ∧ aN S (A 15) = 20
/-- what printing may write -/
def PrW (A : Nat → Nat) (S0 : PS) (b : Nat) : Prop := b = A 4 ∨ b = A 15 ∨ pK S0 b = 14
/-- where printer and score lie -/
def PrA (S0 : PS) (A : Nat → Nat) : Prop := Rf S0 (A 4) 4 ∧ Rf S0 (A 15) 15 ∧ ∀ r, scw r = true → Rf S0 (A r) r
def PrS (S0 S : PS) (A : Nat → Nat) (P c : Nat) (l : List Int32) : Prop := Kws (PrW A S0) S0 S ∧ Pr S A P c l
section
variable {S S0 S1 : PS} {A : Nat → Nat} {P c : Nat} {l : List Int32} {k : Nat × Nat} {x : Int32}
variable {E V M nd st t n : Nat} {vo ti le pc : Nat → Nat} {cs : Nat → Nat → Nat} {td co : Nat → Bool} {wp wz : Nat → Nat → Nat} {vb mt mu md : Nat → Nat} {od w : Nat → Int32}
theorem bt_byt : Byt (bt x) := by
  have h : ∀ y : Int8, Byt (vp_nar .byte y.toInt32) := by
    intro y
    show -128 ≤ (vp_nar .byte y.toInt32) ∧ (vp_nar .byte y.toInt32) ≤ 127
    have e : vp_nar .byte y.toInt32 = y.toInt32.toInt8.toInt32 := rfl
    rw [e, Int32.le_iff_toInt_le, Int32.le_iff_toInt_le, Int8.toInt_toInt32]
    have a1 := Int8.le_toInt (x := y.toInt32.toInt8)
    have a2 := Int8.toInt_lt (x := y.toInt32.toInt8)
    have c1 : (-128 : Int32).toInt = -128 := by decide
    have c2 : (127 : Int32).toInt = 127 := by decide
    omega
  exact h _
theorem PrW.p14 {a : Nat} (h : Ext S0 S) (ha : Rf S a 14) : PrW A S0 a ∨ a ∉ pL S0 := by
  by_cases c : a ∈ pL S0
  · exact Or.inl (Or.inr (Or.inr (by rw [← (h a c).2.1]; exact ha.2)))
  · exact Or.inr c
theorem PrW.no {r b : Nat} (pa : PrA S0 A) (hb : Rf S0 b r) (h4 : r ≠ 4) (h5 : r ≠ 15) (h14 : r ≠ 14) : ¬ PrW A S0 b := by
  rintro (e | e | e)
  · rw [e] at hb; exact h4 (by rw [← hb.2, pa.1.2])
  · rw [e] at hb; exact h5 (by rw [← hb.2, pa.2.1.2])
  · exact h14 (by rw [← hb.2, e])
theorem Dcl.kw (hc : Dcl S0 A E V M nd st t n vo ti le pc cs td co wp wz vb mt mu md od w) (pa : PrA S0 A) (hk : Kws (PrW A S0) S0 S) : Dcl S A E V M nd st t n vo ti le pc cs td co wp wz vb mt mu md od w := by
  have sm : ∀ r, scw r = true → Same S0 S (A r) := fun r hr => by
    refine hk.2 _ (pa.2.2 r hr).1 (PrW.no pa (pa.2.2 r hr) ?_ ?_ ?_)
    · rintro rfl; exact absurd hr (by decide)
    · rintro rfl; exact absurd hr (by decide)
    · rintro rfl; exact absurd hr (by decide)
  unfold Dcl Dce at hc ⊢
  rw [(sm 7 rfl).fI, (sm 7 rfl).fI, (sm 7 rfl).fI, (sm 7 rfl).fI, (sm 7 rfl).fL, (sm 2 rfl).fI, (sm 28 rfl).aI, (sm 29 rfl).aL, (sm 30 rfl).aL, (sm 31 rfl).aL, (sm 32 rfl).aI, (sm 33 rfl).aI, (sm 34 rfl).aI, (sm 36 rfl).aL, (sm 10 rfl).aL, (sm 11 rfl).aI, (sm 12 rfl).aI, (sm 35 rfl).aI, (sm 27 rfl).aI]
  refine ⟨⟨fun t ht => ?_, fun t ht => ?_⟩, hc.2⟩
  · have h2 : ∀ t, t ∈ LaySf → scw t.2.1 = true := by decide
    rw [(sm t.2.1 (h2 t ht)).fR]; exact hc.1.1 t ht
  · have h2 : ∀ t, t ∈ LaySn → scw t.1 = true := by decide
    rw [(hk.1 _ (pa.2.2 t.1 (h2 t ht)).1).2.2]; exact hc.1.2 t ht
theorem Kws.mkA {W : Nat → Prop} {r q N : Nat} (h : Kws W S0 S) (hq : q ∉ pL S) : Kws W S0 (nA S r q N) := by
  refine ⟨h.1.tr (Ext.mkA hq), fun b hb hw => ?_⟩
  have hne : b ≠ q := fun e => hq (e ▸ (h.1 b hb).1)
  exact ⟨(h.2 b hb hw).1, fun r1 i1 => ⟨by rw [aI_nA, if_neg hne]; exact ((h.2 b hb hw).2 r1 i1).1, by rw [aL_nA, if_neg hne]; exact ((h.2 b hb hw).2 r1 i1).2.1, by rw [aR_nA, if_neg hne]; exact ((h.2 b hb hw).2 r1 i1).2.2⟩⟩
/-- a byte is stored where there is room -/
theorem Pr.room (pa : PrA S0 A) (pr : PrS S0 S A P c l) (h : l.length < capv c) : PrS S0 (sI (wI S 14 P l.length (bt x)) 41 (A 4) (nI (l.length + 1))) A P c (l ++ [x]) := by
  obtain ⟨kw, ⟨h1, h2, h3⟩, ⟨h4, h5, h6⟩, h7, hb, h8, h9⟩ := pr
  have e : (l ++ [x]).length = l.length + 1 := by rw [List.length_append]; rfl
  refine ⟨(kw.wI (PrW.p14 kw.1 h2)).sI (Or.inl (Or.inl rfl)), ⟨h1, h2, h3⟩, ⟨by rw [fI_s, e], by rw [e]; omega, h6⟩, fun i hi => ?_, fun i => ?_, h8, h9⟩
  · rw [aI_sI, aI_wI]
    by_cases z : i = l.length
    · rw [if_pos ⟨rfl, rfl, z⟩, z, gd_at]
    · rw [if_neg (fun y => z y.2.2), gd_lt (by omega)]; exact h7 i (by omega)
  · rw [aI_sI, aI_wI]
    by_cases z : i = l.length
    · rw [if_pos ⟨rfl, rfl, z⟩]; exact bt_byt
    · rw [if_neg (fun y => z y.2.2)]; exact hb i
theorem p_put {Q : PS → Prop} (pa : PrA S0 A) (pr : PrS S0 S A P c l) (hL : l.length + 1 ≤ 40000) (hk : Dle c (mxl c (l.length + 1)) k) (hQ : ∀ S1 P1, aI S1 15 (A 15) = aI S 15 (A 15) → PrS S0 S1 A P1 (mxl c (l.length + 1)) (l ++ [x]) → Q S1) : wp_X5_put (A 4) x k S Q := by
  have cb := capv_b (c := c)
  have pr' := pr
  obtain ⟨kw, ⟨h1, h2, h3⟩, ⟨h4, h5, h6⟩, h7, hb, h8, h9⟩ := pr
  unfold wp_X5_put
  refine ⟨_, h1, ?_⟩
  intro K hK
  have stp : ∀ k' S2 P2 c2, aI S2 15 (A 15) = aI S 15 (A 15) → PrS S0 S2 A P2 c2 l → l.length < capv c2 → c2 = mxl c (l.length + 1) → K k' S2 := by
    intro k' S2 P2 c2 hdg pr2 hl2 hc2
    have cb2 := capv_b (c := c2)
    have pr2' := pr2
    obtain ⟨kw2, ⟨g1, g2, g3⟩, ⟨g4, g5, g6⟩, g7, gb, g8, g9⟩ := pr2
    apply hK
    refine ⟨_, g1, ?_⟩
    rw [g3, g4, if_neg (nI_ge hl2 (by omega))]
    refine ⟨_, g1, by rw [g3]; exact vp_in_nI hl2 (by omega), ?_⟩
    rintro _ rfl _ rfl
    rw [nI_clamp (by omega), fI_wI, g4, nI_1]
    refine hQ _ P2 (by rw [aI_sI, aI_wn _ _ _ _ _ _ (by decide)]; exact hdg) ?_
    rw [← hc2]
    exact Pr.room pa pr2' hl2
  rw [h3, h4]
  by_cases z : l.length < capv c
  · rw [if_pos (nI_lt z (by omega))]
    exact stp k S P c rfl pr' z (mxl_self ((capv_lv h6 hL).mpr (by omega))).symm
  · rw [if_neg (nI_nlt (by omega) (by omega)), show (40000 : Int32) = nI 40000 from rfl, if_neg (nI_ge (by omega) (by omega))]
    have e : l.length = capv c := by omega
    have c7 : c < 7 := by
      rcases Nat.lt_or_ge c 7 with y | y
      · exact y
      · have : c = 7 := by omega
        rw [this] at e
        have : capv 7 = 40000 := by decide
        omega
    obtain ⟨u1, u2, u3, u4, u5⟩ := capv_up c7
    have em : mxl c (l.length + 1) = c + 1 := by unfold mxl; rw [e, u4, if_pos (by omega)]
    have cb3 := capv_b (c := c + 1)
    rw [em] at hk
    unfold Dle at hk
    refine ⟨_, h1, (1, capv (c + 1)), ⟨by show 1 ≤ k.1; omega, by show capv (c + 1) ≤ k.2; omega⟩, ?_⟩
    have ev : (if (2 : Int32) * nI l.length + 256 < nI 40000 then (2 : Int32) * nI l.length + 256 else nI 40000) = nI (capv (c + 1)) := by
      rw [show (2 : Int32) = nI 2 from rfl, nI_mul, show (256 : Int32) = nI 256 from rfl, nI_add, e, ← u1]
      by_cases y : 2 * capv c + 256 < 40000
      · rw [if_pos y, if_pos (nI_lt y (by omega))]
      · rw [if_neg y, if_neg (nI_nlt (by omega) (by omega))]
    rw [ev]
    unfold wp_J7_copyOf_9075b
    have cc : (nI (capv (c + 1))).toNatClampNeg = capv (c + 1) := nI_clamp (by omega)
    rw [if_neg (by rw [h3, nI_eq (by omega) (by omega)]; omega), cc]
    refine ⟨⟨Nat.le_refl 1, Nat.le_refl _⟩, nI_pos (by omega), by show capv (c + 1) * 1 ≤ _; omega, ?_⟩
    intro q hq
    rintro _ rfl
    have hne : P ≠ q := fun y => hq (y ▸ h2.1)
    have n2 : aN (nA S 14 q (capv (c + 1))) P = capv c := by rw [aN_nA, if_neg hne, h3]
    rw [n2, if_neg (nI_nlt (by omega) (by omega)), nI_clamp (by omega), show (0 : Int32).toNatClampNeg = 0 from rfl]
    refine ⟨⟨by decide, by decide, nI_pos (by omega), by omega, by rw [aN_nA, if_pos rfl]; omega, fun i hi => ?_⟩, ?_⟩
    · rw [aI_nA, if_neg hne]; exact (hb _).fits
    rintro _ rfl
    refine ⟨_, rfl, ?_⟩
    rintro _ rfl
    have kw2 : Kws (PrW A S0) S0 (sR (wW (nA S 14 q (capv (c + 1))) 14 q (va_cpy (aI (nA S 14 q (capv (c + 1))) 14 P) (aI (nA S 14 q (capv (c + 1))) 14 q) 0 0 (capv c))) 40 (A 4) (some q)) := ((kw.mkA hq).wW (Or.inr (fun y => hq (kw.1 q y).1))).sR (Or.inl (Or.inl rfl))
    have n4 : A 15 ≠ q := fun y => hq (y ▸ (kw.1 _ pa.2.1.1).1)
    refine stp _ _ q (c + 1) ?_ ⟨kw2, ⟨by rw [fR_sR, if_pos ⟨rfl, rfl⟩], Rf.mkA (N := capv (c + 1)), ?_⟩, ⟨h4, by omega, by omega⟩, fun i hi => ?_, fun i => ?_, ?_, ?_⟩ (by omega) em.symm
    · rw [aI_sR, aI_wW, if_neg (fun y => absurd y.1 (by decide))]
      funext i
      rw [aI_nA, if_neg n4]
    · show aN (nA S 14 q (capv (c + 1))) q = _
      rw [aN_nA, if_pos rfl]
    · rw [aI_sR, aI_wW, if_pos ⟨rfl, rfl⟩]
      unfold va_cpy
      rw [if_pos ⟨by omega, by omega⟩, aI_nA, if_neg hne, show 0 + (i - 0) = i by omega]
      exact h7 i hi
    · rw [aI_sR, aI_wW, if_pos ⟨rfl, rfl⟩]
      unfold va_cpy
      split
      · rw [aI_nA, if_neg hne]; exact hb _
      · rw [aI_nA, if_pos rfl]; exact ⟨by decide, by decide⟩
    · rw [fR_sR, if_neg (fun y => absurd y.1 (by decide))]; exact h8
    · show aN (nA S 14 q (capv (c + 1))) (A 15) = _
      rw [aN_nA, if_neg n4]; exact h9
end
