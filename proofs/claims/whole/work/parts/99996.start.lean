/-! The law begins. -/
def jr (r : Nat) : Nat := [0, 0, 0, 0, 0, 0, 0, 0, 0, 0, 18, 19, 20, 23, 40, 42, 46, 47, 48, 49, 50, 51, 52, 55, 56, 57, 63, 69, 71, 72, 73, 74, 75, 76, 77, 78, 80, 81, 82, 87, 97, 99, 105, 106, 107, 108, 109, 110, 111, 112, 114, 115, 116, 118, 119, 121, 122, 123, 124, 127, 128, 130, 131, 132, 133, 135, 136, 137, 138, 139, 140, 141, 142, 143, 144, 145, 147, 148, 150, 151, 152, 167, 168, 170, 171, 172, 173, 174, 175, 176, 177, 178, 179, 180, 181, 182, 183, 184, 185, 186, 187, 189, 190, 191, 192, 193, 194, 195, 196, 197, 198, 199, 200, 201, 202, 203, 204, 205, 212, 0].getD r 0
def ho (r : Nat) : Nat := if r ≤ 12 then 2 else if r = 13 then 3 else if r ≤ 15 then 4 else if r ≤ 25 then 5 else if r = 26 then 6 else if r ≤ 38 then 7 else if r = 39 then 8 else 9
def mkA (S : PS) (O : Nat → Nat) (r : Nat) : Nat := if 10 ≤ r ∧ r ≤ 118 then (fR S (jr r) (O (ho r))).getD 0 else O r
/-- every row is there -/
def FA (S : PS) (O : Nat → Nat) : Prop := ∀ r, 10 ≤ r → r ≤ 118 → r ≠ 14 → ∃ z, fR S (jr r) (O (ho r)) = some z ∧ Rf S z r ∧ aN S z = szA (jr r)
theorem jr_ok : ∀ r : Fin 119, 10 ≤ r.val → r.val ≠ 14 → fT (jr r.val) = 2 ∧ fG (jr r.val) = r.val := by decide +kernel
section
variable {S S' S1 : PS} {a b q : Nat} {O : Nat → Nat} {L : List Nat}
theorem mkA_o {r : Nat} (h : r ≤ 9 ∨ r = 119) : mkA S O r = O r := if_neg (by omega)
theorem FA.at (h : FA S O) {r : Nat} (h1 : 10 ≤ r) (h2 : r ≤ 118) (h3 : r ≠ 14) : fR S (jr r) (O (ho r)) = some (mkA S O r) ∧ Rf S (mkA S O r) r ∧ aN S (mkA S O r) = szA (jr r) := by
  obtain ⟨z, z1, z2, z3⟩ := h r h1 h2 h3
  have e : mkA S O r = z := by unfold mkA; rw [if_pos ⟨h1, h2⟩, z1]; rfl
  rw [e]; exact ⟨z1, z2, z3⟩
/-- a row and its field -/
theorem FA.row (h : FA S O) {t : Nat × Nat × Nat} (h1 : 10 ≤ t.2.2) (h2 : t.2.2 ≤ 118) (h3 : t.2.2 ≠ 14) (h4 : jr t.2.2 = t.1) (h5 : ho t.2.2 = t.2.1) (h6 : t.2.1 ≤ 9) : fR S t.1 (mkA S O t.2.1) = some (mkA S O t.2.2) := by
  rw [mkA_o (Or.inl h6), ← h5, ← h4]; exact (h.at h1 h2 h3).1
/-- nothing old is changed -/
def Al (S S' : PS) : Prop := Ext S S' ∧ ∀ b, b ∈ pL S → Same S S' b
theorem Al.of {W : Nat → Prop} (k : Kws W S S') (h : ∀ b, b ∈ pL S → ¬ W b) : Al S S' := ⟨k.1, fun b hb => k.2 b hb (h b hb)⟩
theorem Al.tr (h : Al S S1) (g : Al S1 S') : Al S S' := ⟨h.1.tr g.1, fun b hb => (h.2 b hb).tr (g.2 b (h.1 b hb).1)⟩
theorem Fz.al {j : Nat} (h : Fz L S a j) (ha : a ∈ pL S) (k : Al S S') : Fz L S' a j := by
  obtain ⟨x, x1, x2, x3, x4, x5⟩ := h
  have sx := k.2 x x3.1
  exact ⟨x, by rw [(k.2 a ha).fR]; exact x1, x2, x3.tr k.1, by rw [(k.1 x x3.1).2.2]; exact x4, fun r i => ⟨((sx.2 r i).1).trans (x5 r i).1, ((sx.2 r i).2.1).trans (x5 r i).2.1, ((sx.2 r i).2.2).trans (x5 r i).2.2⟩⟩
theorem Mt0.al (h : Mt0 L S a) (k : Al S S') : Mt0 L S' a := by
  obtain ⟨h1, h2, ⟨x, x1, x2, x3, x4, x5⟩, ⟨y, y1, y2, y3, y4, y5⟩, z, z1, z2, z3, z4, z5⟩ := h
  have sa := k.2 a h1.1
  exact ⟨h1.tr k.1, by rw [sa.fI]; exact h2, ⟨x, by rw [sa.fR]; exact x1, x2, x3.tr k.1, by rw [(k.1 x x3.1).2.2]; exact x4, by rw [(k.2 x x3.1).aL]; exact x5⟩, ⟨y, by rw [sa.fR]; exact y1, y2, y3.tr k.1, by rw [(k.1 y y3.1).2.2]; exact y4, by rw [(k.2 y y3.1).aI]; exact y5⟩, z, by rw [sa.fR]; exact z1, z2, z3.tr k.1, by rw [(k.1 z z3.1).2.2]; exact z4, by rw [(k.2 z z3.1).aI]; exact z5⟩
theorem Sc0.al (h : Sc0 L S a) (k : Al S S') : Sc0 L S' a := by
  obtain ⟨h1, h2, ⟨i1, i2, i3, i4, i5⟩, m, m1, m2, m3⟩ := h
  have sa := k.2 a h1.1
  exact ⟨h1.tr k.1, fun j a1 a2 a3 => (h2 j a1 a2 a3).al h1.1 k, ⟨by rw [sa.fI]; exact i1, by rw [sa.fI]; exact i2, by rw [sa.fI]; exact i3, by rw [sa.fI]; exact i4, by rw [sa.fL]; exact i5⟩, m, by rw [sa.fR]; exact m1, m2, m3.al k⟩
theorem Sin.al (h : Sin L S b) (hs : Sc0 [] S b) (k : Al S S') : Sin L S' b := by
  obtain ⟨h1, _, _, m, m1, _, m3⟩ := hs
  have sb := k.2 b h1.1
  have sm := k.2 m m3.1.1
  refine ⟨fun j z a1 a2 a3 hz => h.1 j z a1 a2 a3 (by rw [← sb.fR]; exact hz), fun m' hm => ?_⟩
  have hm2 : fR S 83 b = some m' := by rw [← sb.fR]; exact hm
  have e : m = m' := Option.some.inj (m1.symm.trans hm2)
  subst e
  exact ⟨(h.2 m hm2).1, fun j z a1 a2 hz => (h.2 m hm2).2 j z a1 a2 (by rw [← sm.fR]; exact hz)⟩
theorem Cl0.al (h : Cl0 S a) (k : Al S S') : Cl0 S' a := by
  obtain ⟨ha, ⟨t, t1, t2, t3⟩, h88, f, p, r, x, y, u, d, L, ⟨f1, f2, f3⟩, ⟨p1, p2, p3⟩, ⟨r1, r2, r3, r4, r5⟩, ⟨x1, x2, x3, x4, x5⟩, ⟨y1, y2, y3, y4, y5⟩, ⟨u1, u2⟩, d1, d2, d3, d4⟩ := h
  have sa := k.2 a ha.1
  refine ⟨ha.tr k.1, ⟨t, by rw [sa.fR]; exact t1, t2.tr k.1, by rw [(k.1 t t2.1).2.2]; exact t3⟩, by rw [sa.fI]; exact h88, f, p, r, x, y, u, d, L, ⟨by rw [sa.fR]; exact f1, f2.tr k.1, by rw [(k.2 f f2.1).fI]; exact f3⟩, ⟨by rw [sa.fR]; exact p1, p2.tr k.1, fun j c1 c2 c3 => (p3 j c1 c2 c3).al p2.1 k⟩, ⟨by rw [sa.fR]; exact r1, r2.tr k.1, by rw [(k.2 r r2.1).fR]; exact r3, by rw [(k.2 r r2.1).fR]; exact r4, r5.al r2.1 k⟩, ⟨by rw [sa.fR]; exact x1, x2.tr k.1, by rw [(k.2 x x2.1).fR]; exact x3, by rw [(k.2 x x2.1).fR]; exact x4, x5.al x2.1 k⟩, ⟨by rw [sa.fR]; exact y1, y2.tr k.1, y3.al y2.1 k, y4.al y2.1 k, by rw [(k.2 y y2.1).fI]; exact y5⟩, ⟨by rw [sa.fR]; exact u1, u2.al k⟩, by rw [sa.fR]; exact d1, d2.al k, d3, d4.al u2 k⟩
theorem Rf0.al (h : Rf0 L S a) (k : Al S S') : Rf0 L S' a := by
  obtain ⟨h1, h2, h3, h4, h5, h6, ⟨x, x1, x2⟩, y, y1, y2⟩ := h
  have sa := k.2 a h1.1
  have mem : ∀ j z, 97 ≤ j → j < 213 → fT j = 2 → fR S j a = some z → z ∈ pL S := fun j z a1 a2 a3 hz => by
    obtain ⟨w, w1, _, w3, _⟩ := h2 j a1 a2 a3
    rw [← Option.some.inj (w1.symm.trans hz)]; exact w3.1
  refine ⟨h1.tr k.1, fun j a1 a2 a3 => ?_, fun j a1 a2 => by rw [sa.fI]; exact h3 j a1 a2, fun j => by rw [sa.fL]; exact h4 j, by rw [sa.fI]; exact h5, by rw [sa.fI]; exact h6, ⟨x, by rw [sa.fR]; exact x1, ?_⟩, y, by rw [sa.fR]; exact y1, ?_⟩
  · obtain ⟨z, z1, z2, z3, z4, z5⟩ := h2 j a1 a2 a3
    have sz := k.2 z z3.1
    exact ⟨z, by rw [sa.fR]; exact z1, z2, z3.tr k.1, by rw [(k.1 z z3.1).2.2]; exact z4, fun r i r1 r2 => ⟨((sz.2 r i).1).trans (z5 r i r1 r2).1, ((sz.2 r i).2.1).trans (z5 r i r1 r2).2⟩⟩
  · rw [(k.2 x (mem 204 x (by omega) (by omega) (by decide) x1)).aI]; exact x2
  · rw [(k.2 y (mem 205 y (by omega) (by omega) (by decide) y1)).aI]; exact y2
theorem rg_m : ∀ r : Fin 119, 40 ≤ r.val → 97 ≤ jr r.val ∧ jr r.val < 213 ∧ ho r.val = 9 := by decide +kernel
theorem rg_s : ∀ r : Fin 39, 27 ≤ r.val → 69 ≤ jr r.val ∧ jr r.val < 83 ∧ ho r.val = 7 := by decide +kernel
theorem rg_p : ∀ r : Fin 26, 16 ≤ r.val → 43 ≤ jr r.val ∧ jr r.val < 58 ∧ ho r.val = 5 := by decide +kernel
/-- the rows are there -/
theorem fa_of {o2 o3 o4 o5 o6 o7 o8 o9 : Nat} (h2 : Mt0 L S o2) (h3 : Fz [] S o3 23) (h4 : Fz [] S o4 42) (h5 : ∀ j, 43 ≤ j → j < 58 → fT j = 2 → Fz [] S o5 j) (h6 : Fz [] S o6 63) (h7 : ∀ j, 69 ≤ j → j < 83 → fT j = 2 → Fz L S o7 j) (h8 : ∃ t, fR S 87 o8 = some t ∧ Rf S t 39 ∧ aN S t = 1500) (h9 : ∃ L, Rf0 L S o9) (e2 : O 2 = o2) (e3 : O 3 = o3) (e4 : O 4 = o4) (e5 : O 5 = o5) (e6 : O 6 = o6) (e7 : O 7 = o7) (e8 : O 8 = o8) (e9 : O 9 = o9) : FA S O := by
  intro r r1 r2 r3
  obtain ⟨_, _, ⟨x, x1, _, x3, x4, _⟩, ⟨y, y1, _, y3, y4, _⟩, z, z1, _, z3, z4, _⟩ := h2
  have fz : ∀ {L : List Nat} {o j : Nat}, Fz L S o j → ∃ z, fR S j o = some z ∧ Rf S z (fG j) ∧ aN S z = szA j := fun h => by
    obtain ⟨x, x1, _, x3, x4, _⟩ := h
    exact ⟨x, x1, x3, x4⟩
  have jk := jr_ok ⟨r, by omega⟩ r1 r3
  simp only at jk
  by_cases c12 : r ≤ 12
  · have hh : r = 10 ∨ r = 11 ∨ r = 12 := by omega
    rcases hh with rfl | rfl | rfl
    · exact ⟨x, by rw [show ho 10 = 2 from rfl, e2]; exact x1, x3, x4⟩
    · exact ⟨y, by rw [show ho 11 = 2 from rfl, e2]; exact y1, y3, y4⟩
    · exact ⟨z, by rw [show ho 12 = 2 from rfl, e2]; exact z1, z3, z4⟩
  by_cases c13 : r = 13
  · subst c13; rw [show ho 13 = 3 from rfl, e3]; exact fz h3
  by_cases c15 : r ≤ 15
  · have : r = 15 := by omega
    subst this; rw [show ho 15 = 4 from rfl, e4]; exact fz h4
  by_cases c25 : r ≤ 25
  · have g := rg_p ⟨r, by omega⟩ (by show 16 ≤ r; omega)
    simp only at g
    rw [g.2.2, e5]
    have q := fz (h5 _ g.1 g.2.1 jk.1)
    rw [jk.2] at q; exact q
  by_cases c26 : r = 26
  · subst c26; rw [show ho 26 = 6 from rfl, e6]; exact fz h6
  by_cases c38 : r ≤ 38
  · have g := rg_s ⟨r, by omega⟩ (by show 27 ≤ r; omega)
    simp only at g
    rw [g.2.2, e7]
    have q := fz (h7 _ g.1 g.2.1 jk.1)
    rw [jk.2] at q; exact q
  by_cases c39 : r = 39
  · subst c39; rw [show ho 39 = 8 from rfl, e8]; exact h8
  have g := rg_m ⟨r, by omega⟩ (by show 40 ≤ r; omega)
  simp only at g
  rw [g.2.2, e9]
  obtain ⟨L9, h9⟩ := h9
  obtain ⟨w, w1, _, w3, w4, _⟩ := h9.2.1 _ g.1 g.2.1 jk.1
  rw [jk.2] at w3
  exact ⟨w, w1, w3, w4⟩
theorem FA.lay (h : FA S O) (l : List (Nat × Nat × Nat)) (hl : ∀ t, t ∈ l → 10 ≤ t.2.2 ∧ t.2.2 ≤ 118 ∧ t.2.2 ≠ 14 ∧ jr t.2.2 = t.1 ∧ ho t.2.2 = t.2.1 ∧ t.2.1 ≤ 9) : ∀ t, t ∈ l → fR S t.1 (mkA S O t.2.1) = some (mkA S O t.2.2) := fun t ht => by
  obtain ⟨a1, a2, a3, a4, a5, a6⟩ := hl t ht
  exact h.row a1 a2 a3 a4 a5 a6
theorem FA.len (h : FA S O) (l : List (Nat × Nat)) (hl : ∀ t, t ∈ l → 10 ≤ t.1 ∧ t.1 ≤ 118 ∧ t.1 ≠ 14 ∧ szA (jr t.1) = t.2) : ∀ t, t ∈ l → aN S (mkA S O t.1) = t.2 := fun t ht => by
  obtain ⟨a1, a2, a3, a4⟩ := hl t ht
  rw [(h.at a1 a2 a3).2.2]; exact a4
theorem FA.lays (h : FA S O) (h83 : fR S 83 (O 7) = some (O 2)) : LayS S (mkA S O) := by
  refine ⟨fun t ht => ?_, h.len LaySn (by decide +kernel)⟩
  by_cases e : t = (83, 7, 2)
  · rw [e]
    show fR S 83 (mkA S O 7) = some (mkA S O 2)
    rw [mkA_o (by omega), mkA_o (by omega)]; exact h83
  · have q : ∀ t, t ∈ LaySf → t ≠ (83, 7, 2) → 10 ≤ t.2.2 ∧ t.2.2 ≤ 118 ∧ t.2.2 ≠ 14 ∧ jr t.2.2 = t.1 ∧ ho t.2.2 = t.2.1 ∧ t.2.1 ≤ 9 := by decide +kernel
    obtain ⟨a1, a2, a3, a4, a5, a6⟩ := q t ht e
    exact h.row a1 a2 a3 a4 a5 a6
theorem FA.laym (h : FA S O) : LayM S (mkA S O) := ⟨h.lay LayMf (by decide +kernel), h.len LayMn (by decide +kernel)⟩
theorem FA.val (h : FA S O) {r : Nat} (h1 : 10 ≤ r) (h2 : r ≤ 118) (h3 : r ≠ 14) {z : Nat} (hz : fR S (jr r) (O (ho r)) = some z) : mkA S O r = z := Option.some.inj ((h.at h1 h2 h3).1.symm.trans hz)
def zc (_ _ : Nat) : Nat := 0
def fb (_ : Nat) : Bool := false
def f4 (_ : Nat) : Nat := 4
def z32 (_ : Nat) : Int32 := 0
theorem dok0 : Dok 0 1 1 0 0 0 0 zf zf zf zf zc fb fb zc zc zf zf f4 f4 z32 z32 :=
  ⟨by decide, fun e he => absurd he (Nat.not_lt_zero _), fun u _ => Nat.zero_le _, ⟨fun k _ => ⟨by show 1 ≤ 4; omega, by show 4 ≤ 32; omega, by show mdn 4; unfold mdn; omega⟩, rfl, fun k hk => absurd hk (by omega), Nat.zero_le _⟩, fun q hq => absurd hq (Nat.not_lt_zero _)⟩
set_option maxHeartbeats 4000000 in
theorem inv0 {o : Nat} (hc : Cl0 S a) (hr : Rf0 L S b) (ho1 : Rf S o 119) (ho2 : aN S o = 1) : ∃ A T, Inv S A T 0 ∧ A 8 = a ∧ A 9 = b ∧ A 119 = o := by
  obtain ⟨ha, ht, h88, f, p, r, x, y, u, d, Ld, ⟨f1, f2, f3⟩, ⟨p1, p2, p3⟩, ⟨r1, r2, r3, r4, r5⟩, ⟨x1, x2, x3, x4, x5⟩, ⟨y1, y2, y3, y4, y5⟩, ⟨u1, u2⟩, d1, d2, d3, d4⟩ := hc
  obtain ⟨hb, hb2, hbi, hbl, hb207, hb210, hb204, hb205⟩ := id hr
  obtain ⟨du1, du2, du3, mu, mu1, mu2, mu3⟩ := id u2
  obtain ⟨dd1, dd2, dd3, mw, mw1, mw2, mw3⟩ := id d2
  -- objects
  have ob : ∃ O : Nat → Nat, O 0 = f ∧ O 2 = mw ∧ O 3 = x ∧ O 4 = y ∧ O 5 = p ∧ O 6 = r ∧ O 7 = d ∧ O 8 = a ∧ O 9 = b ∧ O 119 = o := ⟨fun i => if i = 0 then f else if i = 2 then mw else if i = 3 then x else if i = 4 then y else if i = 5 then p else if i = 6 then r else if i = 7 then d else if i = 8 then a else if i = 9 then b else o, rfl, rfl, rfl, rfl, rfl, rfl, rfl, rfl, rfl, rfl⟩
  have ob' : ∃ O : Nat → Nat, O 0 = f ∧ O 2 = mu ∧ O 3 = x ∧ O 4 = y ∧ O 5 = p ∧ O 6 = r ∧ O 7 = u ∧ O 8 = a ∧ O 9 = b ∧ O 119 = o := ⟨fun i => if i = 0 then f else if i = 2 then mu else if i = 3 then x else if i = 4 then y else if i = 5 then p else if i = 6 then r else if i = 7 then u else if i = 8 then a else if i = 9 then b else o, rfl, rfl, rfl, rfl, rfl, rfl, rfl, rfl, rfl, rfl⟩
  obtain ⟨O, e0, e2, e3, e4, e5, e6, e7, e8, e9, e119⟩ := ob
  obtain ⟨O', g0, g2, g3, g4, g5, g6, g7, g8, g9, g119⟩ := ob'
  have fa : FA S O := fa_of (L := Ld) mw3 x5 y4 p3 r5 dd2 ht ⟨L, hr⟩ e2 e3 e4 e5 e6 e7 e8 e9
  have fa' : FA S O' := fa_of (L := []) mu3 x5 y4 p3 r5 du2 ht ⟨L, hr⟩ g2 g3 g4 g5 g6 g7 g8 g9
  have lsA : LayS S (mkA S O) := fa.lays (by rw [e7, e2]; exact mw1)
  have lsT : LayS S (mkA S O') := fa'.lays (by rw [g7, g2]; exact mu1)
  have lm := fa.laym
  have A0 : mkA S O 0 = f := (mkA_o (by omega)).trans e0
  have A2 : mkA S O 2 = mw := (mkA_o (by omega)).trans e2
  have A3 : mkA S O 3 = x := (mkA_o (by omega)).trans e3
  have A4 : mkA S O 4 = y := (mkA_o (by omega)).trans e4
  have A5 : mkA S O 5 = p := (mkA_o (by omega)).trans e5
  have A6 : mkA S O 6 = r := (mkA_o (by omega)).trans e6
  have A7 : mkA S O 7 = d := (mkA_o (by omega)).trans e7
  have A8 : mkA S O 8 = a := (mkA_o (by omega)).trans e8
  have A9 : mkA S O 9 = b := (mkA_o (by omega)).trans e9
  have A119 : mkA S O 119 = o := (mkA_o (by omega)).trans e119
  have T2 : mkA S O' 2 = mu := (mkA_o (by omega)).trans g2
  have T7 : mkA S O' 7 = u := (mkA_o (by omega)).trans g7
  have ad : AdL S (mkA S O) := by
    intro i i1 i2 i3
    by_cases c : 10 ≤ i ∧ i ≤ 118
    · exact (fa.at c.1 c.2 i3).2.1
    · have hh : i = 0 ∨ i = 2 ∨ i = 3 ∨ i = 4 ∨ i = 5 ∨ i = 6 ∨ i = 7 ∨ i = 8 ∨ i = 9 ∨ i = 119 := by omega
      rcases hh with rfl | rfl | rfl | rfl | rfl | rfl | rfl | rfl | rfl | rfl
      · rw [A0]; exact f2
      · rw [A2]; exact mw3.1
      · rw [A3]; exact x2
      · rw [A4]; exact y2
      · rw [A5]; exact p2
      · rw [A6]; exact r2
      · rw [A7]; exact dd1
      · rw [A8]; exact ha
      · rw [A9]; exact hb
      · rw [A119]; exact ho1
  have tt : ∀ i, scw i = true → Rf S (mkA S O' i) i ∧ mkA S O' i ≠ mkA S O i := by
    intro i hi
    have h := hi
    unfold scw at h
    rw [decide_eq_true_iff] at h
    rcases h with rfl | rfl | h | h
    · rw [T2, A2]; exact ⟨mu3.1, fun e => mw2 (by rw [← e]; exact (d4.2 mu mu1).1)⟩
    · rw [T7, A7]; exact ⟨du1, fun e => d3 e.symm⟩
    · refine ⟨(fa'.at (r := i) (by omega) (by omega) (by omega)).2.1, ?_⟩
      have z1 := (fa'.at (r := i) (by omega) (by omega) (by omega)).1
      have z2 := (fa.at (r := i) (by omega) (by omega) (by omega)).1
      have hh : i = 10 ∨ i = 11 ∨ i = 12 := by omega
      obtain ⟨_, _, ⟨v1, v2, v3, _⟩, ⟨w1, w2, w3, _⟩, s1, s2, s3, _⟩ := mw3
      rcases hh with rfl | rfl | rfl
      · rw [show ho 10 = 2 from rfl, g2] at z1
        rw [show ho 10 = 2 from rfl, e2] at z2
        have m := (d4.2 mu mu1).2 18 _ (by omega) (by omega) z1
        rw [Option.some.inj (z2.symm.trans v2)]
        exact fun e => v3 (by rw [← e]; exact m)
      · rw [show ho 11 = 2 from rfl, g2] at z1
        rw [show ho 11 = 2 from rfl, e2] at z2
        have m := (d4.2 mu mu1).2 19 _ (by omega) (by omega) z1
        rw [Option.some.inj (z2.symm.trans w2)]
        exact fun e => w3 (by rw [← e]; exact m)
      · rw [show ho 12 = 2 from rfl, g2] at z1
        rw [show ho 12 = 2 from rfl, e2] at z2
        have m := (d4.2 mu mu1).2 20 _ (by omega) (by omega) z1
        rw [Option.some.inj (z2.symm.trans s2)]
        exact fun e => s3 (by rw [← e]; exact m)
    · refine ⟨(fa'.at (r := i) (by omega) (by omega) (by omega)).2.1, ?_⟩
      have z1 := (fa'.at (r := i) (by omega) (by omega) (by omega)).1
      have z2 := (fa.at (r := i) (by omega) (by omega) (by omega)).1
      have g := rg_s ⟨i, by omega⟩ (by show 27 ≤ i; omega)
      simp only at g
      have jk := jr_ok ⟨i, by omega⟩ (by show 10 ≤ i; omega) (by show i ≠ 14; omega)
      simp only at jk
      rw [g.2.2, g7] at z1
      rw [g.2.2, e7] at z2
      have m := d4.1 _ _ g.1 g.2.1 jk.1 z1
      obtain ⟨v1, v2, v3, _⟩ := dd2 _ g.1 g.2.1 jk.1
      rw [Option.some.inj (z2.symm.trans v2)]
      exact fun e => v3 (by rw [← e]; exact m)
  have l39 := fa.at (r := 39) (by omega) (by omega) (by omega)
  rw [show ho 39 = 8 from rfl, e8] at l39
  have l13 := fa.at (r := 13) (by omega) (by omega) (by omega)
  rw [show ho 13 = 3 from rfl, e3] at l13
  have l15 := fa.at (r := 15) (by omega) (by omega) (by omega)
  rw [show ho 15 = 4 from rfl, e4] at l15
  have lo : LayO S (mkA S O) := by
    unfold LayO
    rw [A8, A0, A5, A6, A3, A7]
    exact ⟨l39.1, f1, p1, r1, x1, d1, l39.2.2⟩
  have lc : LayC0 S (mkA S O) := by
    refine ⟨fun t ht z => ?_, fa.len LayCn (by decide +kernel)⟩
    have q : ∀ t, t ∈ LayCf → t.1 ≠ 43 → (10 ≤ t.2.2 ∧ t.2.2 ≤ 118 ∧ t.2.2 ≠ 14 ∧ jr t.2.2 = t.1 ∧ ho t.2.2 = t.2.1 ∧ t.2.1 ≤ 9) ∨ t = (58, 6, 5) ∨ t = (59, 6, 0) ∨ t = (21, 3, 5) ∨ t = (22, 3, 0) := by decide +kernel
    rcases q t ht z with ⟨a1, a2, a3, a4, a5, a6⟩ | e | e | e | e
    · exact fa.row a1 a2 a3 a4 a5 a6
    · rw [e]; show fR S 58 (mkA S O 6) = some (mkA S O 5); rw [A6, A5]; exact r3
    · rw [e]; show fR S 59 (mkA S O 6) = some (mkA S O 0); rw [A6, A0]; exact r4
    · rw [e]; show fR S 21 (mkA S O 3) = some (mkA S O 5); rw [A3, A5]; exact x3
    · rw [e]; show fR S 22 (mkA S O 3) = some (mkA S O 0); rw [A3, A0]; exact x4
  have pf : PfA S (mkA S O) 0 0 zf := by
    refine ⟨fun k hk => absurd hk (Nat.not_lt_zero _), fun k _ _ => ?_, fun i k _ hk => absurd hk (Nat.not_lt_zero _), Nat.le_refl _, Nat.zero_le _⟩
    obtain ⟨v, v1, _, _, _, v5⟩ := x5
    rw [Option.some.inj (l13.1.symm.trans v1)]
    exact (v5 13 k).2.2
  have cor : Cor S (mkA S O) (mkA S O') := ⟨⟨ad, tt⟩, ⟨lo, lc, lsA, lm⟩, ⟨by rw [A8, T7]; exact u1, by rw [A8, A4]; exact y1, by rw [A119]; exact ho2⟩, 0, zf, pf⟩
  have hmx : ∀ i, scw i = true → mix (mkA S O) (mkA S O') i = mkA S O' i := fun i hi => mix_s hi
  have lsM : LayS S (mix (mkA S O) (mkA S O')) := by
    have q1 : ∀ t, t ∈ LaySf → scw t.2.1 = true ∧ scw t.2.2 = true := by decide
    have q2 : ∀ t, t ∈ LaySn → scw t.1 = true := by decide
    exact ⟨fun t ht => by rw [hmx _ (q1 t ht).1, hmx _ (q1 t ht).2]; exact lsT.1 t ht, fun t ht => by rw [hmx _ (q2 t ht)]; exact lsT.2 t ht⟩
  have v36 : aL S 36 (mkA S O' 36) 0 = 0 := by
    have z1 := (fa'.at (r := 36) (by omega) (by omega) (by omega)).1
    rw [show ho 36 = 7 from rfl, g7] at z1
    obtain ⟨v, v1, _, _, _, v5⟩ := du2 80 (by omega) (by omega) (by decide)
    rw [Option.some.inj (z1.symm.trans v1)]
    exact (v5 36 0).2.1
  have v10 : aL S 10 (mkA S O' 10) 0 = 0 ∧ aI S 11 (mkA S O' 11) 0 = 4 ∧ aI S 12 (mkA S O' 12) 0 = 4 := by
    obtain ⟨_, _, ⟨v1, v2, _, _, _, v5⟩, ⟨w1, w2, _, _, _, w5⟩, s1, s2, _, _, _, s5⟩ := mu3
    have z1 := (fa'.at (r := 10) (by omega) (by omega) (by omega)).1
    have z2 := (fa'.at (r := 11) (by omega) (by omega) (by omega)).1
    have z3 := (fa'.at (r := 12) (by omega) (by omega) (by omega)).1
    rw [show ho 10 = 2 from rfl, g2] at z1
    rw [show ho 11 = 2 from rfl, g2] at z2
    rw [show ho 12 = 2 from rfl, g2] at z3
    rw [Option.some.inj (z1.symm.trans v2), Option.some.inj (z2.symm.trans w2), Option.some.inj (z3.symm.trans s2)]
    exact ⟨v5, w5, s5⟩
  have dc : Dcl S (mix (mkA S O) (mkA S O')) 0 1 1 0 0 0 0 zf zf zf zf zc fb fb zc zc zf zf f4 f4 z32 z32 := by
    refine ⟨lsM, ?_, fun e he => absurd he (Nat.not_lt_zero _), fun i hi => ?_, fun i hi => ?_, fun i hi => absurd hi (Nat.not_lt_zero _), fun q hq => absurd hq (Nat.not_lt_zero _)⟩
    · rw [hmx 7 rfl, hmx 2 rfl, T7, T2]
      exact ⟨du3.1, du3.2.1, du3.2.2.1, du3.2.2.2.1, du3.2.2.2.2, mu3.2.1⟩
    · rw [show i = 0 by omega, hmx 36 rfl]; exact v36
    · rw [show i = 0 by omega, hmx 10 rfl, hmx 11 rfl, hmx 12 rfl]; exact v10
  have w114 : aL S 114 (mkA S O 114) 0 = 0 := by
    have z1 := (fa.at (r := 114) (by omega) (by omega) (by omega)).1
    rw [show ho 114 = 9 from rfl, e9] at z1
    obtain ⟨v, v1, _, _, _, v5⟩ := hb2 202 (by omega) (by omega) (by decide)
    rw [Option.some.inj (z1.symm.trans v1)]
    exact (v5 114 0 (by omega) (by omega)).2
  have w115 : aL S 115 (mkA S O 115) 0 = 0 ∧ aI S 116 (mkA S O 116) 0 = 4 ∧ aI S 117 (mkA S O 117) 0 = 4 := by
    have z1 := (fa.at (r := 115) (by omega) (by omega) (by omega)).1
    have z2 := (fa.at (r := 116) (by omega) (by omega) (by omega)).1
    have z3 := (fa.at (r := 117) (by omega) (by omega) (by omega)).1
    rw [show ho 115 = 9 from rfl, e9] at z1
    rw [show ho 116 = 9 from rfl, e9] at z2
    rw [show ho 117 = 9 from rfl, e9] at z3
    obtain ⟨v, v1, _, _, _, v5⟩ := hb2 203 (by omega) (by omega) (by decide)
    obtain ⟨s1, s2, s3⟩ := hb204
    obtain ⟨k1, k2, k3⟩ := hb205
    rw [Option.some.inj (z1.symm.trans v1), Option.some.inj (z2.symm.trans s2), Option.some.inj (z3.symm.trans k2)]
    exact ⟨(v5 115 0 (by omega) (by omega)).2, s3, k3⟩
  have dr : Drf S (mkA S O) 0 1 1 0 0 0 0 zf zf zf zf zc fb fb zc zc zf zf f4 f4 z32 z32 := by
    refine ⟨lm, ?_, fun e he => absurd he (Nat.not_lt_zero _), fun i hi => ?_, fun i hi => ?_, fun i hi => absurd hi (Nat.not_lt_zero _), fun q hq => absurd hq (Nat.not_lt_zero _)⟩
    · rw [A9]
      exact ⟨hbi 206 (by decide) (by decide), hb207, hbi 208 (by decide) (by decide), hbi 209 (by decide) (by decide), hb210, hbl 211⟩
    · rw [show i = 0 by omega]; exact w114
    · rw [show i = 0 by omega]; exact w115
  refine ⟨mkA S O, mkA S O', ⟨cor, ⟨0, Nat.zero_le _, ?_, ?_, fun q hq => absurd hq (Nat.not_lt_zero _)⟩, ?_, ⟨_, _, _, _, _, _, _, _, _, _, _, _, _, _, _, _, _, _, _, _, _, _, dok0, dc, dr⟩, ?_⟩, A8, A9, A119⟩
  · rw [A8]; exact h88
  · rw [A9]; exact hbi 98 (by decide) (by decide)
  · rw [A9, A0, f3]; exact hbi 104 (by decide) (by decide)
  · obtain ⟨v, v1, _, v3, v4, v5⟩ := y3
    refine ⟨v, [], ⟨⟨by rw [A4]; exact v1, v3, v4⟩, ⟨by rw [A4]; exact y5, Nat.zero_le _, by omega⟩, fun i hi => absurd hi (Nat.not_lt_zero _), fun i => ?_, ?_, l15.2.2⟩, AscL.nil, Nat.zero_le _, ?_, fun i hi => absurd hi (Nat.not_lt_zero _)⟩
    · rw [(v5 14 i).1]; exact ⟨by decide, by decide⟩
    · rw [A4]; exact l15.1
    · rw [A9]; exact hbi 213 (by decide) (by decide)
end
