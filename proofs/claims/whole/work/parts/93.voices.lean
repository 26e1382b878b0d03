/-! Voices: what happens to both. -/
section
variable {S S1 S2 Sr Sr1 Sr2 : PS} {A : Nat → Nat} {B : Nat → Int32} {n p op N pc nd pq T wr sy : Nat} {inm : Bool} {stk : List (Nat × Nat × Nat × Nat × Nat)} {g ow bh par ks lv : Nat → Nat} {pe : Nat → Bool} {lst : Int32}
theorem MX.px (h : MX S Sr A B n p op N pc nd pq inm stk T wr sy g ow bh par ks lv pe lst) : PX S Sr A B n N T pc wr sy nd g ow bh par ks lv pe (hdx stk) lst := ⟨h.2.2.1, h.2.2.2.1, h.2.2.2.2.2.1, h.2.2.2.2.2.2.1, h.2.2.2.2.2.2.2.1⟩
theorem PX.mm (px : PX S Sr A B n N T pc wr sy nd g ow bh par ks lv pe (hdx stk) lst) (rt : RT Sr A B n) (nu : Num Sr A p op N T pc wr sy nd pq inm) (h64 : aI Sr 64 (A 64) op = lst) (nm : Nms S Sr A B n N nd pq inm ow bh ks ∧ Ux S A N nd pq inm bh par ks pe stk) (sk : SK Sr A B n N g ow bh par ks lv pe stk) (hl : stk.length = op + 1) (h0 : g 0 = 0) (h1 : ow 0 = 0) : MM S Sr A B n p op N pc nd pq inm stk :=
  ⟨T, wr, sy, g, ow, bh, par, ks, lv, pe, lst, rt, nu, px.1, px.2.1, h64, px.2.2.1, px.2.2.2.1, px.2.2.2.2, nm, sk, hl, h0, h1⟩
theorem Att.mus {pc wr sy nd e i bh0 pl : Nat} (hpl : pl ≤ n) (h16 : aI S 16 (A 16) e = nI pl) (h42 : aI Sr 42 (A 42) i = 11) : Att S Sr A B n pc wr sy nd e i i 11 bh0 := ⟨pl, hpl, h16, h42, Or.inl ⟨rfl, rfl⟩⟩
/-- a [ and its first music -/
theorem MX.vopn {q pl : Nat} {s2 pl2 a2 b2 z2 a b a3 b3 : Int32} {t t2 t3 : Int64} (h : MX S Sr A B n p op N pc nd pq inm stk T wr sy g ow bh par ks lv pe lst) (hop : op < 8) (hN : N + 1 < 1508)
    (rt : RT Sr2 A B n) (nu : Num Sr2 A q (op + 1) (N + 2) (T + 2) pc wr sy nd pq inm) (cd : CD S S1 A N pl pc a b t) (cd2 : CD S1 S2 A (N + 1) pl pc a3 b3 t3) (hc26 : aI S2 26 = aI S 26)
    (rl : RLn Sr Sr1 A T wr sy (ow (hdx stk)) lst s2 pl2 a2 b2 t2 z2) (gr : GrR Sr1 Sr2 A (T + 1) wr sy)
    (r46 : ∀ i, i ≠ T + 1 → i ≠ T → aI Sr2 46 (A 46) i = aI Sr1 46 (A 46) i) (r46T : aI Sr2 46 (A 46) (T + 1) = -1) (r46t : aI Sr2 46 (A 46) T = nI (T + 1)) (r47 : ∀ i, i ≠ T + 1 → aI Sr2 47 (A 47) i = aI Sr1 47 (A 47) i) (r47T : aI Sr2 47 (A 47) (T + 1) = -1)
    (r55 : ∀ r, 55 ≤ r → r ≤ 60 → aI Sr2 r = aI Sr r) (r61 : aI Sr2 61 (A 61) = uq (aI Sr 61 (A 61)) (op + 1) 2) (r62 : aI Sr2 62 (A 62) = uq (aI Sr 62 (A 62)) (op + 1) (nI T)) (r63 : aI Sr2 63 (A 63) = uq (aI Sr 63 (A 63)) (op + 1) (nI (T + 1))) (r64 : aI Sr2 64 (A 64) = uq (uq (aI Sr 64 (A 64)) op (nI T)) (op + 1) (-1))
    (ha : Att S1 Sr1 A B n pc wr sy nd N T T 7 5000) (hpl : pl ≤ n) (h42 : aI Sr2 42 (A 42) (T + 1) = 11) : MM S2 Sr2 A B n q (op + 1) (N + 2) pc nd pq inm ((2, N + 2, 0, N + 1, 0) :: stk) := by
  have hpar := h.parlt
  have px := h.px
  obtain ⟨m1, m2, m3, m4, m5, m6, m7, m8, m9, m10, m11, m12, m13⟩ := h
  have hT : T ≤ 2 * N + 2 := m2.2.2.2.1
  have p1 := px.add (op := op) (pd := false) (by omega) (by omega) (by omega) (m10.level m11) cd rl.gr rl.2.2.2.2.1.1 rl.2.2.2.2.1.2.1 rl.2.2.2.2.1.2.2.1 rl.2.2.2.2.1.2.2.2.1 (fun _ => rl.2.2.2.2.1.2.2.2.2) (fun e => by cases e) (Nat.le_refl _) (Nat.le_refl _) (Nat.le_refl _) (Nat.le_refl _) ha
  have p2 := p1.add (s := 11) (op := op + 1) (pd := false) (S1 := S2) (Sr1 := Sr2) (by omega) (by omega) (by omega) (by rw [if_neg (by omega), uq_at]; unfold stp; rw [uq_at, if_neg (by decide), if_neg (fun z => absurd z.1 (by decide))]) cd2 gr (fun i x y => r46 i x (by rw [uq_at] at y; exact y)) r46T (fun i x _ _ => r47 i x) r47T (fun _ => ⟨fun _ => by rw [uq_at]; exact r46t, fun z => absurd rfl z⟩) (fun e => by cases e) (Nat.le_refl _) (Nat.le_refl _) (Nat.le_refl _) (Nat.le_refl _) (Att.mus hpl (by rw [cd2.1, uq_at]) h42)
  have ne1 : ∀ {z}, z ≤ N → z ≠ N + 1 := fun {z} hz => by omega
  have ne2 : ∀ {z}, z ≤ N → z ≠ N + 1 + 1 := fun {z} hz => by omega
  have gr2 : ∀ i, i < T → aI Sr2 45 (A 45) i = aI Sr 45 (A 45) i ∧ aL Sr2 48 (A 48) i = aL Sr 48 (A 48) i := fun i hi => ⟨(gr.1 45 i (by omega) (by decide) (by decide) (by decide) (by decide) (by decide)).trans (rl.gr.1 45 i hi (by decide) (by decide) (by decide) (by decide) (by decide)), (gr.2.1 i (by omega)).trans (rl.gr.2.1 i hi)⟩
  refine p2.mm (stk := (2, N + 2, 0, N + 1, 0) :: stk) rt nu (by rw [r64, uq_at]) ?_ ?_ (by rw [List.length_cons, m11]) (by rw [uq_ne (by omega), uq_ne (by omega)]; exact m12) (by rw [uq_ne (by omega), uq_ne (by omega)]; exact m13)
  · refine ⟨m9.1.mono (by omega) (fun x hx => ⟨by rw [uq_ne (ne2 hx), uq_ne (ne1 hx)], by rw [uq_ne (ne2 hx), uq_ne (ne1 hx)], fun _ => by rw [uq_ne (ne2 hx), uq_ne (ne1 hx)]⟩) (cd2.2.2.2.2.2.2.2.1.trans cd.2.2.2.2.2.2.2.1) (cd2.2.2.2.2.2.2.2.2.1.trans cd.2.2.2.2.2.2.2.2.1) (cd2.2.2.2.2.2.2.2.2.2.trans cd.2.2.2.2.2.2.2.2.2) (fun _ => hc26) (fun r x y => r55 r x (by omega)) (fun _ => ⟨r55 59 (by decide) (by decide), r55 60 (by decide) (by decide)⟩), m9.2.step (pq1 := pq) hpar (fun z z1 z2 => (m3.2.2.2.2.2.1 z z1 z2).2.2.2) (by omega) (fun z hz => ⟨by rw [uq_ne (ne2 hz), uq_ne (ne1 hz)], by rw [uq_ne (ne2 hz), uq_ne (ne1 hz)], fun _ => by rw [uq_ne (ne2 hz), uq_ne (ne1 hz)]⟩) (fun e he => ⟨by rw [cd2.2.2.1, uq_ne (by omega), cd.2.2.1, uq_ne (by omega)], by rw [cd2.2.2.2.1, uq_ne (by omega), cd.2.2.2.1, uq_ne (by omega)]⟩) (cd2.2.2.2.2.2.2.2.2.1.trans cd.2.2.2.2.2.2.2.2.1) (cd2.2.2.2.2.2.2.2.2.2.trans cd.2.2.2.2.2.2.2.2.2) (fun z => ⟨z, Nat.le_refl _⟩) (fun z z1 z2 z3 z4 => absurd (by rw [uq_ne (ne2 z2), uq_ne (ne1 z2)]; exact z3) z4) (fun z hz y => by rw [uq_ne (ne2 hz), uq_ne (ne1 hz)] at y; exact y) (fun z z1 z2 => ?_) (fun f hf f4 => ?_) (fun z => mem3c (m9.2.2.2 z))⟩
    · have k1 : uq (uq ks (N + 1) 7) (N + 1 + 1) 11 (N + 1) = 7 := by rw [uq_ne (by omega), uq_at]
      have nk1 : hdx stk ≠ 0 → uq (uq ks (N + 1) 7) (N + 1 + 1) 11 (hdx stk) ≠ 7 ∧ uq (uq ks (N + 1) 7) (N + 1 + 1) 11 (hdx stk) ≠ 10 := fun y => by rw [uq_ne (ne2 m4.1), uq_ne (ne1 m4.1)]; exact m10.nk y
      have hz : z = N + 1 ∨ z = N + 1 + 1 := by omega
      rcases hz with e | e
      · subst e
        exact UE.vo k1 (by rw [uq_ne (by omega), uq_at]) nk1 (by rw [uq_ne (by omega), uq_at]; omega) (by rw [uq_ne (by omega), uq_at])
      · subst e
        exact UE.mus uq_at uq_at (by omega) (Or.inl k1) (fun y => by rw [uq_at] at y; cases y)
    · rcases List.mem_cons.mp hf with e | e
      · rw [e] at f4; exact absurd f4 (show ¬ (2 : Nat) = 4 by decide)
      · exact Or.inl e
  · have old : SK Sr2 A B n (N + 2) (uq (uq g (N + 1) T) (N + 1 + 1) (T + 1)) (uq (uq ow (N + 1) T) (N + 1 + 1) (T + 1)) (uq (uq bh (N + 1) 5000) (N + 1 + 1) 5000) (uq (uq par (N + 1) (hdx stk)) (N + 1 + 1) (N + 1)) (uq (uq ks (N + 1) 7) (N + 1 + 1) 11) (uq (uq lv (N + 1) op) (N + 1 + 1) (op + 1)) (uq (uq pe (N + 1) false) (N + 1 + 1) false) stk :=
      SK.mono (T := T) (L := op + 1) (x0 := N + 1) hpar (fun z hz => m3.glt hz) (by omega) (by omega) (fun z hz => ⟨by rw [uq_ne (ne2 hz), uq_ne (ne1 hz)], by rw [uq_ne (ne2 hz), uq_ne (ne1 hz)], by rw [uq_ne (ne2 hz), uq_ne (ne1 hz)], by rw [uq_ne (ne2 hz), uq_ne (ne1 hz)], by rw [uq_ne (ne2 hz), uq_ne (ne1 hz)], by rw [uq_ne (ne2 hz), uq_ne (ne1 hz)]⟩) (fun z hz _ => by rw [uq_ne (ne2 hz), uq_ne (ne1 hz)]) (fun j hj => ⟨by rw [r61, uq_ne (by omega)], by rw [r62, uq_ne (by omega)], by rw [r63, uq_ne (by omega)]⟩) (fun j hj => by rw [r64, uq_ne (by omega), uq_ne (by omega)]) gr2 ⟨by rw [r55 59 (by decide) (by decide)], by rw [r55 60 (by decide) (by decide)]⟩ stk (by omega) (by have := m4.1; show hdx stk < _; omega) m10
    cases stk with
    | nil => exact old.elim
    | cons f1 r =>
      have hr : r.length = op := by simpa using m11
      have hp2 : uq (uq par (N + 1) (hdx (f1 :: r))) (N + 1 + 1) (N + 1) (N + 2) = N + 1 := uq_at
      have hit : itm (uq (uq par (N + 1) (hdx (f1 :: r))) (N + 1 + 1) (N + 1)) 2 (N + 2) = N + 1 := by unfold itm; rw [if_neg (by decide)]; exact hp2
      have hg1 : uq (uq g (N + 1) T) (N + 1 + 1) (T + 1) (N + 1) = T := by rw [uq_ne (by omega), uq_at]
      refine ⟨by show 1 ≤ 2; omega, by show 2 ≤ 4; omega, by show 1 ≤ N + 2; omega, Nat.le_refl _, uq_at, ?_, ?_, ?_, ?_, ?_, ?_, ?_, ?_, ?_, fun z => absurd z (show ¬ (2 : Nat) = 1 by decide), fun _ => ⟨uq_at, ?_, hp2⟩, fun z => absurd z (show ¬ (2 : Nat) = 3 by decide), fun z => absurd z (show ¬ (2 : Nat) = 4 by decide), old⟩
      · show aI Sr2 61 (A 61) (r.length + 1) = nI 2
        rw [hr, r61, uq_at]; rfl
      · show aI Sr2 63 (A 63) (r.length + 1) = nI (uq (uq ow (N + 1) T) (N + 1 + 1) (T + 1) (N + 2))
        rw [hr, r63, uq_at]; congr 1; exact uq_at.symm
      · show aI Sr2 62 (A 62) (r.length + 1) = nI (uq (uq g (N + 1) T) (N + 1 + 1) (T + 1) (itm _ 2 (N + 2)))
        rw [hit, hg1, hr, r62, uq_at]
      · show aI Sr2 64 (A 64) r.length = nI (uq (uq g (N + 1) T) (N + 1 + 1) (T + 1) (itm _ 2 (N + 2)))
        rw [hit, hg1, hr, r64, uq_ne (by omega), uq_at]
      · show 1 ≤ itm _ 2 (N + 2)
        rw [hit]; omega
      · show itm _ 2 (N + 2) ≤ N + 2
        rw [hit]; omega
      · show uq (uq par (N + 1) (hdx (f1 :: r))) (N + 1 + 1) (N + 1) (itm _ 2 (N + 2)) = f1.2.1
        rw [hit, uq_ne (by omega), uq_at]; rfl
      · show uq (uq bh (N + 1) 5000) (N + 1 + 1) 5000 (itm _ 2 (N + 2)) = 5000
        rw [hit, uq_ne (by omega), uq_at]
      · show uq (uq lv (N + 1) op) (N + 1 + 1) (op + 1) (N + 2) + stp (uq (uq ks (N + 1) 7) (N + 1 + 1) 11) _ (N + 2) = r.length + 1
        have e1 : uq (uq lv (N + 1) op) (N + 1 + 1) (op + 1) (N + 2) = op + 1 := uq_at
        have e2 : uq (uq ks (N + 1) 7) (N + 1 + 1) 11 (N + 2) = 11 := uq_at
        have e3 : uq (uq ks (N + 1) 7) (N + 1 + 1) 11 (N + 1) = 7 := by rw [uq_ne (by omega), uq_at]
        unfold stp
        rw [e1, e2, hp2, e3, if_neg (by decide), if_pos ⟨rfl, rfl⟩, hr]
      · show uq (uq ks (N + 1) 7) (N + 1 + 1) 11 (uq (uq par (N + 1) (hdx (f1 :: r))) (N + 1 + 1) (N + 1) (N + 2)) = 7
        rw [hp2, uq_ne (by omega), uq_at]
/-- what the frame of a music of a [ says -/
theorem SK.two {x k : Nat} {w : Nat × Nat} {f1 : Nat × Nat × Nat × Nat × Nat} {r : List (Nat × Nat × Nat × Nat × Nat)} (h : SK Sr A B n N g ow bh par ks lv pe ((2, x, k, w) :: f1 :: r)) : 1 ≤ x ∧ x ≤ N ∧ bh x = 5000 ∧ aI Sr 61 (A 61) (r.length + 1) = 2 ∧ aI Sr 63 (A 63) (r.length + 1) = nI (ow x) ∧ aI Sr 62 (A 62) (r.length + 1) = nI (g (par x)) ∧ aI Sr 64 (A 64) r.length = nI (g (par x)) ∧ 1 ≤ par x ∧ par x ≤ N ∧ par (par x) = f1.2.1 ∧ bh (par x) = 5000 ∧ lv x = r.length + 1 ∧ ks x = 11 ∧ ks (par x) = 7 ∧ SK Sr A B n N g ow bh par ks lv pe (f1 :: r) ∧ par x = w.1 := by
  obtain ⟨a1, a2, a3, a4, a5, a6, a7, a8, a9, b1, b2, b3, b4, b5, b6, b7, b8, b9, c1⟩ := h
  have hk : ks x = 11 ∧ ks (par x) = 7 ∧ par x = w.1 := b7 rfl
  have hl : lv x + stp ks par x = r.length + 1 := b5
  have hst : stp ks par x = 0 := by unfold stp; rw [hk.1, if_neg (by decide), if_pos ⟨rfl, hk.2.1⟩]
  exact ⟨a3, a4, a5, a6, a7, a8, a9, b1, b2, b3, b4, by omega, hk.1, hk.2.1, c1, hk.2.2⟩
/-- the next music of a [ -/
theorem MX.vnxt {x k q pl : Nat} {w : Nat × Nat} {f1 : Nat × Nat × Nat × Nat × Nat} {r : List (Nat × Nat × Nat × Nat × Nat)} {a b : Int32} {t : Int64} (h : MX S Sr A B n p op N pc nd pq inm ((2, x, k, w) :: f1 :: r) T wr sy g ow bh par ks lv pe lst) (hop : op ≤ 8) (hN : N < 1508)
    (h17 : S1 = wI S 17 (A 17) (x - 1) (nI N)) (cd : CD S1 S2 A N pl pc a b t) (hc26 : aI S2 26 = aI S 26) (hpl : pl ≤ n)
    (rt : RT Sr2 A B n) (nu : Num Sr2 A q op (N + 1) (T + 1) pc wr sy nd pq inm) (gr : GrR Sr Sr2 A T wr sy) (h42 : aI Sr2 42 (A 42) T = 11)
    (r46 : ∀ i, i ≠ T → aI Sr2 46 (A 46) i = aI Sr 46 (A 46) i) (r46T : aI Sr2 46 (A 46) T = -1) (r47 : ∀ i, i ≠ T → i ≠ g x → aI Sr2 47 (A 47) i = aI Sr 47 (A 47) i) (r47T : aI Sr2 47 (A 47) T = -1) (r47g : aI Sr2 47 (A 47) (g x) = nI T)
    (r55 : ∀ r, 55 ≤ r → r ≤ 60 → aI Sr2 r = aI Sr r) (r61 : aI Sr2 61 (A 61) = uq (aI Sr 61 (A 61)) op 2) (r62 : aI Sr2 62 (A 62) = uq (aI Sr 62 (A 62)) op (nI (g (par x)))) (r63 : aI Sr2 63 (A 63) = uq (aI Sr 63 (A 63)) op (nI T)) (r64 : aI Sr2 64 (A 64) = uq (aI Sr 64 (A 64)) op (-1)) : MM S2 Sr2 A B n q op (N + 1) pc nd pq inm ((2, N + 1, 0, par x, 0) :: f1 :: r) := by
  have hpar := h.parlt
  have px := h.px
  obtain ⟨m1, m2, m3, m4, m5, m6, m7, m8, m9, m10, m11, m12, m13⟩ := h
  have hT : T ≤ 2 * N + 2 := m2.2.2.2.1
  obtain ⟨x1, x2, x3, x4, x5, x6, x7, y1, y2, y3, y4, y5, y6, y7, y8, y9⟩ := m10.two
  have hlen : op = r.length + 1 := by simp only [List.length_cons] at m11; omega
  have hx : hdx ((2, x, k, w) :: f1 :: r) = x := rfl
  rw [hx] at px
  have hgx := m3.glt x2
  have p1 := px.close (S1 := S1) (by omega) x1 (by omega) h17
  have hlvx := (m8 x x1 x2).2
  rw [if_neg (by omega)] at hlvx
  have p2 := p1.add (s := 11) (op := op) (pd := false) (S1 := S2) (Sr1 := Sr2) hN (by omega) hop (by rw [if_neg (by omega), hlen, ← y5, hlvx]) cd gr (fun i z _ => r46 i z) r46T (fun i z1 z2 z3 => r47 i z1 (fun e => z3 (by rw [e]))) r47T (fun _ => ⟨fun z => absurd z (nI_ne_neg (by omega)), fun _ => ⟨r46 _ (by have := (m3.1 (par x) y2).2.1; omega), fun l z1 z2 => by rw [nI_eq (by omega) (by omega)] at z1; rw [← z1]; exact r47g⟩⟩) (fun e => by cases e) (Nat.le_refl _) (Nat.le_refl _) (Nat.le_refl _) (Nat.le_refl _) (Att.mus hpl (by rw [cd.1, uq_at]) h42)
  have ne1 : ∀ {z}, z ≤ N → z ≠ N + 1 := fun {z} hz => by omega
  have gr2 : ∀ i, i < T → aI Sr2 45 (A 45) i = aI Sr 45 (A 45) i ∧ aL Sr2 48 (A 48) i = aL Sr 48 (A 48) i := fun i hi => ⟨gr.1 45 i hi (by decide) (by decide) (by decide) (by decide) (by decide), gr.2.1 i hi⟩
  have hpy := hpar (par x) y1 y2
  have hpx := hpar x x1 x2
  have e23 : aI S1 23 = aI S 23 ∧ aI S1 24 = aI S 24 ∧ aI S1 25 = aI S 25 := by
    rw [h17]
    exact ⟨aI_wn _ _ _ _ _ _ (by decide), aI_wn _ _ _ _ _ _ (by decide), aI_wn _ _ _ _ _ _ (by decide)⟩
  refine p2.mm (stk := (2, N + 1, 0, par x, 0) :: f1 :: r) rt nu (by rw [r64, uq_at]) ?_ ?_ (by simp only [List.length_cons]; omega) (by rw [uq_ne (by omega)]; exact m12) (by rw [uq_ne (by omega)]; exact m13)
  · refine ⟨m9.1.mono (by omega) (fun z hz => ⟨uq_ne (ne1 hz), uq_ne (ne1 hz), fun y => by rw [uq_ne (ne1 hz), uq_ne (fun e => by subst e; exact y x3)]⟩) (cd.2.2.2.2.2.2.2.1.trans e23.1) (cd.2.2.2.2.2.2.2.2.1.trans e23.2.1) (cd.2.2.2.2.2.2.2.2.2.trans e23.2.2) (fun _ => hc26) (fun r x y => r55 r x (by omega)) (fun _ => ⟨r55 59 (by decide) (by decide), r55 60 (by decide) (by decide)⟩), m9.2.step (pq1 := pq) hpar (fun z z1 z2 => (m3.2.2.2.2.2.1 z z1 z2).2.2.2) (by omega) (fun z hz => ⟨uq_ne (ne1 hz), uq_ne (ne1 hz), fun y => by rw [uq_ne (ne1 hz), uq_ne (fun e => by subst e; exact y x3)]⟩) (fun e he => ⟨by rw [cd.2.2.1, uq_ne (by omega), h17, aI_wn _ _ _ _ _ _ (by decide)], by rw [cd.2.2.2.1, uq_ne (by omega), h17, aI_wn _ _ _ _ _ _ (by decide)]⟩) (cd.2.2.2.2.2.2.2.2.1.trans e23.2.1) (cd.2.2.2.2.2.2.2.2.2.trans e23.2.2) (fun z => ⟨z, Nat.le_refl _⟩) (fun z z1 z2 z3 z4 => ?_) (fun z hz y => by rw [uq_ne (ne1 hz)] at y; exact y) (fun z z1 z2 => ?_) (fun f hf f4 => ?_) (fun z => mem3c (mem3 (show (2 : Nat) ≠ 3 by decide) (m9.2.2.2 z)))⟩
    · by_cases e : z = x
      · subst e
        exact ⟨by omega, fun y => by omega, fun y => by omega, fun _ _ y => by omega⟩
      · exact absurd (by rw [uq_ne (ne1 z2), uq_ne e]; exact z3) z4
    · have e : z = N + 1 := by omega
      subst e
      exact UE.mus uq_at uq_at (by omega) (Or.inl (by rw [uq_ne (ne1 y2)]; exact y7)) (fun y => by rw [uq_at] at y; cases y)
    · rcases List.mem_cons.mp hf with e | e
      · rw [e] at f4; exact absurd f4 (show ¬ (2 : Nat) = 4 by decide)
      · exact Or.inl (List.mem_cons_of_mem _ e)
  · have old : SK Sr2 A B n (N + 1) (uq g (N + 1) T) (uq ow (N + 1) T) (uq (uq bh x N) (N + 1) 5000) (uq par (N + 1) (par x)) (uq ks (N + 1) 11) (uq lv (N + 1) op) (uq pe (N + 1) false) (f1 :: r) :=
      SK.mono (T := T) (L := op) (x0 := x) hpar (fun z hz => m3.glt hz) (by omega) (by omega) (fun z hz => ⟨uq_ne (ne1 hz), uq_ne (ne1 hz), uq_ne (ne1 hz), uq_ne (ne1 hz), uq_ne (ne1 hz), uq_ne (ne1 hz)⟩) (fun z hz y => by
        rw [uq_ne (ne1 hz), uq_ne (fun e => ?_)]
        subst e
        rcases y with y | y
        · omega
        · exact y x3) (fun j hj => ⟨by rw [r61, uq_ne (by omega)], by rw [r62, uq_ne (by omega)], by rw [r63, uq_ne (by omega)]⟩) (fun j hj => by rw [r64, uq_ne (by omega)]) gr2 ⟨by rw [r55 59 (by decide) (by decide)], by rw [r55 60 (by decide) (by decide)]⟩ (f1 :: r) (by rw [List.length_cons]; omega) (by show f1.2.1 < x; omega) y8
    have hp2 : uq par (N + 1) (par x) (N + 1) = par x := uq_at
    have hit : itm (uq par (N + 1) (par x)) 2 (N + 1) = par x := by unfold itm; rw [if_neg (by decide)]; exact hp2
    have hg1 : uq g (N + 1) T (par x) = g (par x) := uq_ne (ne1 y2)
    refine ⟨by show 1 ≤ 2; omega, by show 2 ≤ 4; omega, by show 1 ≤ N + 1; omega, Nat.le_refl _, uq_at, ?_, ?_, ?_, ?_, ?_, ?_, ?_, ?_, ?_, fun z => absurd z (show ¬ (2 : Nat) = 1 by decide), fun _ => ⟨uq_at, ?_, hp2⟩, fun z => absurd z (show ¬ (2 : Nat) = 3 by decide), fun z => absurd z (show ¬ (2 : Nat) = 4 by decide), old⟩
    · show aI Sr2 61 (A 61) (r.length + 1) = nI 2
      rw [← hlen, r61, uq_at]; rfl
    · show aI Sr2 63 (A 63) (r.length + 1) = nI (uq ow (N + 1) T (N + 1))
      rw [← hlen, r63, uq_at, uq_at]
    · show aI Sr2 62 (A 62) (r.length + 1) = nI (uq g (N + 1) T (itm _ 2 (N + 1)))
      rw [hit, hg1, ← hlen, r62, uq_at]
    · show aI Sr2 64 (A 64) r.length = nI (uq g (N + 1) T (itm _ 2 (N + 1)))
      rw [hit, hg1, r64, uq_ne (by omega)]; exact x7
    · show 1 ≤ itm _ 2 (N + 1)
      rw [hit]; exact y1
    · show itm _ 2 (N + 1) ≤ N + 1
      rw [hit]; omega
    · show uq par (N + 1) (par x) (itm _ 2 (N + 1)) = f1.2.1
      rw [hit, uq_ne (ne1 y2)]; exact y3
    · show uq (uq bh x N) (N + 1) 5000 (itm _ 2 (N + 1)) = 5000
      rw [hit, uq_ne (ne1 y2), uq_ne (by omega)]; exact y4
    · show uq lv (N + 1) op (N + 1) + stp (uq ks (N + 1) 11) _ (N + 1) = r.length + 1
      unfold stp
      rw [uq_at, uq_at, hp2, uq_ne (ne1 y2), y7, if_neg (by decide), if_pos ⟨rfl, rfl⟩]; omega
    · show uq ks (N + 1) 11 (uq par (N + 1) (par x) (N + 1)) = 7
      rw [hp2, uq_ne (ne1 y2)]; exact y7
/-- the ] -/
theorem MX.vend {x k q : Nat} {w : Nat × Nat} {f1 : Nat × Nat × Nat × Nat × Nat} {r : List (Nat × Nat × Nat × Nat × Nat)} (h : MX S Sr A B n p (op + 1) N pc nd pq inm ((2, x, k, w) :: f1 :: r) T wr sy g ow bh par ks lv pe lst) (hN : N < 1510)
    (h17 : S1 = wI S 17 (A 17) (x - 1) (nI N)) (hc : GrC S1 S2 A N pc) (h17b : aI S2 17 (A 17) = uq (aI S1 17 (A 17)) (par x - 1) (nI N)) (hc2 : ∀ r, 23 ≤ r → r ≤ 26 → aI S2 r = aI S r)
    (rt : RT Sr1 A B n) (nu : Num Sr1 A q op N T pc wr sy nd pq inm) (ha : aI Sr1 = aI Sr) (hl : aL Sr1 = aL Sr) : MM S2 Sr1 A B n q op N pc nd pq inm (f1 :: r) := by
  have hpar := h.parlt
  have px := h.px
  obtain ⟨m1, m2, m3, m4, m5, m6, m7, m8, m9, m10, m11, m12, m13⟩ := h
  obtain ⟨x1, x2, x3, x4, x5, x6, x7, y1, y2, y3, y4, y5, y6, y7, y8, y9⟩ := m10.two
  have hlen : op = r.length := by simp only [List.length_cons] at m11; omega
  have hx : hdx ((2, x, k, w) :: f1 :: r) = x := rfl
  rw [hx] at px
  have p1 := px.close (S1 := S1) hN x1 (by omega) h17
  have p2 := p1.close (S1 := wI S1 17 (A 17) (par x - 1) (nI N)) hN y1 (by omega) rfl
  rw [y3] at p2
  have p3 : PX S2 Sr1 A B n N T pc wr sy nd g ow (uq (uq bh x N) (par x) N) par ks lv pe f1.2.1 (nI (g (par x))) := by
    obtain ⟨q1, q2, q3, q4, q5⟩ := p2
    refine ⟨by rw [ha]; exact q1, q2, fun z z1 z2 z3 => by rw [h17b]; have := q3 z z1 z2 z3; rw [aI_w] at this; exact this, ?_, q5⟩
    refine q4.same (T := T) (fun z hz => m3.glt hz) ⟨fun r e he r1 r2 r3 r4 => by rw [hc.1 r e he r1 r2 r3 r4, aI_wn _ _ _ _ _ _ r1], fun e he => by rw [hc.2.1 e he]; rfl, fun k hk => by rw [hc.2.2 k hk, aI_wn _ _ _ _ _ _ (by decide)]⟩ ⟨fun _ _ _ _ _ _ _ _ => by rw [ha], fun _ _ => by rw [hl], fun _ _ _ _ _ => by rw [ha], fun _ _ _ _ _ => by rw [ha]⟩ (fun _ _ _ _ => by rw [ha]) (Nat.le_refl _) (Nat.le_refl _) (Nat.le_refl _) (Nat.le_refl _) (fun _ _ _ z => Or.inl z)
  have hpy := hpar (par x) y1 y2
  have hpx := hpar x x1 x2
  have bb : ∀ z, z ≤ N → (z < par x ∨ bh z ≠ 5000) → uq (uq bh x N) (par x) N z = bh z := fun z hz y => by
    rw [uq_ne (fun e => ?_), uq_ne (fun e => ?_)]
    · subst e
      rcases y with y | y
      · omega
      · exact y x3
    · subst e
      rcases y with y | y
      · omega
      · exact y y4
  refine p3.mm (stk := f1 :: r) rt nu (by rw [ha, hlen]; exact x7) ?_ ?_ (by rw [List.length_cons, hlen]) m12 m13
  · refine ⟨m9.1.mono (Nat.le_refl N) (fun z hz => ⟨rfl, rfl, fun y => bb z hz (Or.inr y)⟩) (hc2 23 (by decide) (by decide)) (hc2 24 (by decide) (by decide)) (hc2 25 (by decide) (by decide)) (fun _ => hc2 26 (by decide) (by decide)) (fun _ _ _ => by rw [ha]) (fun _ => ⟨by rw [ha], by rw [ha]⟩), m9.2.step (pq1 := pq) hpar (fun z z1 z2 => (m3.2.2.2.2.2.1 z z1 z2).2.2.2) (Nat.le_refl N) (fun z hz => ⟨rfl, rfl, fun y => bb z hz (Or.inr y)⟩) (fun e he => ⟨by rw [hc.1 18 e he (by decide) (by decide) (by decide) (by decide), h17, aI_wn _ _ _ _ _ _ (by decide)], by rw [hc.1 19 e he (by decide) (by decide) (by decide) (by decide), h17, aI_wn _ _ _ _ _ _ (by decide)]⟩) (hc2 24 (by decide) (by decide)) (hc2 25 (by decide) (by decide)) (fun z => ⟨z, Nat.le_refl _⟩) (fun z z1 z2 z3 z4 => ?_) (fun _ _ y => y) (fun z z1 z2 => by omega) (fun f hf _ => Or.inl (List.mem_cons_of_mem _ hf)) (fun z => mem3 (show (2 : Nat) ≠ 3 by decide) (m9.2.2.2 z))⟩
    by_cases e : z = par x
    · subst e
      exact ⟨by omega, fun _ => by rw [uq_at]; omega, fun y => by omega, fun _ y => by omega⟩
    · by_cases e2 : z = x
      · subst e2
        exact ⟨by omega, fun y => by omega, fun y => by omega, fun _ _ y => by omega⟩
      · exact absurd (by rw [uq_ne e, uq_ne e2]; exact z3) z4
  · exact SK.mono (T := T) (L := op + 1) (x0 := par x) hpar (fun z hz => m3.glt hz) (Nat.le_refl N) (by omega) (fun z hz => ⟨rfl, rfl, rfl, rfl, rfl, rfl⟩) bb (fun j _ => ⟨by rw [ha], by rw [ha], by rw [ha]⟩) (fun j hj => by rw [ha]) (fun i hi => ⟨by rw [ha], by rw [hl]⟩) ⟨by rw [ha], by rw [ha]⟩ (f1 :: r) (by rw [List.length_cons]; omega) (by show f1.2.1 < par x; omega) y8
end
