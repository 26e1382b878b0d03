/-! A use and its blocks: what happens to both. -/
section
variable {S S1 S2 Sr Sr1 Sr2 : PS} {A : Nat → Nat} {B : Nat → Int32} {n p op N pc nd pq T wr sy : Nat} {inm : Bool} {stk : List (Nat × Nat × Nat × Nat × Nat)} {g ow bh par ks lv : Nat → Nat} {pe : Nat → Bool} {lst : Int32} {inn nxt : Nat → Int32}
/-- what lies within an entry has it, or what lies within it, for its parent -/
theorem Tre.within (h : Tre N T g ow bh par pe inn nxt) (hN : N < 4000) {l : Nat} (hl : bh l ≤ N) (hl1 : l ≤ N) : ∀ x, l < x → x ≤ bh l → l ≤ par x := by
  intro x
  induction x using Nat.strongRecOn with
  | ind x ih =>
    intro h1 h2
    have hx : x - 1 ≤ N := by omega
    have ex : x - 1 + 1 = x := by omega
    by_cases c : x - 1 < bh (x - 1)
    · have := h.2.2.1 (x - 1) (by omega) c
      rw [ex] at this; omega
    · have hle := h.le (z := x - 1) hx (by omega)
      have hb : bh (x - 1) = x - 1 := by omega
      have climb : ∀ m a, a ≤ m → l < a → a ≤ x - 1 → bh a = x - 1 → l ≤ par x := by
        intro m
        induction m with
        | zero => intro a a1 a2; omega
        | succ m ihm =>
          intro a a1 a2 a3 a4
          have ha := h.2.2.2.2.2.1 a (by omega) (by omega)
          have hpa := ih a (by omega) a2 (by omega)
          by_cases d : bh a < bh (par a)
          · have := h.2.2.2.2.1 a (by omega) (by omega) d (by omega)
            rw [a4, ex] at this; omega
          · have e : bh (par a) = x - 1 := by omega
            have hpl : par a ≠ l := fun z => by rw [z] at e; omega
            exact ihm (par a) (by omega) (by omega) (by omega) e
      by_cases d : x - 1 = l
      · rw [d] at hb; omega
      · exact climb (x - 1) (x - 1) (Nat.le_refl _) (by omega) (Nat.le_refl _) hb
theorem Tre.uniq (h : Tre N T g ow bh par pe inn nxt) (hN : N < 4000) {a b z : Nat} (ha : 1 ≤ a) (ha2 : a ≤ N) (hb : 1 ≤ b) (hb2 : b ≤ N) (hz : z ≤ N) (hp : par a = par b) (e1 : bh a + 1 = z) (e2 : bh b + 1 = z) : a = b := by
  have xa := h.2.2.2.2.2.1 a ha ha2
  have xb := h.2.2.2.2.2.1 b hb hb2
  rcases Nat.lt_trichotomy a b with c | c | c
  · have := h.within hN (l := a) (by omega) ha2 b c (by omega); omega
  · exact c
  · have := h.within hN (l := b) (by omega) hb2 a c (by omega); omega
/-- a use and its first block -/
theorem MX.uopn {q pl pl1 m : Nat} {pl3 s2 pl2 a2 b2 z2 a b a3 b3 : Int32} {t t2 t3 : Int64} (h : MX S Sr A B n p op N pc nd pq inm stk T wr sy g ow bh par ks lv pe lst) (hop : op < 8) (hN : N + 1 < 1508) (hm1 : 1 ≤ m) (hm4 : m ≤ 4)
    (rt : RT Sr2 A B n) (nu : Num Sr2 A q (op + 1) (N + 2) (T + 2) pc wr sy nd pq inm) (cd : CD S S1 A N pl pc a b t) (cd2 : CD S1 S2 A (N + 1) pl1 pc a3 b3 t3) (hc26 : aI S2 26 = aI S 26)
    (rl : RLn Sr Sr1 A T wr sy (ow (hdx stk)) lst s2 pl2 a2 b2 t2 z2) (ob : OB Sr1 Sr2 A (T + 1) op 4 (nI T) pl3 q)
    (r55 : ∀ r, 55 ≤ r → r ≤ 63 → aI Sr1 r = aI Sr r) (r64 : aI Sr1 64 (A 64) = uq (aI Sr 64 (A 64)) op (nI T)) (h45 : aI Sr1 45 (A 45) T = nI m)
    (ha : Att S1 Sr1 A B n pc wr sy nd N T T 10 5000) (hpl : pl1 ≤ n) (hb0 : b = 0) (hM : ∀ d m', a = nI d → d < nd → m' ≤ 4 → aI S 25 (A 25) d = nI m' → m = m') : MM S2 Sr2 A B n q (op + 1) (N + 2) pc nd pq inm ((4, N + 2, m, N + 1, 0) :: stk) := by
  have hpar := h.parlt
  have px := h.px
  obtain ⟨m1, m2, m3, m4, m5, m6, m7, m8, m9, m10, m11, m12, m13⟩ := h
  have hT : T ≤ 2 * N + 2 := m2.2.2.2.1
  obtain ⟨kob, v1, v2, v3, v4, v5, v6, v7, v8, v9, v10, v11, v12, v13, v14, v15⟩ := ob
  have fa : ∀ x, rB x = false → aI Sr2 x = aI Sr1 x := fun x hx => (kob.2.2 x hx).1
  have gr : GrR Sr1 Sr2 A (T + 1) wr sy := by
    refine ⟨fun r i hi w1 w2 w3 w4 w5 => ?_, fun i hi => by rw [v10, uq_ne (by omega)], fun x i hi w1 w2 => by rw [fa x (by unfold rB; rw [decide_eq_false_iff_not]; omega)], fun x i hi w1 w2 => by rw [fa x (by unfold rB; rw [decide_eq_false_iff_not]; omega)]⟩
    have hx : r = 42 ∨ r = 43 ∨ r = 44 ∨ r = 45 ∨ r = 49 := by omega
    rcases hx with rfl | rfl | rfl | rfl | rfl
    · rw [v4, uq_ne (by omega)]
    · rw [v5, uq_ne (by omega)]
    · rw [v6, uq_ne (by omega)]
    · rw [v7, uq_ne (by omega)]
    · rw [v11, uq_ne (by omega)]
  have p1 := px.add (op := op) (pd := false) (by omega) (by omega) (by omega) (m10.level m11) cd rl.gr rl.2.2.2.2.1.1 rl.2.2.2.2.1.2.1 rl.2.2.2.2.1.2.2.1 rl.2.2.2.2.1.2.2.2.1 (fun _ => rl.2.2.2.2.1.2.2.2.2) (fun e => by cases e) (Nat.le_refl _) (Nat.le_refl _) (Nat.le_refl _) (Nat.le_refl _) ha
  have p2 := p1.add (s := 11) (op := op) (pd := true) (S1 := S2) (Sr1 := Sr2) (by omega) (by omega) (by omega) (by rw [if_neg (by omega), uq_at]; unfold stp; rw [uq_at, if_pos rfl]; rfl) cd2 gr (fun i x y => by rw [v8, uq_ne x]) (by rw [v8, uq_at]) (fun i x _ _ => by rw [v9, uq_ne x]) (by rw [v9, uq_at]) (fun e => by cases e) (fun _ => ⟨by rw [uq_at, v8, uq_ne (by omega)], fun l z1 z2 => by rw [v9, uq_ne (by omega)]⟩) (Nat.le_refl _) (Nat.le_refl _) (Nat.le_refl _) (Nat.le_refl _) (Att.mus hpl (by rw [cd2.1, uq_at]) (by rw [v4, uq_at]))
  have ne1 : ∀ {z}, z ≤ N → z ≠ N + 1 := fun {z} hz => by omega
  have ne2 : ∀ {z}, z ≤ N → z ≠ N + 1 + 1 := fun {z} hz => by omega
  have gr2 : ∀ i, i < T → aI Sr2 45 (A 45) i = aI Sr 45 (A 45) i ∧ aL Sr2 48 (A 48) i = aL Sr 48 (A 48) i := fun i hi => ⟨(gr.1 45 i (by omega) (by decide) (by decide) (by decide) (by decide) (by decide)).trans (rl.gr.1 45 i hi (by decide) (by decide) (by decide) (by decide) (by decide)), (gr.2.1 i (by omega)).trans (rl.gr.2.1 i hi)⟩
  have r55' : ∀ r, 55 ≤ r → r ≤ 60 → aI Sr2 r = aI Sr r := fun r x y => by rw [fa r (by unfold rB; rw [decide_eq_false_iff_not]; omega), r55 r x (by omega)]
  refine p2.mm (stk := (4, N + 2, m, N + 1, 0) :: stk) rt nu (by rw [v15, uq_at]) ?_ ?_ (by rw [List.length_cons, m11]) (by rw [uq_ne (by omega), uq_ne (by omega)]; exact m12) (by rw [uq_ne (by omega), uq_ne (by omega)]; exact m13)
  · refine ⟨m9.1.mono (by omega) (fun x hx => ⟨by rw [uq_ne (ne2 hx), uq_ne (ne1 hx)], by rw [uq_ne (ne2 hx), uq_ne (ne1 hx)], fun _ => by rw [uq_ne (ne2 hx), uq_ne (ne1 hx)]⟩) (cd2.2.2.2.2.2.2.2.1.trans cd.2.2.2.2.2.2.2.1) (cd2.2.2.2.2.2.2.2.2.1.trans cd.2.2.2.2.2.2.2.2.1) (cd2.2.2.2.2.2.2.2.2.2.trans cd.2.2.2.2.2.2.2.2.2) (fun _ => hc26) (fun r x y => r55' r x (by omega)) (fun _ => ⟨r55' 59 (by decide) (by decide), r55' 60 (by decide) (by decide)⟩), m9.2.step (pq1 := pq) hpar (fun z z1 z2 => (m3.2.2.2.2.2.1 z z1 z2).2.2.2) (by omega) (fun z hz => ⟨by rw [uq_ne (ne2 hz), uq_ne (ne1 hz)], by rw [uq_ne (ne2 hz), uq_ne (ne1 hz)], fun _ => by rw [uq_ne (ne2 hz), uq_ne (ne1 hz)]⟩) (fun e he => ⟨by rw [cd2.2.2.1, uq_ne (by omega), cd.2.2.1, uq_ne (by omega)], by rw [cd2.2.2.2.1, uq_ne (by omega), cd.2.2.2.1, uq_ne (by omega)]⟩) (cd2.2.2.2.2.2.2.2.2.1.trans cd.2.2.2.2.2.2.2.2.1) (cd2.2.2.2.2.2.2.2.2.2.trans cd.2.2.2.2.2.2.2.2.2) (fun z => ⟨z, Nat.le_refl _⟩) (fun z z1 z2 z3 z4 => absurd (by rw [uq_ne (ne2 z2), uq_ne (ne1 z2)]; exact z3) z4) (fun z hz y => by rw [uq_ne (ne2 hz), uq_ne (ne1 hz)] at y; exact y) (fun z z1 z2 => ?_) (fun f hf f4 => ?_) (fun z => mem3c (m9.2.2.2 z))⟩
    · have k1 : uq (uq ks (N + 1) 10) (N + 1 + 1) 11 (N + 1) = 10 := by rw [uq_ne (by omega), uq_at]
      have nk1 : hdx stk ≠ 0 → uq (uq ks (N + 1) 10) (N + 1 + 1) 11 (hdx stk) ≠ 7 ∧ uq (uq ks (N + 1) 10) (N + 1 + 1) 11 (hdx stk) ≠ 10 := fun y => by rw [uq_ne (ne2 m4.1), uq_ne (ne1 m4.1)]; exact m10.nk y
      have hz : z = N + 1 ∨ z = N + 1 + 1 := by omega
      rcases hz with e | e
      · subst e
        refine UE.us k1 (by rw [uq_ne (by omega), uq_at]) nk1 (fun v0 => ?_) (fun y => absurd (by rw [uq_ne (by omega), uq_at]) y) (by rw [uq_ne (by omega), uq_at])
        rw [Nat.add_sub_cancel, cd2.2.2.2.1, uq_ne (by omega), cd.2.2.2.1, uq_at, hb0] at v0
        exact absurd v0 (by decide)
      · subst e
        exact UE.mus uq_at uq_at (by omega) (Or.inr k1) (fun _ => ⟨uq_at, k1⟩)
    · rcases List.mem_cons.mp hf with e | e
      · refine Or.inr ?_
        rw [e]
        refine ⟨by show 1 ≤ N + 1; omega, by show N + 1 ≤ N + 2; omega, by show uq (uq ks (N + 1) 10) (N + 1 + 1) 11 (N + 1) = 10; rw [uq_ne (by omega), uq_at], ?_, fun d m' v1 v2 v3 v4 => ?_⟩
        · show aI S2 19 (A 19) (N + 1 - 1) = 0
          rw [Nat.add_sub_cancel, cd2.2.2.2.1, uq_ne (by omega), cd.2.2.2.1, uq_at]; exact hb0
        · have v1' : aI S2 18 (A 18) (N + 1 - 1) = nI d := v1
          rw [Nat.add_sub_cancel, cd2.2.2.1, uq_ne (by omega), cd.2.2.1, uq_at] at v1'
          show 0 + m = m'
          rw [Nat.zero_add]
          exact hM d m' v1' v2 v3 (by rw [cd2.2.2.2.2.2.2.2.2.2, cd.2.2.2.2.2.2.2.2.2] at v4; exact v4)
      · exact Or.inl e
  · have old : SK Sr2 A B n (N + 2) (uq (uq g (N + 1) T) (N + 1 + 1) (T + 1)) (uq (uq ow (N + 1) T) (N + 1 + 1) (T + 1)) (uq (uq bh (N + 1) 5000) (N + 1 + 1) 5000) (uq (uq par (N + 1) (hdx stk)) (N + 1 + 1) (N + 1)) (uq (uq ks (N + 1) 10) (N + 1 + 1) 11) (uq (uq lv (N + 1) op) (N + 1 + 1) op) (uq (uq pe (N + 1) false) (N + 1 + 1) true) stk :=
      SK.mono (T := T) (L := op + 1) (x0 := N + 1) hpar (fun z hz => m3.glt hz) (by omega) (by omega) (fun z hz => ⟨by rw [uq_ne (ne2 hz), uq_ne (ne1 hz)], by rw [uq_ne (ne2 hz), uq_ne (ne1 hz)], by rw [uq_ne (ne2 hz), uq_ne (ne1 hz)], by rw [uq_ne (ne2 hz), uq_ne (ne1 hz)], by rw [uq_ne (ne2 hz), uq_ne (ne1 hz)], by rw [uq_ne (ne2 hz), uq_ne (ne1 hz)]⟩) (fun z hz _ => by rw [uq_ne (ne2 hz), uq_ne (ne1 hz)]) (fun j hj => ⟨by rw [v12, uq_ne (by omega), r55 61 (by decide) (by decide)], by rw [v13, uq_ne (by omega), r55 62 (by decide) (by decide)], by rw [v14, uq_ne (by omega), r55 63 (by decide) (by decide)]⟩) (fun j hj => by rw [v15, uq_ne (by omega), r64, uq_ne (by omega)]) gr2 ⟨by rw [r55' 59 (by decide) (by decide)], by rw [r55' 60 (by decide) (by decide)]⟩ stk (by omega) (by have := m4.1; show hdx stk < _; omega) m10
    cases stk with
    | nil => exact old.elim
    | cons f1 r =>
      have hr : r.length = op := by simpa using m11
      have hp2 : uq (uq par (N + 1) (hdx (f1 :: r))) (N + 1 + 1) (N + 1) (N + 2) = N + 1 := uq_at
      have hit : itm (uq (uq par (N + 1) (hdx (f1 :: r))) (N + 1 + 1) (N + 1)) 4 (N + 2) = N + 1 := by unfold itm; rw [if_neg (by decide)]; exact hp2
      have hg1 : uq (uq g (N + 1) T) (N + 1 + 1) (T + 1) (N + 1) = T := by rw [uq_ne (by omega), uq_at]
      have hk1 : uq (uq ks (N + 1) 10) (N + 1 + 1) 11 (N + 1) = 10 := by rw [uq_ne (by omega), uq_at]
      have hk2 : uq (uq ks (N + 1) 10) (N + 1 + 1) 11 (N + 2) = 11 := uq_at
      refine ⟨by show 1 ≤ 4; omega, by show 4 ≤ 4; omega, by show 1 ≤ N + 2; omega, Nat.le_refl _, uq_at, ?_, ?_, ?_, ?_, ?_, ?_, ?_, ?_, ?_, fun z => absurd z (show ¬ (4 : Nat) = 1 by decide), fun z => absurd z (show ¬ (4 : Nat) = 2 by decide), fun z => absurd z (show ¬ (4 : Nat) = 3 by decide), fun _ => ⟨hp2, hk2, ?_, uq_at, hm1, hm4, ?_, Or.inl ?_, ?_⟩, old⟩
      · show aI Sr2 61 (A 61) (r.length + 1) = nI 4
        rw [hr, v12, uq_at]; rfl
      · show aI Sr2 63 (A 63) (r.length + 1) = nI (uq (uq ow (N + 1) T) (N + 1 + 1) (T + 1) (N + 2))
        rw [hr, v14, uq_at]; congr 1; exact uq_at.symm
      · show aI Sr2 62 (A 62) (r.length + 1) = nI (uq (uq g (N + 1) T) (N + 1 + 1) (T + 1) (itm _ 4 (N + 2)))
        rw [hit, hg1, hr, v13, uq_at]
      · show aI Sr2 64 (A 64) r.length = nI (uq (uq g (N + 1) T) (N + 1 + 1) (T + 1) (itm _ 4 (N + 2)))
        rw [hit, hg1, hr, v15, uq_ne (by omega), r64, uq_at]
      · show 1 ≤ itm _ 4 (N + 2)
        rw [hit]; omega
      · show itm _ 4 (N + 2) ≤ N + 2
        rw [hit]; omega
      · show uq (uq par (N + 1) (hdx (f1 :: r))) (N + 1 + 1) (N + 1) (itm _ 4 (N + 2)) = f1.2.1
        rw [hit, uq_ne (by omega), uq_at]; rfl
      · show uq (uq bh (N + 1) 5000) (N + 1 + 1) 5000 (itm _ 4 (N + 2)) = 5000
        rw [hit, uq_ne (by omega), uq_at]
      · show uq (uq lv (N + 1) op) (N + 1 + 1) op (N + 2) + stp (uq (uq ks (N + 1) 10) (N + 1 + 1) 11) _ (N + 2) = r.length + 1
        have e1 : uq (uq lv (N + 1) op) (N + 1 + 1) op (N + 2) = op := uq_at
        unfold stp
        rw [e1, hk2, hp2, hk1, if_neg (by decide), if_neg (fun z => absurd z.2 (by decide)), hr]
      · show uq (uq ks (N + 1) 10) (N + 1 + 1) 11 (uq (uq par (N + 1) (hdx (f1 :: r))) (N + 1 + 1) (N + 1) (N + 2)) = 10
        rw [hp2]; exact hk1
      · show aI Sr2 45 (A 45) (uq (uq g (N + 1) T) (N + 1 + 1) (T + 1) (uq (uq par (N + 1) (hdx (f1 :: r))) (N + 1 + 1) (N + 1) (N + 2))) = nI m
        rw [hp2, hg1, v7, uq_ne (by omega)]; exact h45
      · show N + 2 = uq (uq par (N + 1) (hdx (f1 :: r))) (N + 1 + 1) (N + 1) (N + 2) + 1
        rw [hp2]
      · show N + 2 - 1 = uq (uq par (N + 1) (hdx (f1 :: r))) (N + 1 + 1) (N + 1) (N + 2)
        rw [hp2]; rfl
/-- what the frame of a use's block says -/
theorem SK.four {x k : Nat} {w : Nat × Nat} {f1 : Nat × Nat × Nat × Nat × Nat} {r : List (Nat × Nat × Nat × Nat × Nat)} (h : SK Sr A B n N g ow bh par ks lv pe ((4, x, k, w) :: f1 :: r)) : 1 ≤ x ∧ x ≤ N ∧ bh x = 5000 ∧ aI Sr 61 (A 61) (r.length + 1) = nI 4 ∧ aI Sr 63 (A 63) (r.length + 1) = nI (ow x) ∧ aI Sr 62 (A 62) (r.length + 1) = nI (g (par x)) ∧ aI Sr 64 (A 64) r.length = nI (g (par x)) ∧ 1 ≤ par x ∧ par x ≤ N ∧ par (par x) = f1.2.1 ∧ bh (par x) = 5000 ∧ lv x = r.length ∧ ks x = 11 ∧ ks (par x) = 10 ∧ SK Sr A B n N g ow bh par ks lv pe (f1 :: r) ∧ par x = w.1 ∧ pe x = true ∧ 1 ≤ k ∧ k ≤ 4 ∧ aI Sr 45 (A 45) (g (par x)) = nI k ∧ (x = par x + 1 ∨ (pe (par x + 1) = false ∧ ∃ l, 1 ≤ l ∧ l ≤ N ∧ par l = par x ∧ bh l + 1 = x ∧ aL Sr 48 (A 48) (g (par x)) = lN (g l))) ∧ Ch N bh par (par x) w.2 (x - 1) := by
  obtain ⟨a1, a2, a3, a4, a5, a6, a7, a8, a9, b1, b2, b3, b4, b5, b6, b7, b8, b9, c1⟩ := h
  obtain ⟨d0, d1, d2, d3, d4, d5, d6, d7, d8⟩ := b9 rfl
  have hl : lv x + stp ks par x = r.length + 1 := b5
  have e1 : ks x = 11 := d1
  have e2 : ks (par x) = 10 := d2
  have hst : stp ks par x = 1 := by unfold stp; rw [e1, e2, if_neg (by decide), if_neg (fun z => absurd z.2 (by decide))]
  exact ⟨a3, a4, a5, a6, a7, a8, a9, b1, b2, b3, b4, by omega, e1, e2, c1, d0, d3, d4, d5, d6, d7, d8⟩
/-- the entry of a music, and that of a use, hold their own lists -/
theorem Att.own {pc wr sy nd e i o bh0 s : Nat} (h : Att S Sr A B n pc wr sy nd e i o s bh0) (hs : s = 11 ∨ s = 10 ∨ s = 7) : o = i := by
  obtain ⟨pl, w1, w2, w3, w4⟩ := h
  rcases w4 with w4 | ⟨w5, w6, w7⟩
  · exact w4.2
  · rcases w7 with z | z | z | z | z | z | z
    · exact z.2.1
    · exact z.2.1
    · rcases z.1 with y | y
      · exact y.2.2
      · rcases y.1 with y | y | y | y <;> omega
    · exact z.2.1
    · exact z.2.1
    · omega
    · exact z.2.1
/-- a block of a use has ended and its link is told -/
theorem MX.utel {x k : Nat} {w : Nat × Nat} {f1 : Nat × Nat × Nat × Nat × Nat} {r : List (Nat × Nat × Nat × Nat × Nat)} (h : MX S Sr A B n p op N pc nd pq inm ((4, x, k, w) :: f1 :: r) T wr sy g ow bh par ks lv pe lst) (hN : N < 1510) (h17 : S1 = wI S 17 (A 17) (x - 1) (nI N))
    (gr : GrR Sr Sr1 A T wr sy) (hgr : True) (h46 : aI Sr1 46 (A 46) = if x = par x + 1 then uq (aI Sr 46 (A 46)) (g (par x)) (nI (g x)) else aI Sr 46 (A 46)) (h47 : x = par x + 1 → aI Sr1 47 (A 47) = aI Sr 47 (A 47)) (h47b : x ≠ par x + 1 → ∀ l, 1 ≤ l → l ≤ N → par l = par x → bh l + 1 = x → aI Sr1 47 (A 47) = uq (aI Sr 47 (A 47)) (g l) (nI (g x))) : PX S1 Sr1 A B n N T pc wr sy nd g ow (uq bh x N) par ks lv (uq pe x false) (par x) (nI (g x)) := by
  have px := h.px
  obtain ⟨m1, m2, m3, m4, m5, m6, m7, m8, m9, m10, m11, m12, m13⟩ := h
  obtain ⟨x1, x2, x3, x4, x5, x6, x7, y1, y2, y3, y4, y5, y6, y7, y8, y9, z1, z2, z3, z4, z5, z6⟩ := m10.four
  have hx : hdx ((4, x, k, w) :: f1 :: r) = x := rfl
  rw [hx] at px
  have hpx := px.parlt x x1 x2
  have hoy : ow (par x) = g (par x) := (m7 (par x) y1 y2).own (by omega)
  have p1 := px.close (S1 := S1) hN x1 (by omega) h17
  have bx : ∀ l, 1 ≤ l → l ≤ N → par l = par x → uq bh x N l + 1 = x → bh l + 1 = x ∧ l ≠ x := fun l l1 l2 l3 l4 => by
    by_cases e : l = x
    · subst e; rw [uq_at] at l4; omega
    · rw [uq_ne e] at l4; exact ⟨l4, e⟩
  have nol : x = par x + 1 → ∀ l, 1 ≤ l → l ≤ N → par l = par x → bh l + 1 = x → False := fun e l l1 l2 l3 l4 => by
    have := m3.2.2.2.2.2.1 l l1 l2; omega
  have ginj : ∀ a b, a ≤ N → b ≤ N → g a = g b → a = b := fun a b ha hb e => by
    rcases Nat.lt_trichotomy a b with c | c | c
    · have := (m3.1 a ha).2.2 b c hb; have := (m3.1 a ha).1; omega
    · exact c
    · have := (m3.1 b hb).2.2 a c ha; have := (m3.1 b hb).1; omega
  refine p1.tell (z := x) (by omega) x1 x2 z1 (by omega) hoy (by rw [uq_ne (by omega)]; exact y4) gr (fun i hi => ?_) (fun i hi => ?_) ?_ (fun l l1 l2 l3 l4 => ?_)
  · rw [h46]
    split
    · rw [uq_ne (by rw [hoy] at hi; exact hi)]
    · rfl
  · by_cases c : x = par x + 1
    · rw [h47 c]
    · rcases z5 with z5 | ⟨_, l, l1, l2, l3, l4, l5⟩
      · exact absurd z5 c
      · rw [h47b c l l1 l2 l3 l4, uq_ne]
        refine hi l l1 l2 l3 ?_
        rw [uq_ne (fun e => by subst e; omega)]; exact l4
  · rw [h46, hoy]
    by_cases c : x = par x + 1
    · rw [if_pos c, if_pos c, uq_at]
    · rw [if_neg c, if_neg c]
  · obtain ⟨l5, l6⟩ := bx l l1 l2 l3 l4
    by_cases c : x = par x + 1
    · exact (nol c l l1 l2 l3 l5).elim
    · rw [h47b c l l1 l2 l3 l5, uq_at]
end
