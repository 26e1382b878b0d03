/-! A use and its blocks, further; what the reference does at the end of a block of a use. -/
section
variable {S S1 S2 Sr Sr1 Sr2 : PS} {A : Nat → Nat} {B : Nat → Int32} {n : Nat}
theorem Att.pt {N pc wr sy nd pc1 wr1 sy1 nd1 e i ow s bh bh1 : Nat} (h : Att S Sr A B n pc wr sy nd e i ow s bh) (hc : GrC S S1 A N pc) (he : e < N) (hr : ∀ r, 42 ≤ r → r ≤ 49 → r ≠ 46 → r ≠ 47 → r ≠ 48 → aI Sr1 r (A r) i = aI Sr r (A r) i) (hr48 : aL Sr1 48 (A 48) i = aL Sr 48 (A 48) i) (hrw : ∀ r k, k < wr → 50 ≤ r → r ≤ 52 → aI Sr1 r (A r) k = aI Sr r (A r) k) (hrs : ∀ r k, k < sy → 53 ≤ r → r ≤ 54 → aI Sr1 r (A r) k = aI Sr r (A r) k) (h46 : ow = i + 1 → aI Sr1 46 (A 46) i = aI Sr 46 (A 46) i) (h1 : pc ≤ pc1) (h2 : wr ≤ wr1) (h3 : sy ≤ sy1) (h4 : nd ≤ nd1) (hb : bh1 ≠ 5000 → bh ≠ 5000) : Att S1 Sr1 A B n pc1 wr1 sy1 nd1 e i ow s bh1 := by
  obtain ⟨pl, a1, a2, a3, a4⟩ := h
  have c := fun r (x : r ≠ 17) (x2 : r ≠ 20) (y : 16 ≤ r) (z : r ≤ 21) => hc.1 r e he x x2 y z
  have d := fun r (x : 42 ≤ r) (y : r ≤ 49) (z1 : r ≠ 46) (z2 : r ≠ 47) (z3 : r ≠ 48) => hr r x y z1 z2 z3
  have c18 := c 18 (by decide) (by decide) (by decide) (by decide)
  have c19 := c 19 (by decide) (by decide) (by decide) (by decide)
  have c21 := c 21 (by decide) (by decide) (by decide) (by decide)
  have c20 := hc.2.1 e he
  have d44 := d 44 (by decide) (by decide) (by decide) (by decide) (by decide)
  have d45 := d 45 (by decide) (by decide) (by decide) (by decide) (by decide)
  have d49 := d 49 (by decide) (by decide) (by decide) (by decide) (by decide)
  have d48 := hr48
  refine ⟨pl, a1, by rw [c 16 (by decide) (by decide) (by decide) (by decide)]; exact a2, by rw [d 42 (by decide) (by decide) (by decide) (by decide) (by decide)]; exact a3, ?_⟩
  rcases a4 with a4 | ⟨a5, a6, a7⟩
  · exact Or.inl a4
  · refine Or.inr ⟨a5, by rw [d 43 (by decide) (by decide) (by decide) (by decide) (by decide)]; exact a6, ?_⟩
    rcases a7 with ⟨b1, b2, b3⟩ | b | b | b | ⟨b1, b2, b3⟩ | ⟨b1, b2, b3, b4⟩ | ⟨b1, b2, b3, b4⟩
    · refine Or.inl ⟨b1, b2, ?_⟩
      obtain ⟨y1, f, w, k, t, y2, y3, y4, y5, y6, y7, y8, y9, z1, z2, z3, z4, z5, z5b, z6⟩ := b3
      refine ⟨y1, f, w, k, t, by rw [c21]; exact y2, by omega, by rw [d44]; exact y4, by omega, y6, y7, by rw [c19]; exact y8, by rw [d45]; exact y9, z1, by rw [c20]; exact z2, by rw [d48]; exact z3, by rw [d49, c18]; exact z4, by rw [c18]; exact z5, by rw [c18]; exact z5b, fun j hj => ?_⟩
      obtain ⟨q, x1, x2, x3, x4, x5⟩ := z6 j hj
      exact ⟨q, x1, by rw [hc.2.2 _ (by omega)]; exact x2, by rw [hrw 50 _ (by omega) (by decide) (by decide)]; exact x3, by rw [hrw 51 _ (by omega) (by decide) (by decide)]; exact x4, by rw [hrw 52 _ (by omega) (by decide) (by decide)]; exact x5⟩
    · exact Or.inr (Or.inl b)
    · refine Or.inr (Or.inr (Or.inl ?_))
      obtain ⟨y1, y2, y3, y4⟩ := b
      refine ⟨?_, by rw [d44, c18]; exact y2, by rw [d45, c19]; exact y3, by rw [c18, c19]; exact y4⟩
      rcases y1 with y1 | ⟨y5, y6, y7⟩
      · exact Or.inl y1
      · exact Or.inr ⟨y5, y6, by rw [h46 y6]; exact y7⟩
    · exact Or.inr (Or.inr (Or.inr (Or.inl b)))
    · refine Or.inr (Or.inr (Or.inr (Or.inr (Or.inl ⟨b1, b2, ?_⟩))))
      obtain ⟨y1, f, w, k, v, y2, y3, y4, y5, y6, y7, y8, y9, z1, z2, z3⟩ := b3
      refine ⟨y1, f, w, k, v, by rw [c21]; exact y2, by omega, by rw [d45]; exact y4, by omega, by rw [c19]; exact y6, by rw [d48]; exact y7, y8, y9, by rw [c18]; exact z1, by rw [d44]; exact z2, fun j hj => ?_⟩
      obtain ⟨y, x1, x2, x3, x4, x5, x6⟩ := z3 j hj
      exact ⟨y, x1, x2, x3, by rw [hc.2.2 _ (by omega)]; exact x4, by rw [hrs 53 _ (by omega) (by decide) (by decide)]; exact x5, by rw [hrs 54 _ (by omega) (by decide) (by decide)]; exact x6⟩
    · exact Or.inr (Or.inr (Or.inr (Or.inr (Or.inr (Or.inl ⟨b1, b2, b3, fun z => by rw [h46 b2]; exact b4 (hb z)⟩)))))
    · refine Or.inr (Or.inr (Or.inr (Or.inr (Or.inr (Or.inr ⟨b1, b2, b3, ?_⟩)))))
      unfold AtU at b4 ⊢
      rw [c18, c19, d44]
      rcases b4 with b4 | ⟨x1, k, x2, x3, x4⟩
      · exact Or.inl b4
      · exact Or.inr ⟨x1, k, by omega, x3, x4⟩
end
section
variable {S S1 S2 Sr Sra Srb Src : PS} {A : Nat → Nat} {B : Nat → Int32} {n p op N pc nd pq T wr sy : Nat} {inm : Bool} {stk : List (Nat × Nat × Nat × Nat × Nat)} {g ow bh par ks lv : Nat → Nat} {pe : Nat → Bool} {lst : Int32} {Q : PS → Prop}
/-- the numbers of a use may change -/
theorem PX.chg {x y : Nat} {v : Int32} {u : Int64} (h : PX S Sra A B n N T pc wr sy nd g ow bh par ks lv pe x lst) (hy1 : 1 ≤ y) (hy : y ≤ N) (hk : ks y = 10) (hb : ∀ r, r ≠ 45 → aI Srb r = aI Sra r) (b45 : aI Srb 45 (A 45) = uq (aI Sra 45 (A 45)) (g y) v) (b48 : aL Srb 48 (A 48) = uq (aL Sra 48 (A 48)) (g y) u) : PX S Srb A B n N T pc wr sy nd g ow bh par ks lv pe x lst := by
  obtain ⟨m3, m4, m6, m7, m8⟩ := h
  refine ⟨by rw [hb 46 (by decide), hb 47 (by decide)]; exact m3, m4, m6, fun z z1 z2 => ?_, m8⟩
  have hz := m7 z z1 z2
  by_cases e : z = y
  · subst e
    rw [hk] at hz ⊢
    obtain ⟨pl, y1, y2, y3, y4⟩ := hz
    refine ⟨pl, y1, y2, by rw [hb 42 (by decide)]; exact y3, ?_⟩
    rcases y4 with y4 | ⟨y5, y6, y7⟩
    · exact absurd y4.1 (by decide)
    · refine Or.inr ⟨y5, by rw [hb 43 (by decide)]; exact y6, ?_⟩
      rcases y7 with z | z | z | z | z | z | z
      · exact absurd z.1 (by decide)
      · exact absurd z.1 (by decide)
      · rcases z.1 with y | y
        · exact absurd y.2.1 (by decide)
        · rcases y.1 with y | y | y | y <;> exact absurd y.2 (by decide)
      · exact absurd z.1 (by decide)
      · exact absurd z.1 (by decide)
      · exact absurd z.1 (by decide)
      · refine Or.inr (Or.inr (Or.inr (Or.inr (Or.inr (Or.inr ⟨rfl, z.2.1, z.2.2.1, ?_⟩)))))
        have := z.2.2.2
        unfold AtU at this ⊢
        rw [hb 44 (by decide)]; exact this
  · have hg : g z ≠ g y := fun e2 => by
      rcases Nat.lt_trichotomy z y with c | c | c
      · have := (m3.1 z z2).2.2 y c hy; have := (m3.1 z z2).1; omega
      · exact e c
      · have := (m3.1 y hy).2.2 z c z2; have := (m3.1 y hy).1; omega
    refine hz.pt (N := N) GrC.rf (by omega) (fun r r1 r2 r3 r4 r5 => ?_) (by rw [b48, uq_ne hg]) (fun r k _ x1 x2 => by rw [hb r (by omega)]) (fun r k _ x1 x2 => by rw [hb r (by omega)]) (fun _ => by rw [hb 46 (by decide)]) (Nat.le_refl _) (Nat.le_refl _) (Nat.le_refl _) (Nat.le_refl _) id
    by_cases c : r = 45
    · rw [c, b45, uq_ne hg]
    · rw [hb r c]
/-- the block of a use ends, the next begins -/
theorem MX.unxt {x k q pl : Nat} {w : Nat × Nat} {f1 : Nat × Nat × Nat × Nat × Nat} {r : List (Nat × Nat × Nat × Nat × Nat)} {a b pl3 : Int32} {t : Int64} (h : MX S Sr A B n p (op + 1) N pc nd pq inm ((4, x, k + 1, w) :: f1 :: r) T wr sy g ow bh par ks lv pe lst) (hk : 1 ≤ k) (hop : op < 8) (hN : N < 1508)
    (h17 : S1 = wI S 17 (A 17) (x - 1) (nI N)) (cd : CD S1 S2 A N pl pc a b t) (hc26 : aI S2 26 = aI S 26) (hpl : pl ≤ n)
    (gr : GrR Sr Sra A T wr sy) (h46 : aI Sra 46 (A 46) = if x = par x + 1 then uq (aI Sr 46 (A 46)) (g (par x)) (nI (g x)) else aI Sr 46 (A 46)) (h47 : x = par x + 1 → aI Sra 47 (A 47) = aI Sr 47 (A 47)) (h47b : x ≠ par x + 1 → ∀ l, 1 ≤ l → l ≤ N → par l = par x → bh l + 1 = x → aI Sra 47 (A 47) = uq (aI Sr 47 (A 47)) (g l) (nI (g x)))
    (ha : ∀ r, 55 ≤ r → r ≤ 64 → aI Sra r = aI Sr r) (hb : ∀ r, r ≠ 45 → aI Srb r = aI Sra r) (b45 : aI Srb 45 (A 45) = uq (aI Sra 45 (A 45)) (g (par x)) (nI k)) (b48 : aL Srb 48 (A 48) = uq (aL Sra 48 (A 48)) (g (par x)) (lN (g x)))
    (ob : OB Srb Src A T op 4 (nI (g (par x))) pl3 q) (rt : RT Src A B n) (nu : Num Src A q (op + 1) (N + 1) (T + 1) pc wr sy nd pq inm) : MM S2 Src A B n q (op + 1) (N + 1) pc nd pq inm ((4, N + 1, k, w.1, w.2 + 1) :: f1 :: r) := by
  have hpar := h.parlt
  have pt := h.utel (by omega) h17 gr trivial h46 h47 h47b
  obtain ⟨m1, m2, m3, m4, m5, m6, m7, m8, m9, m10, m11, m12, m13⟩ := h
  have hT : T ≤ 2 * N + 2 := m2.2.2.2.1
  obtain ⟨x1, x2, x3, x4, x5, x6, x7, y1, y2, y3, y4, y5, y6, y7, y8, y9, z1, z2, z3, z4, z5, z6⟩ := m10.four
  have hlen : r.length = op := by simp only [List.length_cons] at m11; omega
  have pc2 := pt.chg (Srb := Srb) y1 y2 y7 hb b45 b48
  have hpx := hpar x x1 x2
  have hpy := hpar (par x) y1 y2
  have hgx := m3.glt x2
  have hgy := m3.glt y2
  obtain ⟨kob, v1, v2, v3, v4, v5, v6, v7, v8, v9, v10, v11, v12, v13, v14, v15⟩ := ob
  have fc : ∀ r, rB r = false → aI Src r = aI Srb r := fun r hr => (kob.2.2 r hr).1
  have hlvx := (m8 x x1 x2).2
  rw [if_neg (by omega)] at hlvx
  have grc : GrR Srb Src A T wr sy := by
    refine ⟨fun r i hi w1 w2 w3 w4 w5 => ?_, fun i hi => by rw [v10, uq_ne (by omega)], fun x i hi w1 w2 => by rw [fc x (by unfold rB; rw [decide_eq_false_iff_not]; omega)], fun x i hi w1 w2 => by rw [fc x (by unfold rB; rw [decide_eq_false_iff_not]; omega)]⟩
    have hx : r = 42 ∨ r = 43 ∨ r = 44 ∨ r = 45 ∨ r = 49 := by omega
    rcases hx with rfl | rfl | rfl | rfl | rfl
    · rw [v4, uq_ne (by omega)]
    · rw [v5, uq_ne (by omega)]
    · rw [v6, uq_ne (by omega)]
    · rw [v7, uq_ne (by omega)]
    · rw [v11, uq_ne (by omega)]
  have hoy := (m3.1 (par x) y2).2.1
  have p3 := pc2.add (s := 11) (op := op) (pd := true) (S1 := S2) (Sr1 := Src) hN (by omega) (by omega) (by rw [if_neg (by omega), ← hlvx, y5, hlen]) cd grc (fun i z _ => by rw [v8, uq_ne z]) (by rw [v8, uq_at]) (fun i z1 z2 z3 => by rw [v9, uq_ne z1]) (by rw [v9, uq_at]) (fun e => by cases e) (fun _ => ⟨by rw [v8, uq_ne (by omega)], fun l e1 e2 => by rw [v9, uq_ne (by omega)]⟩) (Nat.le_refl _) (Nat.le_refl _) (Nat.le_refl _) (Nat.le_refl _) (Att.mus hpl (by rw [cd.1, uq_at]) (by rw [v4, uq_at]))
  have ne1 : ∀ {z}, z ≤ N → z ≠ N + 1 := fun {z} hz => by omega
  have e23 : aI S1 23 = aI S 23 ∧ aI S1 24 = aI S 24 ∧ aI S1 25 = aI S 25 := by
    rw [h17]
    exact ⟨aI_wn _ _ _ _ _ _ (by decide), aI_wn _ _ _ _ _ _ (by decide), aI_wn _ _ _ _ _ _ (by decide)⟩
  have r55 : ∀ r, 55 ≤ r → r ≤ 60 → aI Src r = aI Sr r := fun r a1 a2 => by rw [fc r (by unfold rB; rw [decide_eq_false_iff_not]; omega), hb r (by omega), ha r a1 (by omega)]
  have o61 : ∀ r, 61 ≤ r → r ≤ 64 → aI Srb r = aI Sr r := fun r a1 a2 => by rw [hb r (by omega), ha r (by omega) a2]
  have ginj : ∀ a b, a ≤ N → b ≤ N → g a = g b → a = b := fun a b ha hb e => by
    rcases Nat.lt_trichotomy a b with c | c | c
    · have := (m3.1 a ha).2.2 b c hb; have := (m3.1 a ha).1; omega
    · exact c
    · have := (m3.1 b hb).2.2 a c ha; have := (m3.1 b hb).1; omega
  have ow45 : ∀ z, z ≤ N → z < par x → aI Src 45 (A 45) (g z) = aI Sr 45 (A 45) (g z) ∧ aL Src 48 (A 48) (g z) = aL Sr 48 (A 48) (g z) := fun z hz hlt => by
    have hgz := m3.glt hz
    have hne : g z ≠ g (par x) := fun e => by have := ginj z (par x) hz y2 e; omega
    rw [v7, uq_ne (by omega), b45, uq_ne hne, gr.1 45 _ hgz (by decide) (by decide) (by decide) (by decide) (by decide), v10, uq_ne (by omega), b48, uq_ne hne, gr.2.1 _ hgz]
    exact ⟨rfl, rfl⟩
  refine p3.mm (stk := (4, N + 1, k, w.1, w.2 + 1) :: f1 :: r) rt nu (by rw [v15, uq_at]) ?_ ?_ (by simp only [List.length_cons]; omega) (by rw [uq_ne (by omega)]; exact m12) (by rw [uq_ne (by omega)]; exact m13)
  · refine ⟨m9.1.mono (by omega) (fun z hz => ⟨uq_ne (ne1 hz), uq_ne (ne1 hz), fun y => by rw [uq_ne (ne1 hz), uq_ne (fun e => by subst e; exact y x3)]⟩) (cd.2.2.2.2.2.2.2.1.trans e23.1) (cd.2.2.2.2.2.2.2.2.1.trans e23.2.1) (cd.2.2.2.2.2.2.2.2.2.trans e23.2.2) (fun _ => hc26) (fun r x y => r55 r x (by omega)) (fun _ => ⟨r55 59 (by decide) (by decide), r55 60 (by decide) (by decide)⟩), m9.2.step (pq1 := pq) hpar (fun z z1 z2 => (m3.2.2.2.2.2.1 z z1 z2).2.2.2) (by omega) (fun z hz => ⟨uq_ne (ne1 hz), uq_ne (ne1 hz), fun y => by rw [uq_ne (ne1 hz), uq_ne (fun e => by subst e; exact y x3)]⟩) (fun e he => ⟨by rw [cd.2.2.1, uq_ne (by omega), h17, aI_wn _ _ _ _ _ _ (by decide)], by rw [cd.2.2.2.1, uq_ne (by omega), h17, aI_wn _ _ _ _ _ _ (by decide)]⟩) (cd.2.2.2.2.2.2.2.2.1.trans e23.2.1) (cd.2.2.2.2.2.2.2.2.2.trans e23.2.2) (fun z => ⟨z, Nat.le_refl _⟩) (fun z z1 z2 z3 z4 => ?_) (fun z hz y => by (rw [uq_ne (ne1 hz)] at y; by_cases e : z = x; (subst e; exact z1); (rw [uq_ne e] at y; exact y))) (fun z z1 z2 => ?_) (fun f hf f4 => ?_) (fun z => mem3c (mem3 (show (4 : Nat) ≠ 3 by decide) (m9.2.2.2 z)))⟩
    · by_cases e : z = x
      · subst e
        exact ⟨by omega, fun y => by omega, fun y => by omega, fun y => by rw [uq_ne (ne1 z2), uq_at] at y; cases y⟩
      · exact absurd (by rw [uq_ne (ne1 z2), uq_ne e]; exact z3) z4
    · have e : z = N + 1 := by omega
      subst e
      exact UE.mus uq_at uq_at (by omega) (Or.inr (by rw [uq_ne (ne1 y2)]; exact y7)) (fun _ => ⟨uq_at, by rw [uq_ne (ne1 y2)]; exact y7⟩)
    · rcases List.mem_cons.mp hf with e | e
      · refine Or.inr ?_
        obtain ⟨w1, w2, w3, w4, w5⟩ := m9.2.2.1 (4, x, k + 1, w) (List.mem_cons_self ..) rfl
        have w1' : 1 ≤ w.1 := w1
        have w2' : w.1 ≤ N := w2
        have w3' : ks w.1 = 10 := w3
        have w4' : aI S 19 (A 19) (w.1 - 1) = 0 := w4
        have w5' : ∀ d m, aI S 18 (A 18) (w.1 - 1) = nI d → d < nd → m ≤ 4 → aI S 25 (A 25) d = nI m → w.2 + (k + 1) = m := w5
        rw [e]
        refine ⟨w1', by show w.1 ≤ N + 1; omega, by show uq ks (N + 1) 11 w.1 = 10; rw [uq_ne (ne1 w2')]; exact w3', ?_, fun d m' v1 v2 v3 v4 => ?_⟩
        · show aI S2 19 (A 19) (w.1 - 1) = 0
          rw [cd.2.2.2.1, uq_ne (by omega), h17, aI_wn _ _ _ _ _ _ (by decide)]; exact w4'
        · have v1' : aI S2 18 (A 18) (w.1 - 1) = nI d := v1
          rw [cd.2.2.1, uq_ne (by omega), h17, aI_wn _ _ _ _ _ _ (by decide)] at v1'
          have := w5' d m' v1' v2 v3 (by rw [cd.2.2.2.2.2.2.2.2.2, e23.2.2] at v4; exact v4)
          show w.2 + 1 + k = m'
          omega
      · exact Or.inl (List.mem_cons_of_mem _ e)
  · have old : SK Src A B n (N + 1) (uq g (N + 1) T) (uq ow (N + 1) T) (uq (uq bh x N) (N + 1) 5000) (uq par (N + 1) (par x)) (uq ks (N + 1) 11) (uq lv (N + 1) op) (uq (uq pe x false) (N + 1) true) (f1 :: r) := by
      have st1 : SK Sr A B n N g ow bh par ks lv (uq pe x false) (f1 :: r) := by
        have go : ∀ l, (l.headD (0, 0, 0, 0, 0)).2.1 < par x → SK Sr A B n N g ow bh par ks lv pe l → SK Sr A B n N g ow bh par ks lv (uq pe x false) l := by
          intro l
          induction l with
          | nil => intro _ y; exact y
          | cons f rr ihl =>
            cases rr with
            | nil => intro _ y; exact y
            | cons f2 rr =>
              intro hlt y
              have hlt1 : f.2.1 < par x := hlt
              obtain ⟨a1, a2, a3, a4, a5, a6, a7, a8, a9, b1, b2, b3, b4, b5, b6, b7, b8, b9, c1⟩ := y
              have pf := hpar f.2.1 a3 a4
              have il : itm par f.1 f.2.1 ≤ f.2.1 := by unfold itm; split <;> omega
              have pi := hpar _ b1 b2
              refine ⟨a1, a2, a3, a4, a5, a6, a7, a8, a9, b1, b2, b3, b4, b5, b6, b7, b8, fun z => ?_, ihl (by show f2.2.1 < par x; omega) c1⟩
              obtain ⟨d0, d1, d2, d3, d4, d5, d6, d7, d10⟩ := b9 z
              refine ⟨d0, d1, d2, by rw [uq_ne (by omega)]; exact d3, d4, d5, d6, ?_, d10⟩
              rcases d7 with d7 | ⟨d8, d9⟩
              · exact Or.inl d7
              · exact Or.inr ⟨by rw [uq_ne (by omega)]; exact d8, d9⟩
        exact go (f1 :: r) (by show f1.2.1 < par x; omega) y8
      exact SK.mono2 (L := op + 1) (x0 := par x) hpar (by omega) (by omega) (fun z hz => ⟨uq_ne (ne1 hz), uq_ne (ne1 hz), uq_ne (ne1 hz), uq_ne (ne1 hz), uq_ne (ne1 hz), uq_ne (ne1 hz)⟩) (fun z hz y => by
        rw [uq_ne (ne1 hz), uq_ne (fun e => ?_)]
        subst e
        rcases y with y | y
        · omega
        · exact y x3) (fun j hj => ⟨by rw [v12, uq_ne (by omega), o61 61 (by decide) (by decide)], by rw [v13, uq_ne (by omega), o61 62 (by decide) (by decide)], by rw [v14, uq_ne (by omega), o61 63 (by decide) (by decide)]⟩) (fun j hj => by rw [v15, uq_ne (by omega), o61 64 (by decide) (by decide)]) ow45 ⟨by rw [r55 59 (by decide) (by decide)], by rw [r55 60 (by decide) (by decide)]⟩ (f1 :: r) (by rw [List.length_cons]; omega) (by show f1.2.1 < par x; omega) st1
    have hp2 : uq par (N + 1) (par x) (N + 1) = par x := uq_at
    have hit : itm (uq par (N + 1) (par x)) 4 (N + 1) = par x := by unfold itm; rw [if_neg (by decide)]; exact hp2
    have hg1 : uq g (N + 1) T (par x) = g (par x) := uq_ne (ne1 y2)
    refine ⟨by show 1 ≤ 4; omega, by show 4 ≤ 4; omega, by show 1 ≤ N + 1; omega, Nat.le_refl _, uq_at, ?_, ?_, ?_, ?_, ?_, ?_, ?_, ?_, ?_, fun z => absurd z (show ¬ (4 : Nat) = 1 by decide), fun z => absurd z (show ¬ (4 : Nat) = 2 by decide), fun z => absurd z (show ¬ (4 : Nat) = 3 by decide), fun _ => ⟨?_, uq_at, ?_, uq_at, hk, by show k ≤ 4; omega, ?_, Or.inr ⟨?_, x, x1, by omega, ?_, ?_, ?_⟩, ?_⟩, old⟩
    · show aI Src 61 (A 61) (r.length + 1) = nI 4
      rw [hlen, v12, uq_at]; rfl
    · show aI Src 63 (A 63) (r.length + 1) = nI (uq ow (N + 1) T (N + 1))
      rw [hlen, v14, uq_at, uq_at]
    · show aI Src 62 (A 62) (r.length + 1) = nI (uq g (N + 1) T (itm _ 4 (N + 1)))
      rw [hit, hg1, hlen, v13, uq_at]
    · show aI Src 64 (A 64) r.length = nI (uq g (N + 1) T (itm _ 4 (N + 1)))
      rw [hit, hg1, v15, uq_ne (by omega), o61 64 (by decide) (by decide)]; exact x7
    · show 1 ≤ itm _ 4 (N + 1)
      rw [hit]; exact y1
    · show itm _ 4 (N + 1) ≤ N + 1
      rw [hit]; omega
    · show uq par (N + 1) (par x) (itm _ 4 (N + 1)) = f1.2.1
      rw [hit, uq_ne (ne1 y2)]; exact y3
    · show uq (uq bh x N) (N + 1) 5000 (itm _ 4 (N + 1)) = 5000
      rw [hit, uq_ne (ne1 y2), uq_ne (by omega)]; exact y4
    · show uq lv (N + 1) op (N + 1) + stp (uq ks (N + 1) 11) _ (N + 1) = r.length + 1
      unfold stp
      rw [uq_at, uq_at, hp2, uq_ne (ne1 y2), y7, if_neg (by decide), if_neg (fun z => absurd z.2 (by decide))]; omega
    · show uq par (N + 1) (par x) (N + 1) = w.1
      rw [hp2]; exact y9
    · show uq ks (N + 1) 11 (uq par (N + 1) (par x) (N + 1)) = 10
      rw [hp2, uq_ne (ne1 y2)]; exact y7
    · show aI Src 45 (A 45) (uq g (N + 1) T (uq par (N + 1) (par x) (N + 1))) = nI k
      rw [hp2, hg1, v7, uq_ne (by omega), b45, uq_at]
    · show uq (uq pe x false) (N + 1) true (uq par (N + 1) (par x) (N + 1) + 1) = false
      rw [hp2, uq_ne (by omega)]
      rcases z5 with z5 | ⟨z7, _⟩
      · rw [← z5, uq_at]
      · by_cases c : par x + 1 = x
        · rw [c, uq_at]
        · rw [uq_ne c]; exact z7
    · show uq par (N + 1) (par x) x = uq par (N + 1) (par x) (N + 1)
      rw [hp2, uq_ne (ne1 x2)]
    · show uq (uq bh x N) (N + 1) 5000 x + 1 = N + 1
      rw [uq_ne (ne1 x2), uq_at]
    · show aL Src 48 (A 48) (uq g (N + 1) T (uq par (N + 1) (par x) (N + 1))) = lN (uq g (N + 1) T x)
      rw [hp2, hg1, uq_ne (ne1 x2), v10, uq_ne (by omega), b48, uq_at]
    · show Ch (N + 1) (uq (uq bh x N) (N + 1) 5000) (uq par (N + 1) (par x)) (uq par (N + 1) (par x) (N + 1)) (w.2 + 1) (N + 1 - 1)
      rw [hp2]
      have ex : x - 1 + 1 = x := by omega
      refine ⟨x - 1, z6.mono (by omega) (fun c hc h5 => ⟨uq_ne (ne1 hc), by rw [uq_ne (ne1 hc), uq_ne (fun e => by subst e; exact h5 x3)]⟩), by omega, ?_, ?_, by omega⟩
      · rw [ex, uq_ne (ne1 x2)]
      · rw [ex, uq_ne (ne1 x2), uq_at]; omega
/-- the last block of a use ends -/
theorem MX.uend {x k q : Nat} {w : Nat × Nat} {f1 : Nat × Nat × Nat × Nat × Nat} {r : List (Nat × Nat × Nat × Nat × Nat)} (hk1 : k = 1) (h : MX S Sr A B n p (op + 1) N pc nd pq inm ((4, x, k, w) :: f1 :: r) T wr sy g ow bh par ks lv pe lst) (hN : N < 1510)
    (h17 : S1 = wI S 17 (A 17) (x - 1) (nI N)) (hc : GrC S1 S2 A N pc) (h17b : aI S2 17 (A 17) = uq (aI S1 17 (A 17)) (par x - 1) (nI N)) (hc2 : ∀ r, 23 ≤ r → r ≤ 26 → aI S2 r = aI S r)
    (gr : GrR Sr Sra A T wr sy) (h46 : aI Sra 46 (A 46) = if x = par x + 1 then uq (aI Sr 46 (A 46)) (g (par x)) (nI (g x)) else aI Sr 46 (A 46)) (h47 : x = par x + 1 → aI Sra 47 (A 47) = aI Sr 47 (A 47)) (h47b : x ≠ par x + 1 → ∀ l, 1 ≤ l → l ≤ N → par l = par x → bh l + 1 = x → aI Sra 47 (A 47) = uq (aI Sr 47 (A 47)) (g l) (nI (g x)))
    (ha : ∀ r, 55 ≤ r → r ≤ 64 → aI Sra r = aI Sr r) (hb : ∀ r, r ≠ 45 → aI Srb r = aI Sra r) {v : Int32} (b45 : aI Srb 45 (A 45) = uq (aI Sra 45 (A 45)) (g (par x)) v) (b48 : aL Srb 48 (A 48) = uq (aL Sra 48 (A 48)) (g (par x)) (lN (g x)))
    (rt : RT Srb A B n) (nu : Num Srb A q op N T pc wr sy nd pq inm) : MM S2 Srb A B n q op N pc nd pq inm (f1 :: r) := by
  have hpar := h.parlt
  have pt := h.utel hN h17 gr trivial h46 h47 h47b
  obtain ⟨m1, m2, m3, m4, m5, m6, m7, m8, m9, m10, m11, m12, m13⟩ := h
  obtain ⟨x1, x2, x3, x4, x5, x6, x7, y1, y2, y3, y4, y5, y6, y7, y8, y9, z1, z2, z3, z4, z5, z6⟩ := m10.four
  have hlen : r.length = op := by simp only [List.length_cons] at m11; omega
  have pc2 := pt.chg (Srb := Srb) y1 y2 y7 hb b45 b48
  have hpx := hpar x x1 x2
  have hpy := hpar (par x) y1 y2
  have p2 := pc2.close (S1 := wI S1 17 (A 17) (par x - 1) (nI N)) hN y1 (by omega) rfl
  rw [y3] at p2
  have p3 : PX S2 Srb A B n N T pc wr sy nd g ow (uq (uq bh x N) (par x) N) par ks lv (uq pe x false) f1.2.1 (nI (g (par x))) := by
    obtain ⟨q1, q2, q3, q4, q5⟩ := p2
    refine ⟨q1, q2, fun z z1 z2 z3 => by rw [h17b]; have := q3 z z1 z2 z3; rw [aI_w] at this; exact this, ?_, q5⟩
    exact q4.same (T := T) (fun z hz => m3.glt hz) ⟨fun r e he r1 r2 r3 r4 => by rw [hc.1 r e he r1 r2 r3 r4, aI_wn _ _ _ _ _ _ r1], fun e he => by rw [hc.2.1 e he]; rfl, fun k hk => by rw [hc.2.2 k hk, aI_wn _ _ _ _ _ _ (by decide)]⟩ GrR.rf (fun _ _ _ _ => rfl) (Nat.le_refl _) (Nat.le_refl _) (Nat.le_refl _) (Nat.le_refl _) (fun _ _ _ z => Or.inl z)
  have bb : ∀ z, z ≤ N → (z < par x ∨ bh z ≠ 5000) → uq (uq bh x N) (par x) N z = bh z := fun z hz y => by
    rw [uq_ne (fun e => ?_), uq_ne (fun e => ?_)]
    · subst e
      rcases y with y | y
      · omega
      · exact y x3
    · subst e
      rcases y with y | y
      · omega
      · exact y y4
  have o55 : ∀ r, 55 ≤ r → r ≤ 64 → aI Srb r = aI Sr r := fun r a1 a2 => by rw [hb r (by omega), ha r a1 a2]
  have ginj : ∀ a b, a ≤ N → b ≤ N → g a = g b → a = b := fun a b ha hb e => by
    rcases Nat.lt_trichotomy a b with c | c | c
    · have := (m3.1 a ha).2.2 b c hb; have := (m3.1 a ha).1; omega
    · exact c
    · have := (m3.1 b hb).2.2 a c ha; have := (m3.1 b hb).1; omega
  have ow45 : ∀ z, z ≤ N → z < par x → aI Srb 45 (A 45) (g z) = aI Sr 45 (A 45) (g z) ∧ aL Srb 48 (A 48) (g z) = aL Sr 48 (A 48) (g z) := fun z hz hlt => by
    have hgz := m3.glt hz
    have hne : g z ≠ g (par x) := fun e => by have := ginj z (par x) hz y2 e; omega
    rw [b45, uq_ne hne, gr.1 45 _ hgz (by decide) (by decide) (by decide) (by decide) (by decide), b48, uq_ne hne, gr.2.1 _ hgz]
    exact ⟨rfl, rfl⟩
  refine p3.mm (stk := f1 :: r) rt nu (by rw [o55 64 (by decide) (by decide), ← hlen]; exact x7) ?_ ?_ (by rw [List.length_cons, hlen]) m12 m13
  · refine ⟨m9.1.mono (Nat.le_refl N) (fun z hz => ⟨rfl, rfl, fun y => bb z hz (Or.inr y)⟩) (hc2 23 (by decide) (by decide)) (hc2 24 (by decide) (by decide)) (hc2 25 (by decide) (by decide)) (fun _ => hc2 26 (by decide) (by decide)) (fun r a1 a2 => o55 r a1 (by omega)) (fun _ => ⟨o55 59 (by decide) (by decide), o55 60 (by decide) (by decide)⟩), m9.2.step (pq1 := pq) hpar (fun z z1 z2 => (m3.2.2.2.2.2.1 z z1 z2).2.2.2) (Nat.le_refl N) (fun z hz => ⟨rfl, rfl, fun y => bb z hz (Or.inr y)⟩) (fun e he => ⟨by rw [hc.1 18 e he (by decide) (by decide) (by decide) (by decide), h17, aI_wn _ _ _ _ _ _ (by decide)], by rw [hc.1 19 e he (by decide) (by decide) (by decide) (by decide), h17, aI_wn _ _ _ _ _ _ (by decide)]⟩) (hc2 24 (by decide) (by decide)) (hc2 25 (by decide) (by decide)) (fun z => ⟨z, Nat.le_refl _⟩) (fun z z1 z2 z3 z4 => ?_) (fun z hz y => by (by_cases e : z = x; (subst e; exact z1); (rw [uq_ne e] at y; exact y))) (fun z z1 z2 => by omega) (fun f hf _ => Or.inl (List.mem_cons_of_mem _ hf)) (fun z => mem3 (show (4 : Nat) ≠ 3 by decide) (m9.2.2.2 z))⟩
    by_cases e : z = par x
    · subst e
      refine ⟨by omega, fun y => by omega, fun _ v0 d m d1 v1 dm v2 i hi => ?_, fun _ y => by omega⟩
      obtain ⟨w1, w2, w3, w4, w5⟩ := m9.2.2.1 (4, x, k, w) (List.mem_cons_self ..) rfl
      have w5' : ∀ d m, aI S 18 (A 18) (w.1 - 1) = nI d → d < nd → m ≤ 4 → aI S 25 (A 25) d = nI m → w.2 + k = m := w5
      have em := w5' d m (by rw [← y9]; rw [hc.1 18 (par x - 1) (by omega) (by decide) (by decide) (by decide) (by decide), h17, aI_wn _ _ _ _ _ _ (by decide)] at v1; exact v1) d1 dm (by rw [hc2 25 (by decide) (by decide)] at v2; exact v2)
      have mo : ∀ {i c : Nat}, Ch N bh par (par x) i c → Ch N (uq (uq bh x N) (par x) N) par (par x) i c := fun h => h.mono (Nat.le_refl N) (fun c hc h5 => ⟨rfl, bb c hc (Or.inr h5)⟩)
      rw [uq_at]
      rcases Nat.lt_or_ge i w.2 with q | q
      · obtain ⟨c', c1, c2, c3⟩ := z6.le i q
        exact ⟨c', mo c1, c2, c3⟩
      · have ei : i = w.2 := by omega
        have ex : x - 1 + 1 = x := by omega
        rw [ei]
        exact ⟨x - 1, mo z6, by omega, by rw [ex]⟩
    · by_cases e2 : z = x
      · subst e2
        exact ⟨by omega, fun y => by omega, fun y => by omega, fun y => by rw [uq_at] at y; cases y⟩
      · exact absurd (by rw [uq_ne e, uq_ne e2]; exact z3) z4
  · have st1 : SK Sr A B n N g ow bh par ks lv (uq pe x false) (f1 :: r) := by
      have go : ∀ l, (l.headD (0, 0, 0, 0, 0)).2.1 < par x → SK Sr A B n N g ow bh par ks lv pe l → SK Sr A B n N g ow bh par ks lv (uq pe x false) l := by
        intro l
        induction l with
        | nil => intro _ y; exact y
        | cons f rr ihl =>
          cases rr with
          | nil => intro _ y; exact y
          | cons f2 rr =>
            intro hlt y
            have hlt1 : f.2.1 < par x := hlt
            obtain ⟨a1, a2, a3, a4, a5, a6, a7, a8, a9, b1, b2, b3, b4, b5, b6, b7, b8, b9, c1⟩ := y
            have pf := hpar f.2.1 a3 a4
            have il : itm par f.1 f.2.1 ≤ f.2.1 := by unfold itm; split <;> omega
            have pi := hpar _ b1 b2
            refine ⟨a1, a2, a3, a4, a5, a6, a7, a8, a9, b1, b2, b3, b4, b5, b6, b7, b8, fun z => ?_, ihl (by show f2.2.1 < par x; omega) c1⟩
            obtain ⟨d0, d1, d2, d3, d4, d5, d6, d7, d10⟩ := b9 z
            refine ⟨d0, d1, d2, by rw [uq_ne (by omega)]; exact d3, d4, d5, d6, ?_, d10⟩
            rcases d7 with d7 | ⟨d8, d9⟩
            · exact Or.inl d7
            · exact Or.inr ⟨by rw [uq_ne (by omega)]; exact d8, d9⟩
      exact go (f1 :: r) (by show f1.2.1 < par x; omega) y8
    exact SK.mono2 (L := op + 1) (x0 := par x) hpar (Nat.le_refl N) (by omega) (fun z hz => ⟨rfl, rfl, rfl, rfl, rfl, rfl⟩) bb (fun j _ => ⟨by rw [o55 61 (by decide) (by decide)], by rw [o55 62 (by decide) (by decide)], by rw [o55 63 (by decide) (by decide)]⟩) (fun j hj => by rw [o55 64 (by decide) (by decide)]) ow45 ⟨by rw [o55 59 (by decide) (by decide)], by rw [o55 60 (by decide) (by decide)]⟩ (f1 :: r) (by rw [List.length_cons]; omega) (by show f1.2.1 < par x; omega) st1
/-- the reference: the block m of the use i is there -/
theorem r_useBlock {i m l k : Nat} (h : RT Sr A B n) (hi : i < 3100) (hm : m < 3100) (hk : k < 10) (h45 : aI Sr 45 (A 45) i = nI (k + 1)) (hl : aI Sr 46 (A 46) i ≠ -1 → aL Sr 48 (A 48) i = lN l ∧ l < 3100)
    (hQ : ∀ Sra Srb, KM Sr Srb → fI Srb = fI Sr → (∀ r, r ≠ 46 → r ≠ 47 → aI Sra r = aI Sr r) → aL Sra = aL Sr → (aI Sr 46 (A 46) i = -1 → aI Sra 46 (A 46) = uq (aI Sr 46 (A 46)) i (nI m) ∧ aI Sra 47 (A 47) = aI Sr 47 (A 47)) → (aI Sr 46 (A 46) i ≠ -1 → aI Sra 46 (A 46) = aI Sr 46 (A 46) ∧ aI Sra 47 (A 47) = uq (aI Sr 47 (A 47)) l (nI m)) → (∀ r, r ≠ 45 → aI Srb r = aI Sra r) → aI Srb 45 (A 45) = uq (aI Sra 45 (A 45)) i (nI k) → aL Srb 48 (A 48) = uq (aL Sra 48 (A 48)) i (lN m) → (k = 0 → Q Srb) ∧ (k ≠ 0 → wp_X12_openBlock (A 9) 4 (nI i) Srb Q)) : wp_X12_useBlock (A 9) (nI i) (nI m) Sr Q := by
  unfold wp_X12_useBlock
  refine ⟨_, h.1.f109, by rw [h.1.n46]; exact vp_in_nI hi (by omega), ?_⟩
  rw [nI_clamp (by omega)]
  intro K hK
  have fin : ∀ Sra, KM Sr Sra → fI Sra = fI Sr → (∀ r, r ≠ 46 → r ≠ 47 → aI Sra r = aI Sr r) → aL Sra = aL Sr → (aI Sr 46 (A 46) i = -1 → aI Sra 46 (A 46) = uq (aI Sr 46 (A 46)) i (nI m) ∧ aI Sra 47 (A 47) = aI Sr 47 (A 47)) → (aI Sr 46 (A 46) i ≠ -1 → aI Sra 46 (A 46) = aI Sr 46 (A 46) ∧ aI Sra 47 (A 47) = uq (aI Sr 47 (A 47)) l (nI m)) → K Sra := by
    intro Sra k1 k2 k3 k4 k5 k6
    apply hK
    have h2 := h.km k1
    refine ⟨_, h2.1.f111, by rw [h2.1.n48]; exact vp_in_nI hi (by omega), ?_⟩
    rw [nI_l (by omega)]
    rintro _ rfl
    refine ⟨_, h2.1.f108, by show vp_in _ (aN Sra (A 45)); rw [h2.1.n45]; exact vp_in_nI hi (by omega), by show vp_in _ (aN Sra (A 45)); rw [h2.1.n45]; exact vp_in_nI hi (by omega), ?_⟩
    rw [aI_wL, k3 45 (by decide) (by decide), h45, nI_pred]
    rintro _ rfl
    refine ⟨_, h2.1.f108, by show vp_in _ (aN Sra (A 45)); rw [h2.1.n45]; exact vp_in_nI hi (by omega), ?_⟩
    rw [aI_w, uq_at]
    have q := hQ Sra (wI (wL Sra 48 (A 48) i (lN m)) 45 (A 45) i (nI k)) (Keep.tr k1 ((Keep.rf.wL rfl).wI rfl)) k2 k3 k4 k5 k6 (fun r hr => by rw [aI_wn _ _ _ _ _ _ hr]; rfl) (by rw [aI_w]; rfl) (by rw [aL_wI, aL_w])
    by_cases c : k = 0
    · rw [if_pos (by rw [c]; decide)]; exact q.1 c
    · rw [if_neg (nI_nle (by omega) (by omega))]; exact q.2 c
  by_cases c : aI Sr 46 (A 46) i = -1
  · rw [if_pos c]
    refine ⟨_, h.1.f109, by rw [h.1.n46]; exact vp_in_nI hi (by omega), ?_⟩
    rintro _ rfl
    exact fin _ (Keep.rf.wI rfl) rfl (fun r r1 r2 => aI_wn _ _ _ _ _ _ r1) rfl (fun _ => ⟨aI_w _ _ _ _ _, by rw [aI_wn _ _ _ _ _ _ (by decide)]⟩) (fun z => absurd c z)
  · rw [if_neg c]
    obtain ⟨l1, l2⟩ := hl c
    refine ⟨_, h.1.f110, _, h.1.f111, by rw [h.1.n48]; exact vp_in_nI hi (by omega), ?_⟩
    rw [l1, lN_i, nI_clamp (by omega)]
    refine ⟨by rw [h.1.n47]; exact vp_in_nI l2 (by omega), ?_⟩
    rintro _ rfl
    exact fin _ (Keep.rf.wI rfl) rfl (fun r r1 r2 => aI_wn _ _ _ _ _ _ r2) rfl (fun z => absurd z c) (fun _ => ⟨by rw [aI_wn _ _ _ _ _ _ (by decide)], aI_w _ _ _ _ _⟩)
end
