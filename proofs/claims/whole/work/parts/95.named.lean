/-! A named music ends: both. -/
section
variable {S S1 S10 S13 Sr Sr1 : PS} {A : Nat → Nat} {B : Nat → Int32} {n p op N pc nd pq T wr sy : Nat} {inm : Bool} {stk : List (Nat × Nat × Nat × Nat × Nat)} {G : Int32 → PS → Prop} {Q : PS → Prop} {g ow bh par ks lv : Nat → Nat} {pe : Nat → Bool} {lst : Int32}
theorem Tre.innc {inn nxt inn1 : Nat → Int32} (h : Tre N T g ow bh par pe inn nxt) (he : ∀ z, z ≤ N → inn1 (ow z) = inn (ow z)) : Tre N T g ow bh par pe inn1 nxt := ⟨h.1, fun x hx => by rw [he x hx]; exact h.2.1 x hx, h.2.2⟩
theorem MX.end3 {x k q : Nat} {w : Nat × Nat} {f1 : Nat × Nat × Nat × Nat × Nat} {r : List (Nat × Nat × Nat × Nat × Nat)} (h : MX S Sr A B n p (op + 1) N pc nd pq true ((3, x, k, w) :: f1 :: r) T wr sy g ow bh par ks lv pe lst) (hN : N < 1510) (hpq : pq ≤ 4) (hnd : nd < 2 ^ 31)
    (hc : GrC S S1 A N pc) (h17 : aI S1 17 (A 17) = uq (aI S 17 (A 17)) (x - 1) (nI N)) (h23 : aI S1 23 (A 23) = uq (aI S 23 (A 23)) nd (hs B w)) (h24 : aI S1 24 (A 24) = uq (aI S 24 (A 24)) nd (nI (x - 1))) (h25 : aI S1 25 (A 25) = uq (aI S 25 (A 25)) nd (nI pq))
    (rt : RT Sr1 A B n) (nu : Num Sr1 A q op N T pc wr sy (nd + 1) 0 false) (ha : ∀ r, r ≠ 46 → r < 55 ∨ 58 < r → aI Sr1 r = aI Sr r) (hl : aL Sr1 = aL Sr) (h46 : aI Sr1 46 (A 46) = uq (aI Sr 46 (A 46)) (g x) (nI (ow x))) (h55 : aI Sr1 55 (A 55) = uq (aI Sr 55 (A 55)) nd (aI Sr 59 (A 59) 0)) (h56 : aI Sr1 56 (A 56) = uq (aI Sr 56 (A 56)) nd (aI Sr 60 (A 60) 0)) (h57 : aI Sr1 57 (A 57) = uq (aI Sr 57 (A 57)) nd (nI (ow x))) (h58 : aI Sr1 58 (A 58) = uq (aI Sr 58 (A 58)) nd (nI pq)) : MM S1 Sr1 A B n q op N pc (nd + 1) 0 false (f1 :: r) := by
  have hpar := h.parlt
  obtain ⟨m1, m2, m3, m4, m5, m6, m7, m8, m9, m10, m11, m12, m13⟩ := h
  obtain ⟨a1, a2, a3, a4, a5, a6, a7, a8, a9, b1, b2, b3, b4, b5, b6, b7, b8, b9, c1⟩ := m10
  have hx1 : 1 ≤ x := a3
  have hxN : x ≤ N := a4
  have hit : itm par 3 x = x := by unfold itm; rw [if_pos (Or.inr rfl)]
  have hpx : par x = f1.2.1 := by have z : par (itm par 3 x) = f1.2.1 := b3; rw [hit] at z; exact z
  have h64 : aI Sr 64 (A 64) r.length = nI (g x) := by have z : aI Sr 64 (A 64) r.length = nI (g (itm par 3 x)) := a9; rw [hit] at z; exact z
  have hlen : r.length = op := by simpa using m11
  obtain ⟨t1, u1⟩ := m3.close m4 (by omega) hx1
  have ux : hdx ((3, x, k, w) :: f1 :: r) = x := rfl
  rw [ux] at t1 u1
  rw [hpx] at u1
  have hbx : bh x = 5000 := a5
  obtain ⟨k9, w1, w2, w3⟩ : ks x = 9 ∧ aI Sr 59 (A 59) 0 = nI w.1 ∧ aI Sr 60 (A 60) 0 = nI w.2 ∧ Wn B n w := b8 rfl
  have hox : ow x = g x + 1 := by
    obtain ⟨pl, z1, z2, z3, z4⟩ := m7 x hx1 hxN
    rw [k9] at z4
    rcases z4 with z4 | ⟨z5, z6, z7⟩
    · exact absurd z4.1 (by decide)
    · rcases z7 with z | z | z | z | z | z | z
      · exact absurd z.1 (by decide)
      · exact absurd z.1 (by decide)
      · rcases z.1 with y | y
        · exact absurd y.2.1 (by decide)
        · rcases y.1 with y | y | y | y <;> exact absurd y.2 (by decide)
      · exact absurd z.1 (by decide)
      · exact absurd z.1 (by decide)
      · exact z.2.1
      · exact absurd z.1 (by decide)
  have gr : GrR Sr Sr1 A T wr sy := ⟨fun r i _ r1 r2 r3 r4 r5 => by rw [ha r r3 (by omega)], fun i _ => by rw [hl], fun r i _ x y => by rw [ha r (by omega) (by omega)], fun r i _ x y => by rw [ha r (by omega) (by omega)]⟩
  have ginj : ∀ z, z ≤ N → z ≠ x → g z ≠ g x := fun z hz hne e => by
    rcases Nat.lt_trichotomy z x with c | c | c
    · have := (m3.1 z hz).2.2 x c hxN; have := (m3.1 z hz).1; omega
    · exact hne c
    · have := (m3.1 x hxN).2.2 z c hz; have := (m3.1 x hxN).1; omega
  refine ⟨T, wr, sy, g, ow, uq bh x N, par, ks, lv, pe, nI (g x), rt, nu, ?_, u1, by rw [ha 64 (by decide) (by decide), ← hlen]; exact h64, m6.close hx1 h17, ?_, m8, ⟨⟨fun j hj => ?_, fun z => by cases z⟩, ?_⟩, ?_, by rw [List.length_cons, hlen], m12, m13⟩
  · rw [ha 47 (by decide) (by decide), h46]
    exact t1.innc (fun z hz => by rw [uq_ne (fun e => m3.gow hxN hz (by omega) e.symm)])
  · intro z z1 z2
    by_cases e : z = x
    · subst e
      rw [uq_at]
      have := (m7 z z1 z2).mono (S1 := S1) (Sr1 := Sr) (bh1 := bh z) (pc1 := pc) (wr1 := wr) (sy1 := sy) (nd1 := nd + 1) hc (by omega) (GrR.rf (T := T) (wr := wr) (sy := sy)) (m3.glt z2) (fun _ => rfl) (Nat.le_refl _) (Nat.le_refl _) (Nat.le_refl _) (Nat.le_succ _) id
      obtain ⟨pl, y1, y2, y3, y4⟩ := this
      rw [k9] at y3 y4 ⊢
      refine ⟨pl, y1, y2, by rw [ha 42 (by decide) (by decide)]; exact y3, ?_⟩
      rcases y4 with y4 | ⟨y5, y6, y7⟩
      · exact absurd y4.1 (by decide)
      · refine Or.inr ⟨y5, by rw [ha 43 (by decide) (by decide)]; exact y6, ?_⟩
        rcases y7 with z | z | z | z | z | z | z
        · exact absurd z.1 (by decide)
        · exact absurd z.1 (by decide)
        · rcases z.1 with y | y
          · exact absurd y.2.1 (by decide)
          · rcases y.1 with y | y | y | y <;> exact absurd y.2 (by decide)
        · exact absurd z.1 (by decide)
        · exact absurd z.1 (by decide)
        · exact Or.inr (Or.inr (Or.inr (Or.inr (Or.inr (Or.inl ⟨rfl, z.2.1, z.2.2.1, fun _ => by rw [h46, uq_at]⟩)))))
        · exact absurd z.1 (by decide)
    · rw [uq_ne e]
      exact (m7 z z1 z2).mono hc (by omega) gr (m3.glt z2) (fun _ => by rw [h46, uq_ne (ginj z z2 e)]) (Nat.le_refl _) (Nat.le_refl _) (Nat.le_refl _) (Nat.le_succ _) id
  · rcases Nat.lt_or_ge j nd with c | c
    · obtain ⟨y1, z, m, y2, y3, y4, y5, y6, y7, y8, y9, y10⟩ := m9.1.1 j c
      obtain ⟨wj, v1, v2, v3, v4⟩ := y1
      have hnx : z ≠ x := fun e => by subst e; exact y5 hbx
      refine ⟨⟨wj, v1, by rw [h55, uq_ne (by omega)]; exact v2, by rw [h56, uq_ne (by omega)]; exact v3, by rw [h23, uq_ne (by omega)]; exact v4⟩, z, m, y2, y3, y4, by rw [uq_ne hnx]; exact y5, y6, by rw [h24, uq_ne (by omega)]; exact y7, by rw [h57, uq_ne (by omega)]; exact y8, by rw [h25, uq_ne (by omega)]; exact y9, by rw [h58, uq_ne (by omega)]; exact y10⟩
    · have ej : j = nd := by omega
      rw [ej]
      exact ⟨⟨w, w3, by rw [h55, uq_at]; exact w1, by rw [h56, uq_at]; exact w2, by rw [h23, uq_at]⟩, x, pq, hx1, hxN, k9, by rw [uq_at]; omega, hpq, by rw [h24, uq_at], by rw [h57, uq_at], by rw [h25, uq_at], by rw [h58, uq_at]⟩
  · have att : ∀ z, 1 ≤ z → z ≤ N → ks z = 10 → aI S 19 (A 19) (z - 1) = 0 → ∃ d, d < nd ∧ aI S 18 (A 18) (z - 1) = nI d := fun z z1 z2 z3 z4 => by
      obtain ⟨pl, y1, y2, y3, y4⟩ := m7 z z1 z2
      rw [z3] at y4
      rcases y4 with y4 | ⟨y5, y6, y7⟩
      · exact absurd y4.1 (by decide)
      · rcases y7 with y | y | y | y | y | y | y
        · exact absurd y.1 (by decide)
        · exact absurd y.1 (by decide)
        · rcases y.1 with y | y
          · exact absurd y.2.1 (by decide)
          · rcases y.1 with y | y | y | y <;> exact absurd y.2 (by decide)
        · exact absurd y.1 (by decide)
        · exact absurd y.1 (by decide)
        · exact absurd y.1 (by decide)
        · rcases y.2.2.2 with ⟨w1, _⟩ | ⟨_, d, w1, w2, _⟩
          · rw [z4] at w1; exact absurd w1 (by decide)
          · exact ⟨d, w1, w2⟩
    have nd20 : nd < 2 ^ 31 := hnd
    have hbo : ∀ z, z ≤ N → bh z ≠ 5000 → uq bh x N z = bh z := fun z _ y => uq_ne (fun e => by subst e; exact y hbx)
    have same25 : ∀ d, d < nd → aI S1 25 (A 25) d = aI S 25 (A 25) d := fun d hd => by rw [h25, uq_ne (by omega)]
    refine ⟨fun z z1 z2 => ?_, fun f hf f4 => ?_, fun y => by cases y⟩
    · obtain ⟨u1, u2, u3, u4, u5, u6⟩ := m9.2.1 z z1 z2
      have c18 := hc.1 18 (z - 1) (by omega) (by decide) (by decide) (by decide) (by decide)
      have c19 := hc.1 19 (z - 1) (by omega) (by decide) (by decide) (by decide) (by decide)
      refine ⟨u1, fun y => ?_, fun y => ?_, fun y yb => ?_, u5, fun y => ⟨by rw [uq_ne (fun e => by subst e; have := (u6 y).2.1; omega)]; exact (u6 y).1, (u6 y).2⟩⟩
      · rw [uq_ne (fun e => by subst e; omega)]; exact u2 y
      · intro v0 j hj v1
        obtain ⟨b1, b2, b3⟩ := u3 y (by rw [← c19]; exact v0) j hj (by rw [← c18]; exact v1)
        have ny := nmy_is (ks := ks) hpar (show par z ≤ N by have := hpar z z1 z2; omega)
        have n9 := ny.2 b1
        by_cases e : nmy par ks (par z) = x
        · rw [e, uq_at]
          refine ⟨hx1, fun q => by omega, fun _ d m d1 dm v2 v3 => ?_⟩
          rcases Nat.lt_or_ge d nd with c | c
          · obtain ⟨_, z', m', q2, q3, q4, q5, q6, q7, q8, q9, q10⟩ := m9.1.1 d c
            rw [h24, uq_ne (by omega), q7, nI_eq (by omega) (by omega)] at v2
            have : z' = x := by omega
            rw [this] at q5; exact absurd hbx q5
          · have ed : d = nd := by omega
            rw [ed, h25, uq_at, nI_eq (by omega) (by omega)] at v3
            rw [e] at b2
            have := (b2 hbx).2
            omega
        · rw [uq_ne e]
          refine ⟨b1, fun q => ?_, fun q d m d1 dm v2 v3 => ?_⟩
          · exfalso
            have hle := m4.2.2.1 _ ny.1 q
            rw [ux] at hle
            have h0 := m3.nmo (ks := ks) (by omega) b1 n9 q x hxN (by omega) hbx
            have := (m9.2.1 x hx1 hxN).2.2.2.2.1 k9
            omega
          · rcases Nat.lt_or_ge d nd with c | c
            · exact b3 q d m c dm (by rw [h24, uq_ne (by omega)] at v2; exact v2) (by rw [same25 d c] at v3; exact v3)
            · have ed : d = nd := by omega
              rw [ed, h24, uq_at, nI_eq (by omega) (by omega)] at v2
              omega
      · have bz : bh z ≠ 5000 := by
          by_cases e : z = x
          · subst e; omega
          · rw [uq_ne e] at yb; exact yb
        have bzN : bh z ≤ N := by
          rcases (m3.2.2.2.2.2.1 z z1 z2).2.2.2 with q | q
          · exact q
          · exact absurd q bz
        intro v0 d m d1 v1 dm v2
        obtain ⟨d', e1, e2⟩ := att z z1 z2 y (by rw [← c19]; exact v0)
        rw [c18, e2, nI_eq (by omega) (by omega)] at v1
        have hd : d < nd := by omega
        exact ((u4 y bz).mono (S1 := S1) (Nat.le_refl N) (fun _ _ => rfl) hbo z2 bz bzN c18 c19 same25) v0 d m hd (by rw [c18, e2, v1]) dm v2
    · obtain ⟨w1', w2', w3', w4', w5'⟩ := m9.2.2.1 f (List.mem_cons_of_mem _ hf) f4
      have c18 := hc.1 18 (f.2.2.2.1 - 1) (by omega) (by decide) (by decide) (by decide) (by decide)
      have c19 := hc.1 19 (f.2.2.2.1 - 1) (by omega) (by decide) (by decide) (by decide) (by decide)
      refine ⟨w1', w2', w3', by rw [c19]; exact w4', fun d m v1 d1 dm v2 => ?_⟩
      obtain ⟨d', e1, e2⟩ := att _ w1' w2' w3' w4'
      rw [c18, e2, nI_eq (by omega) (by omega)] at v1
      have hd : d < nd := by omega
      exact w5' d m (by rw [e2, v1]) hd dm (by rw [← same25 d hd]; exact v2)
  · refine SK.mono (T := T) (L := op + 1) (x0 := x) hpar (fun z hz => m3.glt hz) (Nat.le_refl N) (by omega) (fun z hz => ⟨rfl, rfl, rfl, rfl, rfl, rfl⟩) (fun z hz y => uq_ne (fun e => ?_)) (fun j _ => ⟨by rw [ha 61 (by decide) (by decide)], by rw [ha 62 (by decide) (by decide)], by rw [ha 63 (by decide) (by decide)]⟩) (fun j hj => by rw [ha 64 (by decide) (by decide)]) (fun i hi => ⟨by rw [ha 45 (by decide) (by decide)], by rw [hl]⟩) ⟨by rw [ha 59 (by decide) (by decide)], by rw [ha 60 (by decide) (by decide)]⟩ (f1 :: r) (by rw [List.length_cons, hlen]; omega) ?_ c1
    · subst e
      rcases y with y | y
      · omega
      · exact y hbx
    · show f1.2.1 < x
      rw [← hpx]; exact hpar x hx1 hxN
theorem chn_61 {r9 : Int32} (hw : wp_X12_namedAt (A 9) r9 S Q) : chn (A 9) 61 r9 S Q := by
  unfold chn
  rw [if_neg (by decide), if_pos rfl]
  exact hw
theorem chn_36 {r9 : Int32} (hw : wp_X12_useAt (A 9) r9 S Q) : chn (A 9) 36 r9 S Q := by
  unfold chn
  rw [if_pos rfl]
  exact hw
end
