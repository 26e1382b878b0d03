/-! What happens to both: a whole item, a block that opens, a block that ends. -/
section
variable {S S1 Sr Sr1 : PS} {A : Nat → Nat} {B : Nat → Int32} {n p op N pc nd pq T wr sy : Nat} {inm : Bool} {stk : List (Nat × Nat × Nat × Nat × Nat)} {g ow bh par ks lv : Nat → Nat} {pe : Nat → Bool} {lst : Int32}
/-- the entry whose list is being read -/
def hdx (stk : List (Nat × Nat × Nat × Nat × Nat)) : Nat := (stk.headD (0, 0, 0, 0, 0)).2.1
def MX (S Sr : PS) (A : Nat → Nat) (B : Nat → Int32) (n p op N pc nd pq : Nat) (inm : Bool) (stk : List (Nat × Nat × Nat × Nat × Nat)) (T wr sy : Nat) (g ow bh par ks lv : Nat → Nat) (pe : Nat → Bool) (lst : Int32) : Prop :=
  RT Sr A B n ∧ Num Sr A p op N T pc wr sy nd pq inm ∧ Tre N T g ow bh par pe (aI Sr 46 (A 46)) (aI Sr 47 (A 47)) ∧ Top N g bh par (hdx stk) lst ∧ aI Sr 64 (A 64) op = lst ∧ Cls S A N bh ∧ Ats S Sr A B n N pc wr sy nd g ow bh ks ∧ Lvs N par ks lv ∧ (Nms S Sr A B n N nd pq inm ow bh ks ∧ Ux S A N nd pq inm bh par ks pe stk) ∧ SK Sr A B n N g ow bh par ks lv pe stk ∧ stk.length = op + 1 ∧ g 0 = 0 ∧ ow 0 = 0
theorem MX.mm (h : MX S Sr A B n p op N pc nd pq inm stk T wr sy g ow bh par ks lv pe lst) : MM S Sr A B n p op N pc nd pq inm stk := ⟨T, wr, sy, g, ow, bh, par, ks, lv, pe, lst, h⟩
theorem MM.mx (h : MM S Sr A B n p op N pc nd pq inm stk) : ∃ T wr sy g ow bh par ks lv pe lst, MX S Sr A B n p op N pc nd pq inm stk T wr sy g ow bh par ks lv pe lst := h
theorem MX.parlt (h : MX S Sr A B n p op N pc nd pq inm stk T wr sy g ow bh par ks lv pe lst) : ∀ z, 1 ≤ z → z ≤ N → par z < z := fun z a b => (h.2.2.1.2.2.2.2.2.1 z a b).1
theorem MX.leaf {q pc1 wr1 sy1 s pl : Nat} {a b s2 pl2 a2 b2 z2 : Int32} {t t2 : Int64} (h : MX S Sr A B n p op N pc nd pq inm stk T wr sy g ow bh par ks lv pe lst) (hop : op ≤ 8) (hN : N < 1508)
    (rt : RT Sr1 A B n) (nu : Num Sr1 A q op (N + 1) (T + 1) pc1 wr1 sy1 nd pq inm) (cd : CD S S1 A N pl pc a b t) (c26 : aI S1 26 = aI S 26)
    (rl : RLn Sr Sr1 A T wr sy (ow (hdx stk)) lst s2 pl2 a2 b2 t2 z2) (r55 : ∀ r, 55 ≤ r → r ≤ 63 → aI Sr1 r = aI Sr r) (r64 : aI Sr1 64 (A 64) = uq (aI Sr 64 (A 64)) op (nI T))
    (hp1 : pc ≤ pc1) (hw1 : wr ≤ wr1) (hs1 : sy ≤ sy1) (ha : Att S1 Sr1 A B n pc1 wr1 sy1 nd N T T s (N + 1)) (hs : s = 0 ∨ s = 1 ∨ s = 2 ∨ s = 8 ∨ s = 10 ∧ (b = 1 → ∀ j, j < 4 → a = nI j → inm = true ∧ j < pq) ∧ (b = 0 → ∀ d m, d < nd → a = nI d → m ≤ 4 → aI S 25 (A 25) d = nI m → m = 0)) : MM S1 Sr1 A B n q op (N + 1) pc1 nd pq inm stk := by
  have hpar := h.parlt
  obtain ⟨m1, m2, m3, m4, m5, m6, m7, m8, m9, m10, m11, m12, m13⟩ := h
  have hT : T ≤ 2 * N + 2 := m2.2.2.2.1
  obtain ⟨t1, u1⟩ := m3.lnk m4 (by omega) (by omega) rl.2.2.2.2.1
  obtain ⟨t2', u2⟩ := t1.close u1 (by omega) (by omega)
  rw [uq_uq] at t2' u2
  rw [uq_at, uq_at] at u2
  have ne : ∀ {z}, z ≤ N → z ≠ N + 1 := fun {z} hz => by omega
  refine ⟨T + 1, wr1, sy1, uq g (N + 1) T, uq ow (N + 1) T, uq bh (N + 1) (N + 1), uq par (N + 1) (hdx stk), uq ks (N + 1) s, uq lv (N + 1) op, uq pe (N + 1) false, nI T, rt, nu, t2', u2, ?_, m6.leaf cd.2.1, ?_, ?_, ?_, ?_, m11, ?_, ?_⟩
  · rw [r64, uq_at]
  · exact m7.add m3 cd.gr rl.gr m4.1 (fun i hi hn => rl.2.2.2.2.1.1 i (by omega) hn) hp1 hw1 hs1 (Nat.le_refl nd) ha
  · exact m8.add hpar m4.1 hop (fun z1 z2 => absurd ⟨z1, z2⟩ ha.no) (m10.level m11)
  · refine ⟨m9.1.mono (Nat.le_succ N) (fun x hx => ⟨uq_ne (ne hx), uq_ne (ne hx), fun _ => uq_ne (ne hx)⟩) cd.2.2.2.2.2.2.2.1 cd.2.2.2.2.2.2.2.2.1 cd.2.2.2.2.2.2.2.2.2 (fun _ => c26) (fun r x y => r55 r x (by omega)) (fun _ => ⟨r55 59 (by decide) (by decide), r55 60 (by decide) (by decide)⟩), m9.2.step hpar (fun z z1 z2 => (m3.2.2.2.2.2.1 z z1 z2).2.2.2) (Nat.le_succ N) (fun z hz => ⟨uq_ne (ne hz), uq_ne (ne hz), fun _ => uq_ne (ne hz)⟩) (fun e he => ⟨by rw [cd.2.2.1, uq_ne (by omega)], by rw [cd.2.2.2.1, uq_ne (by omega)]⟩) cd.2.2.2.2.2.2.2.2.1 cd.2.2.2.2.2.2.2.2.2 (fun z => ⟨z, Nat.le_refl _⟩) (fun z z1 z2 z3 z4 => absurd ((uq_ne (ne z2)).trans z3) z4) (fun z hz y => by rw [uq_ne (ne hz)] at y; exact y) (fun z z1 z2 => ?_) (fun f hf _ => Or.inl hf) m9.2.2.2⟩
    have ez : z = N + 1 := by omega
    subst ez
    have nk := m10.nk
    have nk1 : hdx stk ≠ 0 → uq ks (N + 1) s (hdx stk) ≠ 7 ∧ uq ks (N + 1) s (hdx stk) ≠ 10 := fun y => by rw [uq_ne (ne m4.1)]; exact nk y
    rcases hs with y | y | y | y | ⟨y, u1, u2⟩
    · exact UE.plain uq_at uq_at nk1 (by omega) (by omega) (by omega) (fun w => by omega) uq_at
    · exact UE.plain uq_at uq_at nk1 (by omega) (by omega) (by omega) (fun w => by omega) uq_at
    · exact UE.plain uq_at uq_at nk1 (by omega) (by omega) (by omega) (fun w => by omega) uq_at
    · exact UE.plain uq_at uq_at nk1 (by omega) (by omega) (by omega) (fun w => by omega) uq_at
    · refine UE.us (by rw [uq_at]; exact y) uq_at nk1 (fun z0 j hj z3 => ?_) (fun _ z0 d m d1 z3 m4' z5 k hk => ?_) uq_at
      · rw [Nat.add_sub_cancel, cd.2.2.2.1, uq_at] at z0
        rw [Nat.add_sub_cancel, cd.2.2.1, uq_at] at z3
        obtain ⟨v1, v2⟩ := u1 z0 j hj z3
        have nm := SK.nm hpar m10 (m9.2.2.2 v1)
        have en : nmy (uq par (N + 1) (hdx stk)) (uq ks (N + 1) s) (uq par (N + 1) (hdx stk) (N + 1)) = nmy par ks (hdx stk) := by
          rw [uq_at]; exact nmy_c hpar (fun z hz => ⟨uq_ne (ne hz), uq_ne (ne hz)⟩) m4.1
        have ny := (nmy_is (ks := ks) hpar m4.1).1
        rw [en, uq_ne (ne ny)]
        exact ⟨nm.1, fun _ => ⟨v1, v2⟩, fun w => absurd nm.2 w⟩
      · rw [Nat.add_sub_cancel, cd.2.2.2.1, uq_at] at z0
        rw [Nat.add_sub_cancel, cd.2.2.1, uq_at] at z3
        have := u2 z0 d m d1 z3 m4' (by rw [cd.2.2.2.2.2.2.2.2.2] at z5; exact z5)
        omega
  · refine SK.mono (T := T) (L := op + 1) (x0 := N + 1) hpar (fun z hz => m3.glt hz) (Nat.le_succ N) (by omega) (fun z hz => ⟨uq_ne (ne hz), uq_ne (ne hz), uq_ne (ne hz), uq_ne (ne hz), uq_ne (ne hz), uq_ne (ne hz)⟩) (fun z hz _ => uq_ne (ne hz)) (fun j _ => ⟨by rw [r55 61 (by decide) (by decide)], by rw [r55 62 (by decide) (by decide)], by rw [r55 63 (by decide) (by decide)]⟩) (fun j hj => by rw [r64, uq_ne (by omega)]) (fun i hi => ⟨by rw [rl.2.2.2.1, uq_ne (by omega)], by rw [rl.2.2.2.2.2.1, uq_ne (by omega)]⟩) ⟨by rw [r55 59 (by decide) (by decide)], by rw [r55 60 (by decide) (by decide)]⟩ stk (by omega) (by have := m4.1; show hdx stk < _; omega) m10
  · rw [uq_ne (by omega)]; exact m12
  · rw [uq_ne (by omega)]; exact m13
/-- a block opens: its item is T, its music T + 1; s1 is 1, or 3 for a named one -/
theorem MX.opn {Sr2 : PS} {q pl s s1 pq1 : Nat} {w0 : Nat × Nat} {inm1 : Bool} {a b s2 pl2 a2 b2 z2 : Int32} {t t2 : Int64} (h : MX S Sr A B n p op N pc nd pq inm stk T wr sy g ow bh par ks lv pe lst) (hop : op < 8) (hN : N < 1508)
    (rt : RT Sr2 A B n) (nu : Num Sr2 A q (op + 1) (N + 1) (T + 2) pc wr sy nd pq1 inm1) (cd : CD S S1 A N pl pc a b t)
    (rl : RLn Sr Sr1 A T wr sy (ow (hdx stk)) lst s2 pl2 a2 b2 t2 z2)
    (r42 : GrR Sr1 Sr2 A (T + 1) wr sy) (r46 : ∀ i, i ≠ T + 1 → i ≠ T → aI Sr2 46 (A 46) i = aI Sr1 46 (A 46) i) (r46T : aI Sr2 46 (A 46) (T + 1) = -1) (r47 : ∀ i, i ≠ T + 1 → aI Sr2 47 (A 47) i = aI Sr1 47 (A 47) i)
    (r55 : ∀ r, 55 ≤ r → r ≤ 58 → aI Sr2 r = aI Sr r) (r61 : aI Sr2 61 (A 61) = uq (aI Sr 61 (A 61)) (op + 1) (nI s1)) (r62 : aI Sr2 62 (A 62) = uq (aI Sr 62 (A 62)) (op + 1) (nI T)) (r63 : aI Sr2 63 (A 63) = uq (aI Sr 63 (A 63)) (op + 1) (nI (T + 1))) (r64 : aI Sr2 64 (A 64) = uq (uq (aI Sr 64 (A 64)) op (nI T)) (op + 1) (-1))
    (hnm : Nms S1 Sr2 A B n N nd pq1 inm1 ow bh ks) (h59 : inm = true → aI Sr2 59 = aI Sr 59 ∧ aI Sr2 60 = aI Sr 60) (hst3 : inm = false → ∀ f, f ∈ stk → f.1 ≠ 3) (hinm : inm = true → inm1 = true ∧ pq ≤ pq1) (hsame : inm = false → s1 = 1 → inm1 = false) (h9i : s = 9 → inm = false)
    (hs1 : s1 = 1 ∧ (s = 3 ∨ s = 4 ∨ s = 5 ∨ s = 6) ∨ s1 = 3 ∧ s = 9 ∧ aI Sr2 59 (A 59) 0 = nI w0.1 ∧ aI Sr2 60 (A 60) 0 = nI w0.2 ∧ Wn B n w0)
    (ha : Att S1 Sr2 A B n pc wr sy nd N T (T + 1) s 5000) : MM S1 Sr2 A B n q (op + 1) (N + 1) pc nd pq1 inm1 ((s1, N + 1, 0, w0) :: stk) := by
  have hpar := h.parlt
  obtain ⟨m1, m2, m3, m4, m5, m6, m7, m8, m9, m10, m11, m12, m13⟩ := h
  have hT : T ≤ 2 * N + 2 := m2.2.2.2.1
  obtain ⟨t1, u1⟩ := m3.lnk m4 (by omega) (by omega) rl.2.2.2.2.1
  have t3 := t1.own (inn1 := aI Sr2 46 (A 46)) (nxt1 := aI Sr2 47 (A 47)) (by rw [uq_at, uq_at]) (fun i x y => r46 i x (by rw [uq_at] at y; exact y)) r46T r47
  rw [uq_uq] at t3
  have ne : ∀ {z}, z ≤ N → z ≠ N + 1 := fun {z} hz => by omega
  have gr2 : GrR Sr Sr2 A T wr sy := by
    have g1 := rl.gr
    exact ⟨fun r i hi x1 x2 x3 x4 x5 => (r42.1 r i (by omega) x1 x2 x3 x4 x5).trans (g1.1 r i hi x1 x2 x3 x4 x5), fun i hi => (r42.2.1 i (by omega)).trans (g1.2.1 i hi), fun r k x1 x2 x3 => (r42.2.2.1 r k x1 x2 x3).trans (g1.2.2.1 r k x1 x2 x3), fun r k x1 x2 x3 => (r42.2.2.2 r k x1 x2 x3).trans (g1.2.2.2 r k x1 x2 x3)⟩
  have hks : s ≠ 10 ∧ s ≠ 11 := by rcases hs1 with ⟨_, z⟩ | ⟨_, z, _⟩ <;> omega
  have hs14 : s1 = 1 ∨ s1 = 3 := by rcases hs1 with ⟨z, _⟩ | ⟨z, _⟩ <;> omega
  have hit : itm (uq par (N + 1) (hdx stk)) s1 (N + 1) = N + 1 := by unfold itm; rw [if_pos hs14]
  refine ⟨T + 2, wr, sy, uq g (N + 1) T, uq ow (N + 1) (T + 1), uq bh (N + 1) 5000, uq par (N + 1) (hdx stk), uq ks (N + 1) s, uq lv (N + 1) op, uq pe (N + 1) false, -1, rt, nu, t3, u1, ?_, m6.add cd.2.1, ?_, ?_, ?_, ?_, by rw [List.length_cons, m11], ?_, ?_⟩
  · rw [r64, uq_at]
  · exact m7.add m3 cd.gr gr2 m4.1 (fun i hi hn => by rw [r46 i (by omega) (by omega)]; exact rl.2.2.2.2.1.1 i (by omega) hn) (Nat.le_refl _) (Nat.le_refl _) (Nat.le_refl _) (Nat.le_refl nd) ha
  · exact m8.add hpar m4.1 (by omega) (fun _ _ => by omega) (m10.level m11)
  · refine ⟨hnm.mono (Nat.le_succ N) (fun x hx => ⟨uq_ne (ne hx), uq_ne (ne hx), fun _ => uq_ne (ne hx)⟩) rfl rfl rfl (fun _ => rfl) (fun _ _ _ => rfl) (fun _ => ⟨rfl, rfl⟩), m9.2.step hpar (fun z z1 z2 => (m3.2.2.2.2.2.1 z z1 z2).2.2.2) (Nat.le_succ N) (fun z hz => ⟨uq_ne (ne hz), uq_ne (ne hz), fun _ => uq_ne (ne hz)⟩) (fun e he => ⟨by rw [cd.2.2.1, uq_ne (by omega)], by rw [cd.2.2.2.1, uq_ne (by omega)]⟩) cd.2.2.2.2.2.2.2.2.1 cd.2.2.2.2.2.2.2.2.2 hinm (fun z z1 z2 z3 z4 => absurd ((uq_ne (ne z2)).trans z3) z4) (fun z hz y => by rw [uq_ne (ne hz)] at y; exact y) (fun z z1 z2 => ?_) (fun f hf f4 => ?_) (fun z => ?_)⟩
    · have ez : z = N + 1 := by omega
      subst ez
      have nk := m10.nk
      have nk1 : hdx stk ≠ 0 → uq ks (N + 1) s (hdx stk) ≠ 7 ∧ uq ks (N + 1) s (hdx stk) ≠ 10 := fun y => by rw [uq_ne (ne m4.1)]; exact nk y
      refine UE.plain uq_at uq_at nk1 ?_ hks.1 hks.2 (fun w => ?_) uq_at
      · rcases hs1 with ⟨_, y⟩ | ⟨_, y, _⟩ <;> omega
      · have e0 : nmy (uq par (N + 1) (hdx stk)) (uq ks (N + 1) s) (hdx stk) = nmy par ks (hdx stk) := nmy_c hpar (fun z hz => ⟨uq_ne (ne hz), uq_ne (ne hz)⟩) m4.1
        rw [e0]
        exact SK.nm0 hpar m10 (hst3 (h9i w))
    · rcases List.mem_cons.mp hf with e | e
      · rw [e] at f4
        have f4' : s1 = 4 := f4
        omega
      · exact Or.inl e
    · cases hi : inm with
      | true =>
        obtain ⟨f, f1, f2⟩ := m9.2.2.2 hi
        exact ⟨f, List.mem_cons_of_mem _ f1, f2⟩
      | false =>
        rcases hs1 with ⟨y, _⟩ | ⟨y, _⟩
        · rw [hsame hi y] at z; cases z
        · exact ⟨_, List.mem_cons_self .., y⟩
  · have old : SK Sr2 A B n (N + 1) (uq g (N + 1) T) (uq ow (N + 1) (T + 1)) (uq bh (N + 1) 5000) (uq par (N + 1) (hdx stk)) (uq ks (N + 1) s) (uq lv (N + 1) op) (uq pe (N + 1) false) stk := by
      have go : ∀ (Sx : PS), (∀ r, 61 ≤ r → r ≤ 64 → aI Sx r = aI Sr2 r) → (∀ i, i < T → aI Sx 45 (A 45) i = aI Sr 45 (A 45) i ∧ aL Sx 48 (A 48) i = aL Sr 48 (A 48) i) → aI Sx 59 (A 59) 0 = aI Sr 59 (A 59) 0 ∧ aI Sx 60 (A 60) 0 = aI Sr 60 (A 60) 0 → SK Sx A B n (N + 1) (uq g (N + 1) T) (uq ow (N + 1) (T + 1)) (uq bh (N + 1) 5000) (uq par (N + 1) (hdx stk)) (uq ks (N + 1) s) (uq lv (N + 1) op) (uq pe (N + 1) false) stk := fun Sx y1 y2 y3 =>
        SK.mono (T := T) (L := op + 1) (x0 := N + 1) hpar (fun z hz => m3.glt hz) (Nat.le_succ N) (by omega) (fun z hz => ⟨uq_ne (ne hz), uq_ne (ne hz), uq_ne (ne hz), uq_ne (ne hz), uq_ne (ne hz), uq_ne (ne hz)⟩) (fun z hz _ => uq_ne (ne hz)) (fun j hj => ⟨by rw [y1 61 (by decide) (by decide), r61, uq_ne (by omega)], by rw [y1 62 (by decide) (by decide), r62, uq_ne (by omega)], by rw [y1 63 (by decide) (by decide), r63, uq_ne (by omega)]⟩) (fun j hj => by rw [y1 64 (by decide) (by decide), r64, uq_ne (by omega), uq_ne (by omega)]) y2 y3 stk (by omega) (by have := m4.1; show hdx stk < _; omega) m10
      have f45 : ∀ i, i < T → aI Sr2 45 (A 45) i = aI Sr 45 (A 45) i ∧ aL Sr2 48 (A 48) i = aL Sr 48 (A 48) i := fun i hi => ⟨gr2.1 45 i hi (by decide) (by decide) (by decide) (by decide) (by decide), gr2.2.1 i hi⟩
      cases inm with
      | true => exact go Sr2 (fun _ _ _ => rfl) f45 ⟨by rw [(h59 rfl).1], by rw [(h59 rfl).2]⟩
      | false =>
        have z := go (wI (wI Sr2 59 (A 59) 0 (aI Sr 59 (A 59) 0)) 60 (A 60) 0 (aI Sr 60 (A 60) 0)) (fun r x y => by rw [aI_wn _ _ _ _ _ _ (by omega), aI_wn _ _ _ _ _ _ (by omega)]) (fun i hi => by rw [aI_wn _ _ _ _ _ _ (by decide), aI_wn _ _ _ _ _ _ (by decide), aL_wI, aL_wI]; exact f45 i hi) ⟨by rw [aI_wn _ _ _ _ _ _ (by decide), aI_w, uq_at], by rw [aI_w, uq_at]⟩
        have drop : ∀ l, (∀ f, f ∈ l → f.1 ≠ 3) → SK (wI (wI Sr2 59 (A 59) 0 (aI Sr 59 (A 59) 0)) 60 (A 60) 0 (aI Sr 60 (A 60) 0)) A B n (N + 1) (uq g (N + 1) T) (uq ow (N + 1) (T + 1)) (uq bh (N + 1) 5000) (uq par (N + 1) (hdx stk)) (uq ks (N + 1) s) (uq lv (N + 1) op) (uq pe (N + 1) false) l → SK Sr2 A B n (N + 1) (uq g (N + 1) T) (uq ow (N + 1) (T + 1)) (uq bh (N + 1) 5000) (uq par (N + 1) (hdx stk)) (uq ks (N + 1) s) (uq lv (N + 1) op) (uq pe (N + 1) false) l := by
          intro l
          induction l with
          | nil => intro _ y; exact y
          | cons f r ih =>
            cases r with
            | nil => intro _ y; exact y
            | cons f1 r =>
              intro y1 y2
              obtain ⟨a1, a2, a3, a4, a5, a6, a7, a8, a9, b1, b2, b3, b4, b5, b6, b7, b8, b9, c1⟩ := y2
              exact ⟨a1, a2, a3, a4, a5, a6, a7, a8, a9, b1, b2, b3, b4, b5, b6, b7, fun y => absurd y (y1 f (List.mem_cons_self ..)), b9, ih (fun f2 m => y1 f2 (List.mem_cons_of_mem _ m)) c1⟩
        exact drop stk (hst3 rfl) z
    have hlen : stk.length = op + 1 := m11
    cases stk with
    | nil => exact old.elim
    | cons f1 r =>
      have hr : r.length = op := by simpa using hlen
      refine ⟨by show 1 ≤ s1; omega, by show s1 ≤ 4; omega, by show 1 ≤ N + 1; omega, Nat.le_refl _, uq_at, ?_, ?_, ?_, ?_, ?_, ?_, ?_, ?_, ?_, ?_, ?_, ?_, ?_, old⟩
      · show aI Sr2 61 (A 61) (r.length + 1) = nI s1
        rw [hr, r61, uq_at]
      · show aI Sr2 63 (A 63) (r.length + 1) = nI (uq ow (N + 1) (T + 1) (N + 1))
        rw [hr, r63, uq_at, uq_at]
      · show aI Sr2 62 (A 62) (r.length + 1) = nI (uq g (N + 1) T (itm _ s1 (N + 1)))
        rw [hit, hr, r62, uq_at, uq_at]
      · show aI Sr2 64 (A 64) r.length = nI (uq g (N + 1) T (itm _ s1 (N + 1)))
        rw [hit, hr, r64, uq_ne (by omega), uq_at, uq_at]
      · show 1 ≤ itm _ s1 (N + 1)
        rw [hit]; omega
      · show itm _ s1 (N + 1) ≤ N + 1
        rw [hit]; omega
      · show uq par (N + 1) (hdx (f1 :: r)) (itm _ s1 (N + 1)) = f1.2.1
        rw [hit, uq_at]; rfl
      · show uq bh (N + 1) 5000 (itm _ s1 (N + 1)) = 5000
        rw [hit, uq_at]
      · show uq lv (N + 1) op (N + 1) + stp (uq ks (N + 1) s) _ (N + 1) = r.length + 1
        unfold stp
        rw [uq_at, uq_at, if_neg hks.1, if_neg (fun z => hks.2 z.1), hr]
      · intro z
        show uq ks (N + 1) s (N + 1) = 3 ∨ uq ks (N + 1) s (N + 1) = 4 ∨ uq ks (N + 1) s (N + 1) = 5 ∨ uq ks (N + 1) s (N + 1) = 6
        have z1 : s1 = 1 := z
        rw [uq_at]
        rcases hs1 with ⟨_, y⟩ | ⟨y, _⟩
        · exact y
        · omega
      · intro z
        have z1 : s1 = 2 := z
        omega
      · intro z
        have z1 : s1 = 3 := z
        show uq ks (N + 1) s (N + 1) = 9 ∧ _
        rw [uq_at]
        rcases hs1 with ⟨y, _⟩ | ⟨_, y⟩
        · omega
        · exact y
      · intro z
        have z1 : s1 = 4 := z
        omega
  · rw [uq_ne (by omega)]; exact m12
  · rw [uq_ne (by omega)]; exact m13
end
