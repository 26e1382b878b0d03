/-! How the pieces grow. -/
section
variable {S S1 Sr Sr1 : PS} {A : Nat → Nat} {B : Nat → Int32} {n N T : Nat} {g ow bh par ks lv : Nat → Nat} {pe : Nat → Bool} {inn nxt : Nat → Int32}
/-- a new entry N of the class -/
def CD (S S1 : PS) (A : Nat → Nat) (N pl pc : Nat) (a b : Int32) (t : Int64) : Prop := aI S1 16 (A 16) = uq (aI S 16 (A 16)) N (nI pl) ∧ aI S1 17 (A 17) = uq (aI S 17 (A 17)) N (nI (N + 1)) ∧ aI S1 18 (A 18) = uq (aI S 18 (A 18)) N a ∧ aI S1 19 (A 19) = uq (aI S 19 (A 19)) N b ∧ aL S1 20 (A 20) = uq (aL S 20 (A 20)) N t ∧ aI S1 21 (A 21) = uq (aI S 21 (A 21)) N (nI pc) ∧ (∀ k, k < pc → aI S1 22 (A 22) k = aI S 22 (A 22) k) ∧ aI S1 23 = aI S 23 ∧ aI S1 24 = aI S 24 ∧ aI S1 25 = aI S 25
/-- a new item T of the reference -/
def RLn (Sr Sr1 : PS) (A : Nat → Nat) (T wr sy m : Nat) (lst s pl a b : Int32) (t : Int64) (z : Int32) : Prop := aI Sr1 42 (A 42) = uq (aI Sr 42 (A 42)) T s ∧ aI Sr1 43 (A 43) = uq (aI Sr 43 (A 43)) T pl ∧ aI Sr1 44 (A 44) = uq (aI Sr 44 (A 44)) T a ∧ aI Sr1 45 (A 45) = uq (aI Sr 45 (A 45)) T b ∧ Lnk T m lst (aI Sr 46 (A 46)) (aI Sr 47 (A 47)) (aI Sr1 46 (A 46)) (aI Sr1 47 (A 47)) ∧ aL Sr1 48 (A 48) = uq (aL Sr 48 (A 48)) T t ∧ aI Sr1 49 (A 49) = uq (aI Sr 49 (A 49)) T z ∧ (∀ r k, k < wr → 50 ≤ r → r ≤ 52 → aI Sr1 r (A r) k = aI Sr r (A r) k) ∧ ∀ r k, k < sy → 53 ≤ r → r ≤ 54 → aI Sr1 r (A r) k = aI Sr r (A r) k
theorem CD.gr {pl pc : Nat} {a b : Int32} {t : Int64} (h : CD S S1 A N pl pc a b t) : GrC S S1 A N pc := by
  obtain ⟨h16, h17, h18, h19, h20, h21, h22, -⟩ := h
  refine ⟨fun r e he r1 r2 r3 r4 => ?_, fun e he => by rw [h20, uq_ne (by omega)], h22⟩
  have hr : r = 16 ∨ r = 18 ∨ r = 19 ∨ r = 21 := by omega
  rcases hr with rfl | rfl | rfl | rfl
  · rw [h16, uq_ne (by omega)]
  · rw [h18, uq_ne (by omega)]
  · rw [h19, uq_ne (by omega)]
  · rw [h21, uq_ne (by omega)]
theorem RLn.gr {wr sy m : Nat} {lst s pl a b z : Int32} {t : Int64} (h : RLn Sr Sr1 A T wr sy m lst s pl a b t z) : GrR Sr Sr1 A T wr sy := by
  obtain ⟨h42, h43, h44, h45, -, h48, h49, h50, h53⟩ := h
  refine ⟨fun r i hi r1 r2 r3 r4 r5 => ?_, fun i hi => by rw [h48, uq_ne (by omega)], h50, h53⟩
  have hr : r = 42 ∨ r = 43 ∨ r = 44 ∨ r = 45 ∨ r = 49 := by omega
  rcases hr with rfl | rfl | rfl | rfl | rfl
  · rw [h42, uq_ne (by omega)]
  · rw [h43, uq_ne (by omega)]
  · rw [h44, uq_ne (by omega)]
  · rw [h45, uq_ne (by omega)]
  · rw [h49, uq_ne (by omega)]
theorem GrC.rf {pc : Nat} : GrC S S A N pc := ⟨fun _ _ _ _ _ _ _ => rfl, fun _ _ => rfl, fun _ _ => rfl⟩
theorem GrR.rf {wr sy : Nat} : GrR Sr Sr A T wr sy := ⟨fun _ _ _ _ _ _ _ _ => rfl, fun _ _ => rfl, fun _ _ _ _ _ => rfl, fun _ _ _ _ _ => rfl⟩
/-- the items of blocks aren't those that hold lists -/
theorem Tre.gow (h : Tre N T g ow bh par pe inn nxt) {x y : Nat} (hx : x ≤ N) (hy : y ≤ N) (he : ow x ≠ g x) : g x ≠ ow y := by
  intro e
  rcases Nat.lt_trichotomy x y with c | c | c
  · have := (h.1 x hx).2.2 y c hy; have := (h.1 y hy).1; have := (h.1 x hx).1; omega
  · subst c; exact he e.symm
  · have := (h.1 y hy).2.2 x c hx; omega
theorem Ats.add {xt o s b pc wr sy nd pc1 wr1 sy1 nd1 : Nat} (h : Ats S Sr A B n N pc wr sy nd g ow bh ks) (tr : Tre N T g ow bh par pe inn nxt) (hc : GrC S S1 A N pc) (hr : GrR Sr Sr1 A T wr sy) (hxt : xt ≤ N) (h46 : ∀ i, i < T → i ≠ ow xt → aI Sr1 46 (A 46) i = aI Sr 46 (A 46) i) (h1 : pc ≤ pc1) (h2 : wr ≤ wr1) (h3 : sy ≤ sy1) (h4 : nd ≤ nd1) (hn : Att S1 Sr1 A B n pc1 wr1 sy1 nd1 N T o s b) :
    Ats S1 Sr1 A B n (N + 1) pc1 wr1 sy1 nd1 (uq g (N + 1) T) (uq ow (N + 1) o) (uq bh (N + 1) b) (uq ks (N + 1) s) := by
  intro x x1 x2
  rcases Nat.lt_or_ge N x with e | e
  · have e1 : x = N + 1 := by omega
    subst e1
    rw [uq_at, uq_at, uq_at, uq_at]; exact hn
  · have ne : x ≠ N + 1 := by omega
    rw [uq_ne ne, uq_ne ne, uq_ne ne, uq_ne ne]
    refine (h x x1 e).mono hc (by omega) hr (tr.glt e) (fun z => h46 _ (tr.glt e) (tr.gow e hxt (by omega))) h1 h2 h3 h4 id
/-- the same entries, other facts about them kept -/
theorem Ats.same {pc wr sy nd pc1 wr1 sy1 nd1 : Nat} {bh1 : Nat → Nat} (h : Ats S Sr A B n N pc wr sy nd g ow bh ks) (hg : ∀ x, x ≤ N → g x < T) (hc : GrC S S1 A N pc) (hr : GrR Sr Sr1 A T wr sy) (h46 : ∀ x, 1 ≤ x → x ≤ N → ow x = g x + 1 → aI Sr1 46 (A 46) (g x) = aI Sr 46 (A 46) (g x)) (h1 : pc ≤ pc1) (h2 : wr ≤ wr1) (h3 : sy ≤ sy1) (h4 : nd ≤ nd1) (hb : ∀ x, 1 ≤ x → x ≤ N → bh1 x ≠ 5000 → bh x ≠ 5000 ∨ ks x ≠ 9) :
    Ats S1 Sr1 A B n N pc1 wr1 sy1 nd1 g ow bh1 ks := by
  intro x x1 x2
  by_cases c : bh1 x ≠ 5000 → bh x ≠ 5000
  · exact (h x x1 x2).mono hc (by omega) hr (hg x x2) (h46 x x1 x2) h1 h2 h3 h4 c
  · have c9 : ks x ≠ 9 := by
      rcases Nat.lt_trichotomy (bh1 x) 5000 with z | z | z
      · rcases hb x x1 x2 (by omega) with y | y
        · exact absurd (fun _ => y) c
        · exact y
      · exact absurd (fun w => absurd z w) c
      · rcases hb x x1 x2 (by omega) with y | y
        · exact absurd (fun _ => y) c
        · exact y
    have := (h x x1 x2).mono (bh1 := bh x) hc (by omega) hr (hg x x2) (h46 x x1 x2) h1 h2 h3 h4 id
    obtain ⟨pl, a1, a2, a3, a4⟩ := this
    refine ⟨pl, a1, a2, a3, ?_⟩
    rcases a4 with a4 | ⟨a5, a6, a7⟩
    · exact Or.inl a4
    · refine Or.inr ⟨a5, a6, ?_⟩
      rcases a7 with b | b | b | b | b | ⟨b1, b2⟩ | b
      · exact Or.inl b
      · exact Or.inr (Or.inl b)
      · exact Or.inr (Or.inr (Or.inl b))
      · exact Or.inr (Or.inr (Or.inr (Or.inl b)))
      · exact Or.inr (Or.inr (Or.inr (Or.inr (Or.inl b))))
      · exact absurd b1 c9
      · exact Or.inr (Or.inr (Or.inr (Or.inr (Or.inr (Or.inr b)))))
theorem Cls.add {v : Int32} (h : Cls S A N bh) (hw : aI S1 17 (A 17) = uq (aI S 17 (A 17)) N v) : Cls S1 A (N + 1) (uq bh (N + 1) 5000) := by
  intro x x1 x2 x3
  rcases Nat.lt_or_ge N x with e | e
  · have e1 : x = N + 1 := by omega
    subst e1
    rw [uq_at] at x3; exact absurd rfl x3
  · rw [uq_ne (by omega)] at x3 ⊢
    rw [hw, uq_ne (by omega)]; exact h x x1 e x3
theorem Cls.leaf (h : Cls S A N bh) (hw : aI S1 17 (A 17) = uq (aI S 17 (A 17)) N (nI (N + 1))) : Cls S1 A (N + 1) (uq bh (N + 1) (N + 1)) := by
  intro x x1 x2 x3
  rcases Nat.lt_or_ge N x with e | e
  · have e1 : x = N + 1 := by omega
    subst e1
    rw [uq_at, hw, Nat.add_sub_cancel, uq_at]
  · rw [uq_ne (by omega)] at x3 ⊢
    rw [hw, uq_ne (by omega)]; exact h x x1 e x3
theorem Cls.close {x : Nat} (h : Cls S A N bh) (h1 : 1 ≤ x) (hw : aI S1 17 (A 17) = uq (aI S 17 (A 17)) (x - 1) (nI N)) : Cls S1 A N (uq bh x N) := by
  intro z z1 z2 z3
  by_cases e : z = x
  · subst e; rw [uq_at, hw, uq_at]
  · rw [uq_ne e] at z3 ⊢
    rw [hw, uq_ne (by omega)]; exact h z z1 z2 z3
theorem Lvs.add {x s op : Nat} (h : Lvs N par ks lv) (tr : ∀ z, 1 ≤ z → z ≤ N → par z < z) (hx : x ≤ N) (hop : op ≤ 8) (h7 : 3 ≤ s → s ≤ 6 → op ≤ 7) (he : op = if x = 0 then 0 else lv x + stp ks par x) : Lvs (N + 1) (uq par (N + 1) x) (uq ks (N + 1) s) (uq lv (N + 1) op) := by
  have st : ∀ y, 1 ≤ y → y ≤ N → stp (uq ks (N + 1) s) (uq par (N + 1) x) y = stp ks par y := by
    intro y y1 y2
    have := tr y y1 y2
    unfold stp
    rw [uq_ne (show y ≠ N + 1 by omega), uq_ne (show y ≠ N + 1 by omega), uq_ne (show par y ≠ N + 1 by omega)]
  intro z z1 z2
  rcases Nat.lt_or_ge N z with e | e
  · have e1 : z = N + 1 := by omega
    subst e1
    rw [uq_at, uq_at, uq_at]
    refine ⟨⟨hop, h7⟩, ?_⟩
    rw [he]
    by_cases c : x = 0
    · rw [if_pos c, if_pos c]
    · rw [if_neg c, if_neg c, uq_ne (show x ≠ N + 1 by omega), st x (by omega) hx]
  · have := tr z z1 e
    rw [uq_ne (show z ≠ N + 1 by omega), uq_ne (show z ≠ N + 1 by omega), uq_ne (show z ≠ N + 1 by omega)]
    refine ⟨(h z z1 e).1, ?_⟩
    rw [(h z z1 e).2]
    by_cases c : par z = 0
    · rw [if_pos c, if_pos c]
    · rw [if_neg c, if_neg c, uq_ne (show par z ≠ N + 1 by omega), st _ (by omega) (by omega)]
theorem Nms.mono {N1 nd pq : Nat} {inm : Bool} {ow1 bh1 ks1 : Nat → Nat} (h : Nms S Sr A B n N nd pq inm ow bh ks) (hN : N ≤ N1) (hf : ∀ x, x ≤ N → ow1 x = ow x ∧ ks1 x = ks x ∧ (bh x ≠ 5000 → bh1 x = bh x)) (c23 : aI S1 23 = aI S 23) (c24 : aI S1 24 = aI S 24) (c25 : aI S1 25 = aI S 25) (c26 : inm = true → aI S1 26 = aI S 26) (r55 : ∀ r, 55 ≤ r → r ≤ 58 → aI Sr1 r = aI Sr r) (r59 : inm = true → aI Sr1 59 = aI Sr 59 ∧ aI Sr1 60 = aI Sr 60) : Nms S1 Sr1 A B n N1 nd pq inm ow1 bh1 ks1 := by
  refine ⟨fun k hk => ?_, fun z => ?_⟩
  · obtain ⟨h1, x, m, a1, a2, a3, a4, a5, a6, a7, a8, a9⟩ := h.1 k hk
    obtain ⟨f1, f2, f3⟩ := hf x a2
    rw [r55 55 (by decide) (by decide), r55 56 (by decide) (by decide), r55 57 (by decide) (by decide), r55 58 (by decide) (by decide), c23, c24, c25]
    exact ⟨h1, x, m, a1, by omega, by rw [f2]; exact a3, by rw [f3 a4]; exact a4, a5, a6, by rw [f1]; exact a7, a8, a9⟩
  · rw [(r59 z).1, (r59 z).2, c26 z]; exact h.2 z
theorem Ch.mono {N N1 y : Nat} {bh par bh1 par1 : Nat → Nat} (hN : N ≤ N1) (hf : ∀ c, c ≤ N → bh c ≠ 5000 → par1 c = par c ∧ bh1 c = bh c) : ∀ {k c : Nat}, Ch N bh par y k c → Ch N1 bh1 par1 y k c := by
  intro k
  induction k with
  | zero => intro c h; exact h
  | succ k ih =>
    intro c h
    obtain ⟨c', h1, h2, h3, h4, h5⟩ := h
    have hz := hf (c' + 1) h2 (by rw [h4]; exact h5)
    exact ⟨c', ih h1, by omega, by rw [hz.1]; exact h3, by rw [hz.2]; exact h4, h5⟩
theorem Ch.le {N y : Nat} {bh par : Nat → Nat} : ∀ {k c : Nat}, Ch N bh par y k c → ∀ i, i < k → ∃ c', Ch N bh par y i c' ∧ c' + 1 ≤ N ∧ par (c' + 1) = y := by
  intro k
  induction k with
  | zero => intro c h i hi; omega
  | succ k ih =>
    intro c h i hi
    obtain ⟨c', h1, h2, h3, h4, h5⟩ := h
    rcases Nat.lt_or_ge i k with z | z
    · exact ih h1 i z
    · have : i = k := by omega
      rw [this]; exact ⟨c', h1, h2, h3⟩
theorem nmf_c {N : Nat} {par ks par1 ks1 : Nat → Nat} (hp : ∀ z, 1 ≤ z → z ≤ N → par z < z) (hf : ∀ z, z ≤ N → par1 z = par z ∧ ks1 z = ks z) : ∀ f y, y ≤ N → nmf par1 ks1 f y = nmf par ks f y := by
  intro f
  induction f with
  | zero => intro y _; rfl
  | succ f ih =>
    intro y hy
    rw [nmf, nmf, (hf y hy).1, (hf y hy).2]
    by_cases c : y = 0
    · rw [if_pos c, if_pos c]
    · rw [if_neg c, if_neg c, ih (par y) (by have := hp y (by omega) hy; omega)]
theorem nmf_fuel {N : Nat} {par ks : Nat → Nat} (hp : ∀ z, 1 ≤ z → z ≤ N → par z < z) : ∀ f f1 y, y ≤ N → y < f → y < f1 → nmf par ks f y = nmf par ks f1 y := by
  intro f
  induction f with
  | zero => intro f1 y _ h; omega
  | succ f ih =>
    intro f1 y hy h1 h2
    cases f1 with
    | zero => omega
    | succ f1 =>
      rw [nmf, nmf]
      by_cases c : y = 0
      · rw [if_pos c, if_pos c]
      · have := hp y (by omega) hy
        rw [if_neg c, if_neg c, ih f1 (par y) (by omega) (by omega) (by omega)]
theorem nmy_c {N y : Nat} {par ks par1 ks1 : Nat → Nat} (hp : ∀ z, 1 ≤ z → z ≤ N → par z < z) (hf : ∀ z, z ≤ N → par1 z = par z ∧ ks1 z = ks z) (hy : y ≤ N) : nmy par1 ks1 y = nmy par ks y := nmf_c hp hf _ _ hy
theorem nmy_9 {y : Nat} {par ks : Nat → Nat} (h1 : 1 ≤ y) (h9 : ks y = 9) : nmy par ks y = y := by
  unfold nmy; rw [nmf, if_neg (by omega), if_pos h9]
theorem nmy_up {N y : Nat} {par ks : Nat → Nat} (hp : ∀ z, 1 ≤ z → z ≤ N → par z < z) (h1 : 1 ≤ y) (hy : y ≤ N) (h9 : ks y ≠ 9) : nmy par ks y = nmy par ks (par y) := by
  have := hp y h1 hy
  unfold nmy; rw [nmf, if_neg (by omega), if_neg h9]
  exact nmf_fuel hp _ _ _ (by omega) (by omega) (by omega)
theorem nmf_is {N : Nat} {par ks : Nat → Nat} (hp : ∀ z, 1 ≤ z → z ≤ N → par z < z) : ∀ f y, y ≤ N → nmf par ks f y ≤ N ∧ (1 ≤ nmf par ks f y → ks (nmf par ks f y) = 9) := by
  intro f
  induction f with
  | zero => intro y _; exact ⟨Nat.zero_le N, fun h => absurd h (by rw [nmf]; omega)⟩
  | succ f ih =>
    intro y hy
    rw [nmf]
    split
    · exact ⟨Nat.zero_le N, fun h => by omega⟩
    split
    · rename_i h9; exact ⟨hy, fun _ => h9⟩
    · rename_i h0 _
      exact ih (par y) (by have := hp y (by omega) hy; omega)
theorem nmy_is {N y : Nat} {par ks : Nat → Nat} (hp : ∀ z, 1 ≤ z → z ≤ N → par z < z) (hy : y ≤ N) : nmy par ks y ≤ N ∧ (1 ≤ nmy par ks y → ks (nmy par ks y) = 9) := nmf_is hp _ _ hy
theorem UB.mono {S S1 : PS} {A : Nat → Nat} {N N1 nd x : Nat} {bh par bh1 par1 : Nat → Nat} (h : UB S A N nd bh par x) (hN : N ≤ N1) (hp : ∀ z, z ≤ N → par1 z = par z) (hb : ∀ z, z ≤ N → bh z ≠ 5000 → bh1 z = bh z) (hx : x ≤ N) (hbx : bh x ≠ 5000) (hbN : bh x ≤ N) (h18 : aI S1 18 (A 18) (x - 1) = aI S 18 (A 18) (x - 1)) (h19 : aI S1 19 (A 19) (x - 1) = aI S 19 (A 19) (x - 1)) (h25 : ∀ d, d < nd → aI S1 25 (A 25) d = aI S 25 (A 25) d) : UB S1 A N1 nd bh1 par1 x := by
  intro z0 d m z1 z2 z3 z4 k hk
  obtain ⟨c, a1, a2, a3⟩ := h (by rw [← h19]; exact z0) d m z1 (by rw [← h18]; exact z2) z3 (by rw [← h25 d z1]; exact z4) k hk
  exact ⟨c, a1.mono hN (fun c hc h5 => ⟨hp c hc, hb c hc h5⟩), by rw [hb x hx hbx]; exact a2, by rw [hp _ (by omega)]; exact a3⟩
theorem Ux.step {S S1 : PS} {A : Nat → Nat} {N N1 nd pq pq1 : Nat} {inm inm1 : Bool} {bh par ks bh1 par1 ks1 : Nat → Nat} {pe pe1 : Nat → Bool} {stk stk1 : List (Nat × Nat × Nat × Nat × Nat)} (h : Ux S A N nd pq inm bh par ks pe stk) (hpar : ∀ z, 1 ≤ z → z ≤ N → par z < z) (hbN : ∀ z, 1 ≤ z → z ≤ N → bh z ≤ N ∨ bh z = 5000) (hN : N ≤ N1)
    (hg : ∀ z, z ≤ N → par1 z = par z ∧ ks1 z = ks z ∧ (bh z ≠ 5000 → bh1 z = bh z))
    (h18 : ∀ e, e < N → aI S1 18 (A 18) e = aI S 18 (A 18) e ∧ aI S1 19 (A 19) e = aI S 19 (A 19) e) (h24 : aI S1 24 = aI S 24) (h25 : aI S1 25 = aI S 25)
    (hin : inm = true → inm1 = true ∧ pq ≤ pq1)
    (hcl : ∀ z, 1 ≤ z → z ≤ N → bh z = 5000 → bh1 z ≠ 5000 → ks z ≠ 9 ∧ (ks z = 7 → bh1 z ≠ z) ∧ (ks z = 10 → UB S1 A N1 nd bh1 par1 z) ∧ (pe1 z = true → ks z = 11 → ks (par z) = 10 → False))
    (hpe : ∀ z, z ≤ N → pe1 z = true → pe z = true)
    (hnew : ∀ z, N < z → z ≤ N1 → UE S1 A N1 nd pq1 inm1 bh1 par1 ks1 pe1 z)
    (h5 : ∀ f, f ∈ stk1 → f.1 = 4 → f ∈ stk ∨ UF S1 A N1 nd ks1 f) (h3 : inm1 = true → ∃ f, f ∈ stk1 ∧ f.1 = 3) : Ux S1 A N1 nd pq1 inm1 bh1 par1 ks1 pe1 stk1 := by
  refine ⟨fun x x1 x2 => ?_, fun f hf f4 => ?_, h3⟩
  · rcases Nat.lt_or_ge N x with c | c
    · exact hnew x c x2
    · obtain ⟨a1, a2, a3, a4, a5, a6⟩ := h.1 x x1 c
      obtain ⟨g1, g2, g3⟩ := hg x c
      have px := hpar x x1 c
      obtain ⟨e1, e2⟩ := h18 (x - 1) (by omega)
      have gp := (hg (par x) (by omega)).2.1
      have en : nmy par1 ks1 (par1 x) = nmy par ks (par x) := by rw [g1]; exact nmy_c hpar (fun z hz => ⟨(hg z hz).1, (hg z hz).2.1⟩) (by omega)
      refine ⟨by rw [g1, g2, gp]; exact a1, fun k7 => ?_, fun k10 => ?_, fun k10 hb => ?_, fun k9 => by rw [en]; exact a5 (by rw [← g2]; exact k9), fun hp => ?_⟩
      · rw [g2] at k7
        by_cases cb : bh x = 5000
        · by_cases cb1 : bh1 x = 5000
          · rw [cb1, ← cb]; exact a2 k7
          · exact (hcl x x1 c cb cb1).2.1 k7
        · rw [g3 cb]; exact a2 k7
      · rw [g2] at k10
        intro z0 j hj z1
        obtain ⟨b1, b2, b3⟩ := a3 k10 (by rw [← e2]; exact z0) j hj (by rw [← e1]; exact z1)
        have ny := nmy_is (ks := ks) hpar (show par x ≤ N by omega)
        rw [en, h24, h25]
        have old : bh (nmy par ks (par x)) ≠ 5000 → bh1 (nmy par ks (par x)) = bh (nmy par ks (par x)) := (hg _ ny.1).2.2
        refine ⟨b1, fun z => ?_, fun z => ?_⟩
        · have b0 : bh (nmy par ks (par x)) = 5000 := by
            rcases Nat.decEq (bh (nmy par ks (par x))) 5000 with y | y
            · rw [old y] at z; exact z
            · exact y
          have := b2 b0
          have w := hin this.1
          exact ⟨w.1, by omega⟩
        · refine b3 (fun y => ?_)
          exact (hcl _ b1 ny.1 y z).1 (ny.2 b1)
      · rw [g2] at k10
        by_cases cb : bh x = 5000
        · exact (hcl x x1 c cb hb).2.2.1 k10
        · refine (a4 k10 cb).mono hN (fun z hz => (hg z hz).1) (fun z hz => (hg z hz).2.2) c cb (by rcases hbN x x1 c with y | y; exact y; exact absurd y cb) e1 e2 (fun d _ => by rw [h25])
      · obtain ⟨w1, w2, w3⟩ := a6 (hpe x c hp)
        rw [g1, g2, gp]
        refine ⟨?_, w2, w3⟩
        rcases Nat.decEq (bh1 x) 5000 with q | q
        · exact ((hcl x x1 c w1 q).2.2.2 hp w2 w3).elim
        · exact q
  · rcases h5 f hf f4 with y | y
    · obtain ⟨w1, w2, w4, w5, w3⟩ := h.2.1 f y f4
      refine ⟨w1, by omega, by rw [(hg _ w2).2.1]; exact w4, by rw [(h18 _ (by omega)).2]; exact w5, fun d m z1 z2 z3 z4 => w3 d m (by rw [← (h18 _ (by omega)).1]; exact z1) z2 z3 (by rw [← h25]; exact z4)⟩
    · exact y
theorem SK.mono2 {N1 L x0 : Nat} {g1 ow1 bh1 par1 ks1 lv1 : Nat → Nat} {pe1 : Nat → Bool} (tr : ∀ z, 1 ≤ z → z ≤ N → par z < z) (hN : N ≤ N1) (hN5 : N < 5000)
    (hf : ∀ z, z ≤ N → g1 z = g z ∧ ow1 z = ow z ∧ par1 z = par z ∧ ks1 z = ks z ∧ lv1 z = lv z ∧ pe1 z = pe z) (hbh : ∀ z, z ≤ N → (z < x0 ∨ bh z ≠ 5000) → bh1 z = bh z)
    (h61 : ∀ j, j < L → aI Sr1 61 (A 61) j = aI Sr 61 (A 61) j ∧ aI Sr1 62 (A 62) j = aI Sr 62 (A 62) j ∧ aI Sr1 63 (A 63) j = aI Sr 63 (A 63) j) (h64 : ∀ j, j + 1 < L → aI Sr1 64 (A 64) j = aI Sr 64 (A 64) j)
    (h45 : ∀ z, z ≤ N → z < x0 → aI Sr1 45 (A 45) (g z) = aI Sr 45 (A 45) (g z) ∧ aL Sr1 48 (A 48) (g z) = aL Sr 48 (A 48) (g z)) (h59 : aI Sr1 59 (A 59) 0 = aI Sr 59 (A 59) 0 ∧ aI Sr1 60 (A 60) 0 = aI Sr 60 (A 60) 0) :
    ∀ stk, stk.length ≤ L → (stk.headD (0, 0, 0, 0, 0)).2.1 < x0 → SK Sr A B n N g ow bh par ks lv pe stk → SK Sr1 A B n N1 g1 ow1 bh1 par1 ks1 lv1 pe1 stk := by
  intro stk
  induction stk with
  | nil => intro _ _ h; exact h
  | cons f r ih =>
    cases r with
    | nil =>
      intro hl _ h
      have hl1 : 1 ≤ L := by simpa using hl
      obtain ⟨a1, a2, a3, a4⟩ := h
      exact ⟨a1, a2, by rw [(h61 0 hl1).1]; exact a3, by rw [(h61 0 hl1).2.2, (hf 0 (Nat.zero_le N)).2.1]; exact a4⟩
    | cons f1 r =>
      intro hl hx h
      have hl2 : r.length + 2 ≤ L := by simpa using hl
      have hx1 : f.2.1 < x0 := hx
      obtain ⟨a1, a2, a3, a4, a5, a6, a7, a8, a9, b1, b2, b3, b4, b5, b6, b7, b8, b9, c1⟩ := h
      have px := tr f.2.1 a3 a4
      obtain ⟨x1, x2, x3, x4, x5, x6⟩ := hf f.2.1 a4
      obtain ⟨p1, p2, p3, p4, p5, p6⟩ := hf (par f.2.1) (by omega)
      have ei : itm par1 f.1 f.2.1 = itm par f.1 f.2.1 := by unfold itm; rw [x3]
      obtain ⟨i1, i2, i3, i4, i5, i6⟩ := hf (itm par f.1 f.2.1) b2
      have il : itm par f.1 f.2.1 ≤ f.2.1 := by unfold itm; split <;> omega
      have est : stp ks1 par1 f.2.1 = stp ks par f.2.1 := by unfold stp; rw [x3, x4, p4]
      have h6 := h61 (r.length + 1) (by omega)
      have pi := tr _ b1 b2
      refine ⟨a1, a2, a3, by omega, by rw [hbh _ a4 (Or.inl hx1)]; exact a5, by rw [h6.1]; exact a6, by rw [h6.2.2, x2]; exact a7, by rw [h6.2.1, ei, i1]; exact a8, by rw [h64 _ (by omega), ei, i1]; exact a9, by rw [ei]; exact b1, by rw [ei]; omega, by rw [ei, i3]; exact b3, by rw [ei, hbh _ b2 (Or.inl (by omega))]; exact b4, by rw [x5, est]; exact b5, by rw [x4]; exact b6, by rw [x3, x4, p4]; exact b7, by rw [x4, h59.1, h59.2]; exact b8, fun z => ?_, ih (by simp only [List.length_cons]; omega) (by show f1.2.1 < x0; omega) c1⟩
      obtain ⟨y0, y1, y2, y3, y4, y5, y6, y7, y9⟩ := b9 z
      have hgp := h45 (par f.2.1) (by omega) (by omega)
      refine ⟨by rw [x3]; exact y0, by rw [x4]; exact y1, by rw [x3, p4]; exact y2, by rw [x6]; exact y3, y4, y5, by rw [x3, p1, hgp.1]; exact y6, ?_, ?_⟩
      · rcases y7 with y | ⟨y8, l, l1, l2, l3, l4, l5⟩
        · exact Or.inl (by rw [x3]; exact y)
        · obtain ⟨q1, q2, q3, q4, q5, q6⟩ := hf l l2
          refine Or.inr ⟨by rw [x3, (hf _ (show par f.2.1 + 1 ≤ N by omega)).2.2.2.2.2]; exact y8, l, l1, by omega, by rw [q3, x3]; exact l3, by rw [hbh l l2 (Or.inr (by omega))]; exact l4, by rw [x3, p1, q1, hgp.2]; exact l5⟩
      · rw [x3]; exact y9.mono hN (fun c hc h5 => ⟨(hf c hc).2.2.1, hbh c hc (Or.inr h5)⟩)
theorem SK.mono {N1 L x0 : Nat} {g1 ow1 bh1 par1 ks1 lv1 : Nat → Nat} {pe1 : Nat → Bool} (tr : ∀ z, 1 ≤ z → z ≤ N → par z < z) (hg : ∀ z, z ≤ N → g z < T) (hN : N ≤ N1) (hN5 : N < 5000)
    (hf : ∀ z, z ≤ N → g1 z = g z ∧ ow1 z = ow z ∧ par1 z = par z ∧ ks1 z = ks z ∧ lv1 z = lv z ∧ pe1 z = pe z) (hbh : ∀ z, z ≤ N → (z < x0 ∨ bh z ≠ 5000) → bh1 z = bh z)
    (h61 : ∀ j, j < L → aI Sr1 61 (A 61) j = aI Sr 61 (A 61) j ∧ aI Sr1 62 (A 62) j = aI Sr 62 (A 62) j ∧ aI Sr1 63 (A 63) j = aI Sr 63 (A 63) j) (h64 : ∀ j, j + 1 < L → aI Sr1 64 (A 64) j = aI Sr 64 (A 64) j)
    (h45 : ∀ i, i < T → aI Sr1 45 (A 45) i = aI Sr 45 (A 45) i ∧ aL Sr1 48 (A 48) i = aL Sr 48 (A 48) i) (h59 : aI Sr1 59 (A 59) 0 = aI Sr 59 (A 59) 0 ∧ aI Sr1 60 (A 60) 0 = aI Sr 60 (A 60) 0) :
    ∀ stk, stk.length ≤ L → (stk.headD (0, 0, 0, 0, 0)).2.1 < x0 → SK Sr A B n N g ow bh par ks lv pe stk → SK Sr1 A B n N1 g1 ow1 bh1 par1 ks1 lv1 pe1 stk :=
  SK.mono2 tr hN hN5 hf hbh h61 h64 (fun z hz _ => h45 _ (hg z hz)) h59
/-- how many blocks are open -/
theorem SK.level {op : Nat} {stk : List (Nat × Nat × Nat × Nat × Nat)} (h : SK Sr A B n N g ow bh par ks lv pe stk) (hl : stk.length = op + 1) : op = if (stk.headD (0, 0, 0, 0, 0)).2.1 = 0 then 0 else lv (stk.headD (0, 0, 0, 0, 0)).2.1 + stp ks par (stk.headD (0, 0, 0, 0, 0)).2.1 := by
  cases stk with
  | nil => exact h.elim
  | cons f r =>
    cases r with
    | nil =>
      have h0 : op = 0 := by simpa using hl.symm
      show op = if f.2.1 = 0 then 0 else _
      rw [if_pos h.2.1, h0]
    | cons f1 r =>
      have h0 : r.length + 2 = op + 1 := by simpa using hl
      show op = if f.2.1 = 0 then 0 else lv f.2.1 + stp ks par f.2.1
      have h3 := h.2.2.1
      rw [if_neg (by omega), h.2.2.2.2.2.2.2.2.2.2.2.2.2.1]; omega
/-- the innermost open music: where its list begins -/
theorem SK.mus {op : Nat} {stk : List (Nat × Nat × Nat × Nat × Nat)} (h : SK Sr A B n N g ow bh par ks lv pe stk) (hl : stk.length = op + 1) : aI Sr 63 (A 63) op = nI (ow (stk.headD (0, 0, 0, 0, 0)).2.1) := by
  cases stk with
  | nil => exact h.elim
  | cons f r =>
    cases r with
    | nil =>
      have h0 : op = 0 := by simpa using hl.symm
      show _ = nI (ow f.2.1)
      rw [h0, h.2.2.2, h.2.1]
    | cons f1 r =>
      have h0 : r.length + 2 = op + 1 := by simpa using hl
      have h1 : op = r.length + 1 := by omega
      show _ = nI (ow f.2.1)
      rw [h1]; exact h.2.2.2.2.2.2.1
section
variable {x y N1 nd pq : Nat} {inm : Bool}
theorem UE.plain {s : Nat} (hk : ks x = s) (hp : par x = y) (nk : y ≠ 0 → ks y ≠ 7 ∧ ks y ≠ 10) (h7 : s ≠ 7) (h10 : s ≠ 10) (h11 : s ≠ 11) (h9 : s = 9 → nmy par ks y = 0) (hpe : pe x = false) : UE S A N nd pq inm bh par ks pe x := by
  refine ⟨⟨fun z => absurd (hk.symm.trans z) h11, fun z => ?_⟩, fun z => absurd (hk.symm.trans z) h7, fun z => absurd (hk.symm.trans z) h10, fun z => absurd (hk.symm.trans z) h10, fun z => by rw [hp]; exact h9 (hk.symm.trans z), fun z => by rw [hpe] at z; cases z⟩
  rw [hp] at z
  rcases z.2 with w | w
  · exact absurd w (nk z.1).1
  · exact absurd w (nk z.1).2
theorem UE.mus (hk : ks x = 11) (hp : par x = y) (hy : y ≠ 0) (ky : ks y = 7 ∨ ks y = 10) (hpe : pe x = true → bh x = 5000 ∧ ks y = 10) : UE S A N nd pq inm bh par ks pe x :=
  ⟨⟨fun _ => by rw [hp]; exact ⟨hy, ky⟩, fun _ => hk⟩, fun z => by omega, fun z => by omega, fun z => by omega, fun z => by omega, fun z => ⟨(hpe z).1, hk, by rw [hp]; exact (hpe z).2⟩⟩
theorem UE.vo (hk : ks x = 7) (hp : par x = y) (nk : y ≠ 0 → ks y ≠ 7 ∧ ks y ≠ 10) (hb : bh x ≠ x) (hpe : pe x = false) : UE S A N nd pq inm bh par ks pe x := by
  refine ⟨⟨fun z => by omega, fun z => ?_⟩, fun _ => hb, fun z => by omega, fun z => by omega, fun z => by omega, fun z => by rw [hpe] at z; cases z⟩
  rw [hp] at z
  rcases z.2 with w | w
  · exact absurd w (nk z.1).1
  · exact absurd w (nk z.1).2
theorem UE.us (hk : ks x = 10) (hp : par x = y) (nk : y ≠ 0 → ks y ≠ 7 ∧ ks y ≠ 10) (hu : UP S A N nd pq inm bh par ks x) (hb : bh x ≠ 5000 → UB S A N nd bh par x) (hpe : pe x = false) : UE S A N nd pq inm bh par ks pe x := by
  refine ⟨⟨fun z => by omega, fun z => ?_⟩, fun z => by omega, fun _ => hu, fun _ => hb, fun z => by omega, fun z => by rw [hpe] at z; cases z⟩
  rw [hp] at z
  rcases z.2 with w | w
  · exact absurd w (nk z.1).1
  · exact absurd w (nk z.1).2
end
/-- the innermost list is neither that of a [ nor that of a use -/
theorem SK.nk {stk : List (Nat × Nat × Nat × Nat × Nat)} (h : SK Sr A B n N g ow bh par ks lv pe stk) : (stk.headD (0, 0, 0, 0, 0)).2.1 ≠ 0 → ks (stk.headD (0, 0, 0, 0, 0)).2.1 ≠ 7 ∧ ks (stk.headD (0, 0, 0, 0, 0)).2.1 ≠ 10 := by
  cases stk with
  | nil => exact h.elim
  | cons f r =>
    cases r with
    | nil => intro z; exact absurd h.2.1 z
    | cons f1 r =>
      intro _
      obtain ⟨a1, a2, a3, a4, a5, a6, a7, a8, a9, b1, b2, b3, b4, b5, b6, b7, b8, b9, c1⟩ := h
      show ks f.2.1 ≠ 7 ∧ ks f.2.1 ≠ 10
      have hc : f.1 = 1 ∨ f.1 = 2 ∨ f.1 = 3 ∨ f.1 = 4 := by omega
      rcases hc with z | z | z | z
      · have := b6 z; omega
      · have := (b7 z).1; omega
      · have := (b8 z).1; omega
      · have := (b9 z).2.1; omega
/-- within a naming the innermost list lies in it -/
theorem SK.nm (hp : ∀ z, 1 ≤ z → z ≤ N → par z < z) : ∀ {stk : List (Nat × Nat × Nat × Nat × Nat)}, SK Sr A B n N g ow bh par ks lv pe stk → (∃ f, f ∈ stk ∧ f.1 = 3) → 1 ≤ nmy par ks (stk.headD (0, 0, 0, 0, 0)).2.1 ∧ bh (nmy par ks (stk.headD (0, 0, 0, 0, 0)).2.1) = 5000 := by
  intro stk
  induction stk with
  | nil => intro h; exact h.elim
  | cons f r ih =>
    cases r with
    | nil =>
      intro h hf
      obtain ⟨f2, m, z⟩ := hf
      rw [List.mem_singleton.mp m] at z
      have := h.1; omega
    | cons f1 r =>
      intro h hf
      obtain ⟨a1, a2, a3, a4, a5, a6, a7, a8, a9, b1, b2, b3, b4, b5, b6, b7, b8, b9, c1⟩ := h
      show 1 ≤ nmy par ks f.2.1 ∧ bh (nmy par ks f.2.1) = 5000
      by_cases z3 : f.1 = 3
      · rw [nmy_9 a3 (b8 z3).1]; exact ⟨a3, a5⟩
      · have hr : ∃ f2, f2 ∈ f1 :: r ∧ f2.1 = 3 := by
          obtain ⟨f2, m, z⟩ := hf
          rcases List.mem_cons.mp m with e | e
          · rw [e] at z; exact absurd z z3
          · exact ⟨f2, e, z⟩
        have ihr : 1 ≤ nmy par ks f1.2.1 ∧ bh (nmy par ks f1.2.1) = 5000 := ih c1 hr
        have hc : f.1 = 1 ∨ f.1 = 2 ∨ f.1 = 4 := by omega
        rcases hc with z | z | z
        · have e : itm par f.1 f.2.1 = f.2.1 := by unfold itm; rw [if_pos (Or.inl z)]
          rw [e] at b3
          rw [nmy_up hp a3 a4 (by have := b6 z; omega), b3]; exact ihr
        · have e : itm par f.1 f.2.1 = par f.2.1 := by unfold itm; rw [if_neg (by omega)]
          rw [e] at b1 b2 b3
          have k := b7 z
          rw [nmy_up hp a3 a4 (by omega), nmy_up hp b1 b2 (by omega), b3]; exact ihr
        · have e : itm par f.1 f.2.1 = par f.2.1 := by unfold itm; rw [if_neg (by omega)]
          rw [e] at b1 b2 b3
          have k := b9 z
          rw [nmy_up hp a3 a4 (by omega), nmy_up hp b1 b2 (by omega), b3]; exact ihr
/-- outside of namings the innermost list lies in none -/
theorem SK.nm0 (hp : ∀ z, 1 ≤ z → z ≤ N → par z < z) : ∀ {stk : List (Nat × Nat × Nat × Nat × Nat)}, SK Sr A B n N g ow bh par ks lv pe stk → (∀ f, f ∈ stk → f.1 ≠ 3) → nmy par ks (stk.headD (0, 0, 0, 0, 0)).2.1 = 0 := by
  intro stk
  induction stk with
  | nil => intro h; exact h.elim
  | cons f r ih =>
    cases r with
    | nil =>
      intro h hf
      show nmy par ks f.2.1 = 0
      rw [h.2.1]; rfl
    | cons f1 r =>
      intro h hf
      obtain ⟨a1, a2, a3, a4, a5, a6, a7, a8, a9, b1, b2, b3, b4, b5, b6, b7, b8, b9, c1⟩ := h
      show nmy par ks f.2.1 = 0
      have z3 := hf f (List.mem_cons_self ..)
      have ihr : nmy par ks f1.2.1 = 0 := ih c1 (fun f2 m => hf f2 (List.mem_cons_of_mem _ m))
      have hc : f.1 = 1 ∨ f.1 = 2 ∨ f.1 = 4 := by omega
      rcases hc with z | z | z
      · have e : itm par f.1 f.2.1 = f.2.1 := by unfold itm; rw [if_pos (Or.inl z)]
        rw [e] at b3
        rw [nmy_up hp a3 a4 (by have := b6 z; omega), b3]; exact ihr
      · have e : itm par f.1 f.2.1 = par f.2.1 := by unfold itm; rw [if_neg (by omega)]
        rw [e] at b1 b2 b3
        have k := b7 z
        rw [nmy_up hp a3 a4 (by omega), nmy_up hp b1 b2 (by omega), b3]; exact ihr
      · have e : itm par f.1 f.2.1 = par f.2.1 := by unfold itm; rw [if_neg (by omega)]
        rw [e] at b1 b2 b3
        have k := b9 z
        rw [nmy_up hp a3 a4 (by omega), nmy_up hp b1 b2 (by omega), b3]; exact ihr
/-- an open naming lies around what is open behind it -/
theorem Tre.nmo (h : Tre N T g ow bh par pe inn nxt) (hN : N < 5000) {w : Nat} (w1 : 1 ≤ w) (w9 : ks w = 9) (wo : bh w = 5000) : ∀ z, z ≤ N → w < z → bh z = 5000 → 1 ≤ nmy par ks (par z) := by
  intro z
  have hp : ∀ z, 1 ≤ z → z ≤ N → par z < z := fun z a b => (h.2.2.2.2.2.1 z a b).1
  induction z using Nat.strongRecOn with
  | ind z ih =>
    intro hz hwz hb
    have hpz := hp z (by omega) hz
    have hle := h.2.2.2.2.2.2.2 z w hz hb wo hwz
    by_cases c : ks (par z) = 9
    · rw [nmy_9 (by omega) c]; omega
    · rw [nmy_up hp (by omega) (by omega) c]
      have hwp : w ≠ par z := fun e => by rw [← e] at c; exact c w9
      exact ih (par z) hpz (by omega) (by omega) (h.op hN hz (by omega) hb)
/-- a frame of another sort than naming is taken off -/
theorem mem3 {f : Nat × Nat × Nat × Nat × Nat} {r : List (Nat × Nat × Nat × Nat × Nat)} (hf : f.1 ≠ 3) (h : ∃ f2, f2 ∈ f :: r ∧ f2.1 = 3) : ∃ f2, f2 ∈ r ∧ f2.1 = 3 := by
  obtain ⟨f2, m, z⟩ := h
  rcases List.mem_cons.mp m with e | e
  · rw [e] at z; exact absurd z hf
  · exact ⟨f2, e, z⟩
theorem mem3c {f : Nat × Nat × Nat × Nat × Nat} {r : List (Nat × Nat × Nat × Nat × Nat)} (h : ∃ f2, f2 ∈ r ∧ f2.1 = 3) : ∃ f2, f2 ∈ f :: r ∧ f2.1 = 3 := by
  obtain ⟨f2, m, z⟩ := h
  exact ⟨f2, List.mem_cons_of_mem _ m, z⟩
end
