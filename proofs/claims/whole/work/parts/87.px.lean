/-! The pieces without the stack: adding, ending, telling a link. -/
section
variable {S S1 Sr Sr1 : PS} {A : Nat → Nat} {B : Nat → Int32} {n N T pc wr sy nd x : Nat} {g ow bh par ks lv : Nat → Nat} {pe : Nat → Bool} {lst : Int32}
def PX (S Sr : PS) (A : Nat → Nat) (B : Nat → Int32) (n N T pc wr sy nd : Nat) (g ow bh par ks lv : Nat → Nat) (pe : Nat → Bool) (x : Nat) (lst : Int32) : Prop :=
  Tre N T g ow bh par pe (aI Sr 46 (A 46)) (aI Sr 47 (A 47)) ∧ Top N g bh par x lst ∧ Cls S A N bh ∧ Ats S Sr A B n N pc wr sy nd g ow bh ks ∧ Lvs N par ks lv
theorem PX.parlt (h : PX S Sr A B n N T pc wr sy nd g ow bh par ks lv pe x lst) : ∀ z, 1 ≤ z → z ≤ N → par z < z := fun z a b => (h.1.2.2.2.2.2.1 z a b).1
/-- a new entry; pd: its link isn't told yet -/
theorem PX.add {pc1 wr1 sy1 nd1 s op pl : Nat} {a b : Int32} {t : Int64} {pd : Bool} (h : PX S Sr A B n N T pc wr sy nd g ow bh par ks lv pe x lst) (hN : N < 1508) (hT : T < 4000) (hop : op ≤ 8) (hlv : op = if x = 0 then 0 else lv x + stp ks par x)
    (cd : CD S S1 A N pl pc a b t) (gr : GrR Sr Sr1 A T wr sy)
    (hi : ∀ i, i ≠ T → i ≠ ow x → aI Sr1 46 (A 46) i = aI Sr 46 (A 46) i) (hiT : aI Sr1 46 (A 46) T = -1)
    (hn : ∀ i, i ≠ T → i < T → nI i ≠ lst → aI Sr1 47 (A 47) i = aI Sr 47 (A 47) i) (hnT : aI Sr1 47 (A 47) T = -1)
    (hl : pd = false → (lst = -1 → aI Sr1 46 (A 46) (ow x) = nI T) ∧ (lst ≠ -1 → aI Sr1 46 (A 46) (ow x) = aI Sr 46 (A 46) (ow x) ∧ ∀ l, lst = nI l → l < T → aI Sr1 47 (A 47) l = nI T))
    (hp : pd = true → aI Sr1 46 (A 46) (ow x) = aI Sr 46 (A 46) (ow x) ∧ ∀ l, lst = nI l → l < T → aI Sr1 47 (A 47) l = aI Sr 47 (A 47) l)
    (h1 : pc ≤ pc1) (h2 : wr ≤ wr1) (h3 : sy ≤ sy1) (h4 : nd ≤ nd1) (ha : Att S1 Sr1 A B n pc1 wr1 sy1 nd1 N T T s 5000) :
    PX S1 Sr1 A B n (N + 1) (T + 1) pc1 wr1 sy1 nd1 (uq g (N + 1) T) (uq ow (N + 1) T) (uq bh (N + 1) 5000) (uq par (N + 1) x) (uq ks (N + 1) s) (uq lv (N + 1) op) (uq pe (N + 1) pd) (N + 1) (-1) := by
  have hpar := h.parlt
  obtain ⟨m3, m4, m6, m7, m8⟩ := h
  obtain ⟨t1, u1⟩ := m3.add (inn1 := aI Sr1 46 (A 46)) (nxt1 := aI Sr1 47 (A 47)) m4 (by omega) (by omega) pd hi hiT hn hnT hl hp
  exact ⟨t1, u1, m6.add cd.2.1, m7.add m3 cd.gr gr m4.1 (fun i hi2 hn2 => hi i (by omega) hn2) h1 h2 h3 h4 ha, m8.add hpar m4.1 hop (fun z1 z2 => absurd ⟨z1, z2⟩ ha.no) hlv⟩
/-- the top ends -/
theorem PX.close (h : PX S Sr A B n N T pc wr sy nd g ow bh par ks lv pe x lst) (hN : N < 1510) (hx : 1 ≤ x) (h9 : ks x ≠ 9) (hw : S1 = wI S 17 (A 17) (x - 1) (nI N)) : PX S1 Sr A B n N T pc wr sy nd g ow (uq bh x N) par ks lv pe (par x) (nI (g x)) := by
  obtain ⟨m3, m4, m6, m7, m8⟩ := h
  obtain ⟨t1, u1⟩ := m3.close m4 (by omega) hx
  subst hw
  refine ⟨t1, u1, m6.close hx (aI_w _ _ _ _ _), ?_, m8⟩
  refine m7.same (T := T) (fun z hz => m3.glt hz) ⟨fun r e he r1 r2 r3 r4 => by rw [aI_wn _ _ _ _ _ _ r1], fun e he => by rw [aL_wI], fun k hk => by rw [aI_wn _ _ _ _ _ _ (by decide)]⟩ GrR.rf (fun _ _ _ _ => rfl) (Nat.le_refl _) (Nat.le_refl _) (Nat.le_refl _) (Nat.le_refl _) (fun z z1 z2 z3 => ?_)
  by_cases c : z = x
  · subst c; exact Or.inr h9
  · rw [uq_ne c] at z3; exact Or.inl z3
/-- other states with the same rows -/
theorem PX.same {pc1 wr1 sy1 nd1 : Nat} (h : PX S Sr A B n N T pc wr sy nd g ow bh par ks lv pe x lst) (hc : GrC S S1 A N pc) (h17 : aI S1 17 = aI S 17) (hr : GrR Sr Sr1 A T wr sy) (h46 : aI Sr1 46 (A 46) = aI Sr 46 (A 46)) (h47 : aI Sr1 47 (A 47) = aI Sr 47 (A 47)) (h1 : pc ≤ pc1) (h2 : wr ≤ wr1) (h3 : sy ≤ sy1) (h4 : nd ≤ nd1) : PX S1 Sr1 A B n N T pc1 wr1 sy1 nd1 g ow bh par ks lv pe x lst := by
  obtain ⟨m3, m4, m6, m7, m8⟩ := h
  refine ⟨by rw [h46, h47]; exact m3, m4, fun z z1 z2 z3 => by rw [h17]; exact m6 z z1 z2 z3, ?_, m8⟩
  exact m7.same (T := T) (fun z hz => m3.glt hz) hc hr (fun z _ _ _ => by rw [h46]) h1 h2 h3 h4 (fun _ _ _ z => Or.inl z)
/-- the link of z, which was kept back, is told -/
theorem PX.tell {z : Nat} (h : PX S Sr A B n N T pc wr sy nd g ow bh par ks lv pe x lst) (hN : N < 4000) (hz1 : 1 ≤ z) (hz : z ≤ N) (hp : pe z = true) (hk : ks (par z) ≠ 9) (ho : ow (par z) = g (par z)) (hb : bh (par z) = 5000)
    (hr : GrR Sr Sr1 A T wr sy)
    (hi : ∀ i, i ≠ ow (par z) → aI Sr1 46 (A 46) i = aI Sr 46 (A 46) i) (hn : ∀ i, (∀ l, 1 ≤ l → l ≤ N → par l = par z → bh l + 1 = z → i ≠ g l) → aI Sr1 47 (A 47) i = aI Sr 47 (A 47) i)
    (h1 : aI Sr1 46 (A 46) (ow (par z)) = if z = par z + 1 then nI (g z) else aI Sr 46 (A 46) (ow (par z)))
    (h2 : ∀ l, 1 ≤ l → l ≤ N → par l = par z → bh l + 1 = z → aI Sr1 47 (A 47) (g l) = nI (g z)) : PX S Sr1 A B n N T pc wr sy nd g ow bh par ks lv (uq pe z false) x lst := by
  have hpar := h.parlt
  obtain ⟨m3, m4, m6, m7, m8⟩ := h
  have hpz := hpar z hz1 hz
  refine ⟨m3.tell hz1 hz hp hi hn h1 h2 (Or.inl (by omega)) hN, m4, m6, ?_, m8⟩
  exact m7.same (T := T) (fun y hy => m3.glt hy) GrC.rf hr (fun y y1 y2 y3 => hi _ (m3.gow y2 (by omega) (by omega))) (Nat.le_refl _) (Nat.le_refl _) (Nat.le_refl _) (Nat.le_refl _) (fun _ _ _ w => Or.inl w)
theorem Lnk.hl {m : Nat} {inn nxt inn1 nxt1 : Nat → Int32} (h : Lnk T m lst inn nxt inn1 nxt1) : (false = false → (lst = -1 → inn1 m = nI T) ∧ (lst ≠ -1 → inn1 m = inn m ∧ ∀ l, lst = nI l → l < T → nxt1 l = nI T)) ∧ (false = true → inn1 m = inn m ∧ ∀ l, lst = nI l → l < T → nxt1 l = nxt l) := ⟨fun _ => h.2.2.2.2, fun e => by cases e⟩
end
