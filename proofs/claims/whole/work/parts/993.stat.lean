/-! What both hold when the text is read: the tree, its items. -/
section
def bn (N : Nat) (bh : Nat → Nat) (y : Nat) : Nat := if y = 0 then N else bh y
def RSt (N : Nat) (bh par : Nat → Nat) : Prop := (∀ x, 1 ≤ x → x ≤ N → par x < x ∧ x ≤ bh x ∧ bh x ≤ bn N bh (par x) ∧ bh x ≤ N) ∧ (∀ x, x < N → x < bn N bh x → par (x + 1) = x) ∧ (∀ x, 1 ≤ x → x ≤ N → bh x < bn N bh (par x) → par (bh x + 1) = par x)
def RSl (Sr : PS) (A : Nat → Nat) (N T : Nat) (bh par g ow : Nat → Nat) : Prop := (∀ y, y ≤ N → aI Sr 46 (A 46) (ow y) = if y < bn N bh y then nI (g (y + 1)) else -1) ∧ (∀ x, 1 ≤ x → x ≤ N → aI Sr 47 (A 47) (g x) = if bh x < bn N bh (par x) then nI (g (bh x + 1)) else -1) ∧ (∀ x, x ≤ N → g x < T ∧ ow x < T) ∧ ow 0 = 0 ∧ ∀ x y, x < y → y ≤ N → g x < g y
def RSn (S Sr : PS) (A : Nat → Nat) (N nd : Nat) (ow ks : Nat → Nat) : Prop := ∀ d, d < nd → ∃ x m, 1 ≤ x ∧ x ≤ N ∧ ks x = 9 ∧ m ≤ 4 ∧ aI S 24 (A 24) d = nI (x - 1) ∧ aI Sr 57 (A 57) d = nI (ow x) ∧ aI S 25 (A 25) d = nI m
def RS (S Sr : PS) (A : Nat → Nat) (B : Nat → Int32) (n N pc nd : Nat) (bh par ks lv : Nat → Nat) (T wr sy : Nat) (g ow : Nat → Nat) : Prop :=
  (N ≤ 1508 ∧ pc ≤ 1500 ∧ nd ≤ 20 ∧ T ≤ 3100 ∧ wr + sy = pc ∧ fI S 45 (A 5) = nI N ∧ fI S 54 (A 5) = nI nd ∧ fI Sr 125 (A 9) = nI nd ∧ n ≤ 1500 ∧ fI S 53 (A 5) = nI pc) ∧ (∀ x, 1 ≤ x → x ≤ N → aI S 17 (A 17) (x - 1) = nI (bh x)) ∧ RSt N bh par ∧ RSl Sr A N T bh par g ow ∧ Ats S Sr A B n N pc wr sy nd g ow bh ks ∧ (∀ x, 1 ≤ x → x ≤ N → UE S A N nd 0 false bh par ks (fun _ => false) x) ∧ Lvs N par ks lv ∧ RSn S Sr A N nd ow ks
variable {S Sr Sr' : PS} {A : Nat → Nat} {B : Nat → Int32} {n N N' pc pc' nd nd' T wr sy T' wr' sy' : Nat} {bh par ks lv g ow bh' par' ks' lv' g' ow' : Nat → Nat}
theorem Red.rs (h : Red S Sr A B n) : ∃ N pc nd bh par ks lv T wr sy g ow, RS S Sr A B n N pc nd bh par ks lv T wr sy g ow := by
  obtain ⟨p, N, pc, nd, ci, mm⟩ := h
  obtain ⟨T, wr, sy, g, ow, bh, par, ks, lv, pe, lst, mx⟩ := mm.mx
  obtain ⟨c1, c2, c3, c4, c5, c6, c7, c8, c9, d1, d2, d3, d4, d5, d6⟩ := ci
  have hn := c1.2.2.1.1
  obtain ⟨m1, m2, m3, m4, m5, m6, m7, m8, m9, m10, m11, m12, m13⟩ := mx
  have hx0 : hdx root = 0 := rfl
  rw [hx0] at m4
  have cl : ∀ x, 1 ≤ x → x ≤ N → bh x ≤ N := fun x x1 x2 => by
    rcases (m3.2.2.2.2.2.1 x x1 x2).2.2.2 with q | q
    · exact q
    · have := m4.2.2.1 x x2 q; omega
  have b0 : bh 0 = 5000 := m3.2.2.2.2.2.2.1
  have pf : ∀ x, 1 ≤ x → x ≤ N → pe x = false := fun x x1 x2 => by
    cases q : pe x with
    | false => rfl
    | true => have := ((m9.2.1 x x1 x2).2.2.2.2.2 q).1; have := cl x x1 x2; omega
  have bb : ∀ x, bn N bh x = if x = 0 then N else bh x := fun x => rfl
  have lkf : ∀ x, 1 ≤ x → x ≤ N → lk pe g x = nI (g x) := fun x x1 x2 => by
    unfold lk; rw [pf x x1 x2, if_neg (by decide)]
  refine ⟨N, pc, nd, bh, par, ks, lv, T, wr, sy, g, ow, ⟨by omega, by omega, d2, by have := m2.2.2.2.1; omega, m2.2.2.2.2.2.2.1, c6, d1, m2.2.2.2.2.2.2.2.2.1, hn, c8⟩, fun x x1 x2 => m6 x x1 x2 (by have := cl x x1 x2; omega), ⟨fun x x1 x2 => ?_, fun x x1 x2 => ?_, fun x x1 x2 x3 => ?_⟩, ⟨fun y hy => ?_, fun x x1 x2 => ?_, fun x hx => ⟨m3.glt hx, (m3.1 x hx).2.1⟩, m13, fun x y h1 h2 => Nat.lt_of_le_of_lt (m3.1 x (by omega)).1 ((m3.1 x (by omega)).2.2 y h1 h2)⟩, m7, fun x x1 x2 => ?_, m8, fun d hd => ?_⟩
  · obtain ⟨q1, q2, q3, q4⟩ := m3.2.2.2.2.2.1 x x1 x2
    have := cl x x1 x2
    refine ⟨q1, q2, ?_, this⟩
    rw [bb]; split <;> omega
  · refine m3.2.2.1 x x1 ?_
    rw [bb] at x2
    split at x2
    · rename_i e; rw [e, b0]; omega
    · exact x2
  · refine m3.2.2.2.2.1 x x1 x2 ?_ ?_
    · rw [bb] at x3
      split at x3
      · rename_i e; rw [e, b0]; omega
      · exact x3
    · rw [bb] at x3
      split at x3
      · exact x3
      · rename_i e
        have := cl (par x) (by omega) (by have := (m3.2.2.2.2.2.1 x x1 x2).1; omega); omega
  · rw [m3.2.1 y hy, bb]
    by_cases e : y = 0
    · rw [if_pos e]
      by_cases c : y < N
      · rw [if_pos c, if_pos ⟨by rw [e, b0]; omega, c⟩, lkf _ (by omega) (by omega)]
      · rw [if_neg c, if_neg (fun z => c z.2)]
    · rw [if_neg e]
      have := cl y (by omega) hy
      by_cases c : y < bh y
      · rw [if_pos c, if_pos ⟨c, by omega⟩, lkf _ (by omega) (by omega)]
      · rw [if_neg c, if_neg (fun z => c z.1)]
  · rw [m3.2.2.2.1 x x1 x2, bb]
    have hp := (m3.2.2.2.2.2.1 x x1 x2).1
    by_cases e : par x = 0
    · rw [if_pos e]
      by_cases c : bh x < N
      · rw [if_pos c, if_pos ⟨by rw [e, b0]; omega, c⟩, lkf _ (by omega) (by omega)]
      · rw [if_neg c, if_neg (fun z => c z.2)]
    · rw [if_neg e]
      have := cl (par x) (by omega) (by omega)
      by_cases c : bh x < bh (par x)
      · rw [if_pos c, if_pos ⟨c, by omega⟩, lkf _ (by omega) (by omega)]
      · rw [if_neg c, if_neg (fun z => c z.1)]
  · obtain ⟨u1, u2, u3, u4, u5, u6⟩ := m9.2.1 x x1 x2
    exact ⟨u1, u2, u3, u4, u5, fun z => by cases z⟩
  · obtain ⟨_, x, m, q2, q3, q4, q5, q6, q7, q8, q9, q10⟩ := m9.1.1 d hd
    exact ⟨x, m, q2, q3, q4, q6, q7, q8, q9⟩
/-- the tree is that of the class's entries -/
theorem RSt.uniq (h : RSt N bh par) (h' : RSt N bh' par') (hb : ∀ x, 1 ≤ x → x ≤ N → bh' x = bh x) : ∀ x, 1 ≤ x → x ≤ N → par' x = par x := by
  have hbn : ∀ y, y ≤ N → bn N bh' y = bn N bh y := fun y hy => by
    unfold bn; split
    · rfl
    · exact hb y (by omega) hy
  intro x
  induction x using Nat.strongRecOn with
  | ind x ih =>
    intro x1 x2
    by_cases e1 : x = 1
    · subst e1
      have := (h.1 1 x1 x2).1; have := (h'.1 1 x1 x2).1; omega
    have ex : x - 1 + 1 = x := by omega
    by_cases c : x - 1 < bn N bh (x - 1)
    · have q := h.2.1 (x - 1) (by omega) c
      have q' := h'.2.1 (x - 1) (by omega) (by rw [hbn _ (by omega)]; exact c)
      rw [ex] at q q'; omega
    · have hb1 : bh (x - 1) = x - 1 := by
        have := (h.1 (x - 1) (by omega) (by omega)).2.1
        unfold bn at c; rw [if_neg (by omega)] at c; omega
      have climb : ∀ m a, a ≤ m → 1 ≤ a → a ≤ x - 1 → bh a = x - 1 → par' x = par x := by
        intro m
        induction m with
        | zero => intro a a1 a2; omega
        | succ m ihm =>
          intro a a1 a2 a3 a4
          have ha := h.1 a a2 (by omega)
          have ea : par' a = par a := ih a (by omega) a2 (by omega)
          by_cases d : bh a < bn N bh (par a)
          · have q := h.2.2 a a2 (by omega) d
            have q' := h'.2.2 a a2 (by omega) (by rw [ea, hb a a2 (by omega), hbn _ (by omega)]; exact d)
            rw [hb a a2 (by omega), a4, ex, ea] at q'
            rw [a4, ex] at q; omega
          · have e : bn N bh (par a) = x - 1 := by omega
            have p0 : par a ≠ 0 := fun z => by rw [z] at e; unfold bn at e; rw [if_pos rfl] at e; omega
            unfold bn at e
            rw [if_neg p0] at e
            exact ihm (par a) (by omega) (by omega) (by omega) e
      exact climb (x - 1) (x - 1) (Nat.le_refl _) (by omega) (Nat.le_refl _) hb1
/-- the sort of an item by its first byte -/
def kof (c : Int32) : Nat := if c = 124 then 1 else if c = 77 then 2 else if c = 76 then 3 else if c = 82 then 4 else if c = 84 then 5 else if c = 88 then 6 else if c = 91 then 7 else if c = 87 then 8 else if c = 61 then 9 else if c = 36 then 10 else 0
theorem kof_ton {c : Int32} (h : isTon c = true ∨ c = 114 ∨ c = 60) : kof c = 0 := by
  rcases h with h | rfl | rfl
  · rcases isTon_of h with rfl | rfl | rfl | rfl | rfl | rfl | rfl <;> decide
  · decide
  · decide
theorem Att.kof {e i o s b : Nat} (h : Att S Sr A B n pc wr sy nd e i o s b) (hs : s ≠ 11) : ∃ pl, pl < n ∧ aI S 16 (A 16) e = nI pl ∧ s = kof (B pl) := by
  obtain ⟨pl, a1, a2, a3, a4⟩ := h
  rcases a4 with a4 | ⟨a5, a6, a7⟩
  · exact absurd a4.1 hs
  · refine ⟨pl, a5, a2, ?_⟩
    rcases a7 with ⟨y1, _, y2⟩ | ⟨y1, _, y2⟩ | y | ⟨y1, _, y2⟩ | ⟨y1, _, y2⟩ | ⟨y1, _, y2, _⟩ | ⟨y1, _, y2, _⟩
    · rw [kof_ton y2.1, y1]
    · rw [y2, y1]; rfl
    · rcases y.1 with ⟨z1, z2, _⟩ | ⟨z, _⟩
      · rw [z1, z2]; rfl
      · rcases z with ⟨z1, z2⟩ | ⟨z1, z2⟩ | ⟨z1, z2⟩ | ⟨z1, z2⟩ <;> rw [z1, z2] <;> rfl
    · rw [y2, y1]; rfl
    · rw [y2.1, y1]; rfl
    · rw [y2, y1]; rfl
    · rw [y2, y1]; rfl
theorem RS.uniq (h : RS S Sr A B n N pc nd bh par ks lv T wr sy g ow) (h' : RS S Sr' A B n N' pc' nd' bh' par' ks' lv' T' wr' sy' g' ow') : N' = N ∧ nd' = nd ∧ (∀ x, 1 ≤ x → x ≤ N → bh' x = bh x ∧ par' x = par x ∧ ks' x = ks x) := by
  obtain ⟨⟨a1, a2, a3, a4, a5, a6, a7, a8, a9⟩, b1, b2, b3, b4, b5, b6, b7⟩ := h
  obtain ⟨⟨a1', a2', a3', a4', a5', a6', a7', a8', a9'⟩, b1', b2', b3', b4', b5', b6', b7'⟩ := h'
  have eN : N' = N := by
    have := a6'.symm.trans a6
    rwa [nI_eq (by omega) (by omega)] at this
  have ed : nd' = nd := by
    have := a7'.symm.trans a7
    rwa [nI_eq (by omega) (by omega)] at this
  rw [eN] at b2' b5' b1' b4'
  have eb : ∀ x, 1 ≤ x → x ≤ N → bh' x = bh x := fun x x1 x2 => by
    have := (b1' x x1 x2).symm.trans (b1 x x1 x2)
    have q := (b2.1 x x1 x2).2.2.2
    have q' := (b2'.1 x x1 x2).2.2.2
    rwa [nI_eq (by omega) (by omega)] at this
  have ep := b2.uniq b2' eb
  refine ⟨eN, ed, fun x x1 x2 => ⟨eb x x1 x2, ep x x1 x2, ?_⟩⟩
  induction x using Nat.strongRecOn with
  | ind x ih =>
    have px := (b2.1 x x1 x2).1
    have u := (b5 x x1 x2).1
    have u' := (b5' x x1 x2).1
    rw [ep x x1 x2] at u'
    have e11 : ks' x = 11 ↔ ks x = 11 := by
      rw [u, u']
      by_cases c : par x = 0
      · rw [c]; constructor <;> intro z <;> exact absurd rfl z.1
      · rw [ih (par x) px (by omega) (by omega)]
    by_cases c : ks x = 11
    · rw [c, e11.mpr c]
    · obtain ⟨pl, k1, k2, k3⟩ := (b4 x x1 x2).kof c
      obtain ⟨pl', k1', k2', k3'⟩ := (b4' x x1 x2).kof (fun z => c (e11.mp z))
      have : pl' = pl := by
        have q := k2'.symm.trans k2
        rwa [nI_eq (by omega) (by omega)] at q
      rw [k3, k3', this]
end
