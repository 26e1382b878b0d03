/-! The tree: the class's entries (counted from 1; 0 is the whole text) against the reference's items.
g: the item of an entry; ow: the item whose `inner` begins its list; bh: behind its last (5000 while it is open); par: the entry it lies in; pe: its link isn't told yet. -/
def uq {α : Type} (f : Nat → α) (i : Nat) (v : α) : Nat → α := fun j => if j = i then v else f j
theorem uq_at {α : Type} {f : Nat → α} {i : Nat} {v : α} : uq f i v i = v := if_pos rfl
theorem uq_ne {α : Type} {f : Nat → α} {i j : Nat} {v : α} (h : j ≠ i) : uq f i v j = f j := if_neg h
theorem fI_s (S : PS) (j a : Nat) (v : Int32) : fI (sI S j a v) j a = v := by rw [fI_sI, if_pos ⟨rfl, rfl⟩]
theorem fI_sn (S : PS) (j a : Nat) (v : Int32) (j1 : Nat) (h : j1 ≠ j) : fI (sI S j a v) j1 = fI S j1 := by funext b; rw [fI_sI, if_neg (fun e => h e.1)]
theorem fL_s (S : PS) (j a : Nat) (v : Int64) : fL (sL S j a v) j a = v := by rw [fL_sL, if_pos ⟨rfl, rfl⟩]
theorem fL_sn (S : PS) (j a : Nat) (v : Int64) (j1 : Nat) (h : j1 ≠ j) : fL (sL S j a v) j1 = fL S j1 := by funext b; rw [fL_sL, if_neg (fun e => h e.1)]
theorem aI_w (S : PS) (r a i : Nat) (v : Int32) : aI (wI S r a i v) r a = uq (aI S r a) i v := by
  funext k; rw [aI_wI]; unfold uq
  by_cases h : k = i
  · rw [if_pos ⟨rfl, rfl, h⟩, if_pos h]
  · rw [if_neg (fun e => h e.2.2), if_neg h]
theorem aI_wn (S : PS) (r a i : Nat) (v : Int32) (r1 : Nat) (h : r1 ≠ r) : aI (wI S r a i v) r1 = aI S r1 := by funext b k; rw [aI_wI, if_neg (fun e => h e.1)]
theorem aL_w (S : PS) (r a i : Nat) (v : Int64) : aL (wL S r a i v) r a = uq (aL S r a) i v := by
  funext k; rw [aL_wL]; unfold uq
  by_cases h : k = i
  · rw [if_pos ⟨rfl, rfl, h⟩, if_pos h]
  · rw [if_neg (fun e => h e.2.2), if_neg h]
theorem aL_wn (S : PS) (r a i : Nat) (v : Int64) (r1 : Nat) (h : r1 ≠ r) : aL (wL S r a i v) r1 = aL S r1 := by funext b k; rw [aL_wL, if_neg (fun e => h e.1)]
def lk (pe : Nat → Bool) (g : Nat → Nat) (z : Nat) : Int32 := if pe z = true then -1 else nI (g z)
def Tre (N T : Nat) (g ow bh par : Nat → Nat) (pe : Nat → Bool) (inn nxt : Nat → Int32) : Prop :=
  (∀ x, x ≤ N → g x ≤ ow x ∧ ow x < T ∧ ∀ y, x < y → y ≤ N → ow x < g y) ∧
  (∀ x, x ≤ N → inn (ow x) = if x < bh x ∧ x < N then lk pe g (x + 1) else -1) ∧
  (∀ x, x < N → x < bh x → par (x + 1) = x) ∧
  (∀ x, 1 ≤ x → x ≤ N → nxt (g x) = if bh x < bh (par x) ∧ bh x < N then lk pe g (bh x + 1) else -1) ∧
  (∀ x, 1 ≤ x → x ≤ N → bh x < bh (par x) → bh x < N → par (bh x + 1) = par x) ∧
  (∀ x, 1 ≤ x → x ≤ N → par x < x ∧ x ≤ bh x ∧ bh x ≤ bh (par x) ∧ (bh x ≤ N ∨ bh x = 5000)) ∧
  bh 0 = 5000 ∧ (∀ z w, z ≤ N → bh z = 5000 → bh w = 5000 → w < z → w ≤ par z)
def Top (N : Nat) (g bh par : Nat → Nat) (x : Nat) (lst : Int32) : Prop :=
  x ≤ N ∧ bh x = 5000 ∧ (∀ z, z ≤ N → bh z = 5000 → z ≤ x) ∧
  (∀ z, 1 ≤ z → z ≤ N → bh z = N → bh (par z) = 5000 → par z = x ∧ lst = nI (g z)) ∧
  ((x = N ∧ lst = -1) ∨ ∃ l, 1 ≤ l ∧ l ≤ N ∧ par l = x ∧ bh l = N ∧ lst = nI (g l))
section
variable {N T x y : Nat} {g ow bh par : Nat → Nat} {pe : Nat → Bool} {inn nxt inn1 nxt1 : Nat → Int32} {lst : Int32}
theorem Tre.bh0 (h : Tre N T g ow bh par pe inn nxt) {z : Nat} (hz : z ≤ N) : bh z ≤ N ∨ bh z = 5000 := by
  rcases Nat.eq_zero_or_pos z with e | e
  · subst e; exact Or.inr h.2.2.2.2.2.2.1
  · exact (h.2.2.2.2.2.1 z e hz).2.2.2
theorem Tre.le (h : Tre N T g ow bh par pe inn nxt) {z : Nat} (hz : z ≤ N) (hN : N < 5000) : z ≤ bh z := by
  rcases Nat.eq_zero_or_pos z with e | e
  · omega
  · exact (h.2.2.2.2.2.1 z e hz).2.1
theorem Tre.op (h : Tre N T g ow bh par pe inn nxt) (hN : N < 5000) {z : Nat} (hz : z ≤ N) (h1 : 1 ≤ z) (ho : bh z = 5000) : bh (par z) = 5000 := by
  have h2 := h.2.2.2.2.2.1 z h1 hz
  have h3 := h.bh0 (z := par z) (by omega)
  omega
theorem Tre.glt (h : Tre N T g ow bh par pe inn nxt) {z : Nat} (hz : z ≤ N) : g z < T := Nat.lt_of_le_of_lt (h.1 z hz).1 (h.1 z hz).2.1
/-- a new entry under the top; lnk: its link is told at once -/
theorem Tre.add (h : Tre N T g ow bh par pe inn nxt) (hx : Top N g bh par x lst) (hN : N < 4000) (hT : T < 5000)
    (pd : Bool)
    (hi : ∀ i, i ≠ T → i ≠ ow x → inn1 i = inn i) (hiT : inn1 T = -1)
    (hn : ∀ i, i ≠ T → i < T → nI i ≠ lst → nxt1 i = nxt i) (hnT : nxt1 T = -1)
    (hl : pd = false → (lst = -1 → inn1 (ow x) = nI T) ∧ (lst ≠ -1 → inn1 (ow x) = inn (ow x) ∧ ∀ l, lst = nI l → l < T → nxt1 l = nI T))
    (hp : pd = true → inn1 (ow x) = inn (ow x) ∧ ∀ l, lst = nI l → l < T → nxt1 l = nxt l) :
    Tre (N + 1) (T + 1) (uq g (N + 1) T) (uq ow (N + 1) T) (uq bh (N + 1) 5000) (uq par (N + 1) x) (uq pe (N + 1) pd) inn1 nxt1 ∧ Top (N + 1) (uq g (N + 1) T) (uq bh (N + 1) 5000) (uq par (N + 1) x) (N + 1) (-1) := by
  obtain ⟨hx1, hx2, hx3, hx4, hx5⟩ := hx
  have hne : ∀ {z}, z ≤ N → z ≠ N + 1 := fun {z} hz => by omega
  have hg : ∀ {z}, z ≤ N → uq g (N + 1) T z = g z := fun hz => uq_ne (hne hz)
  have ho : ∀ {z}, z ≤ N → uq ow (N + 1) T z = ow z := fun hz => uq_ne (hne hz)
  have hb : ∀ {z}, z ≤ N → uq bh (N + 1) 5000 z = bh z := fun hz => uq_ne (hne hz)
  have hpa : ∀ {z}, z ≤ N → uq par (N + 1) x z = par z := fun hz => uq_ne (hne hz)
  have hlk : ∀ {z}, z ≤ N → lk (uq pe (N + 1) pd) (uq g (N + 1) T) z = lk pe g z := fun hz => by
    unfold lk; rw [uq_ne (hne hz), hg hz]
  have hlkN : lk (uq pe (N + 1) pd) (uq g (N + 1) T) (N + 1) = if pd = true then -1 else nI T := by
    unfold lk; rw [uq_at, uq_at]
  have hinj : ∀ {i j}, i < T → j < T → nI i = nI j → i = j := fun {i j} hi hj e => by
    have := congrArg Int32.toInt e
    rw [nI_toInt (by omega), nI_toInt (by omega)] at this; omega
  have hbN := fun {z} (hz : z ≤ N) => h.bh0 hz
  refine ⟨⟨?_, ?_, ?_, ?_, ?_, ?_, ?_, ?_⟩, ?_, ?_, ?_, ?_, ?_⟩
  · intro z hz
    rcases Nat.lt_or_ge N z with e | e
    · have e1 : z = N + 1 := by omega
      subst e1
      rw [uq_at, uq_at]
      exact ⟨Nat.le_refl T, by omega, fun y h1 h2 => by omega⟩
    · rw [hg e, ho e]
      have h1 := h.1 z e
      refine ⟨h1.1, by omega, fun y h2 h3 => ?_⟩
      rcases Nat.lt_or_ge N y with f | f
      · have e1 : y = N + 1 := by omega
        subst e1; rw [uq_at]; exact h1.2.1
      · rw [hg f]; exact h1.2.2 y h2 f
  · intro z hz
    rcases Nat.lt_or_ge N z with e | e
    · have e1 : z = N + 1 := by omega
      subst e1
      rw [uq_at, hiT, if_neg (by omega)]
    · rw [ho e, hb e]
      have h1 := h.2.1 z e
      have h0 := h.1 z e
      by_cases hzx : z = x
      · subst hzx
        rw [hx2] at h1 ⊢
        rcases hx5 with ⟨e2, e3⟩ | ⟨l, l1, l2, l3, l4, l5⟩
        · rw [if_pos (by omega), e2, hlkN]
          rw [if_neg (by omega)] at h1
          cases pd with
          | true => rw [if_pos rfl, ← e2, (hp rfl).1, h1]
          | false => rw [if_neg (by decide), ← e2]; exact (hl rfl).1 e3
        · have hzN : z < N := by have := (h.2.2.2.2.2.1 l l1 l2).1; omega
          have hls : lst ≠ -1 := by rw [l5]; exact nI_ne_neg (by have := h.glt l2; omega)
          rw [if_pos (by omega), hlk (by omega)]
          rw [if_pos (by omega)] at h1
          cases pd with
          | true => rw [(hp rfl).1]; exact h1
          | false => rw [((hl rfl).2 hls).1]; exact h1
      · have hne1 : ow z ≠ ow x := by
          intro e1
          rcases Nat.lt_or_ge z x with f | f
          · have := h0.2.2 x f hx1; have := (h.1 x hx1).1; omega
          · have := (h.1 x hx1).2.2 z (by omega) e; omega
        rw [hi _ (by omega) hne1, h1]
        have hbz := hbN e
        by_cases c : z < bh z ∧ z < N
        · rw [if_pos c, if_pos (by omega), hlk (by omega)]
        · rw [if_neg c, if_neg]
          rintro ⟨c1, c2⟩
          have : bh z = 5000 := by omega
          have := hx3 z e this
          have : z = N := by omega
          omega
  · intro z h1 h2
    rw [hb (by omega)] at h2
    rcases Nat.lt_or_ge z N with e | e
    · rw [hpa (by omega)]; exact h.2.2.1 z e h2
    · have e1 : z = N := by omega
      subst e1
      have hbz := hbN (Nat.le_refl z)
      have h3 := hx3 z (Nat.le_refl z) (by omega)
      rw [uq_at]; omega
  · intro z hz1 hz
    rcases Nat.lt_or_ge N z with e | e
    · have e1 : z = N + 1 := by omega
      subst e1
      rw [uq_at, uq_at, hnT, if_neg (by omega)]
    · rw [hg e, hb e, hpa e]
      have h5 := h.2.2.2.2.2.1 z hz1 e
      rw [hb (by omega)]
      have h1 := h.2.2.2.1 z hz1 e
      have hbz := hbN e
      have hgz := h.glt e
      by_cases c : nI (g z) = lst
      · rcases hx5 with ⟨e2, e3⟩ | ⟨l, l1, l2, l3, l4, l5⟩
        · exact absurd (c.trans e3) (nI_ne_neg (by omega))
        · have hgl := h.glt l2
          have e4 : g z = g l := hinj hgz hgl (c.trans l5)
          have e5 : z = l := by
            rcases Nat.lt_trichotomy z l with f | f | f
            · have := (h.1 z e).2.2 l f l2; have := (h.1 z e).1; omega
            · exact f
            · have := (h.1 l l2).2.2 z f e; have := (h.1 l l2).1; omega
          subst e5
          rw [l4, l3, hx2] at h1 ⊢
          rw [if_pos (by omega), hlkN]
          rw [if_neg (by omega)] at h1
          cases pd with
          | true => rw [if_pos rfl, (hp rfl).2 (g z) l5 hgz, h1]
          | false =>
            rw [if_neg (by decide)]
            exact ((hl rfl).2 (by rw [l5]; exact nI_ne_neg (by omega))).2 (g z) l5 hgz
      · rw [hn _ (by omega) hgz c, h1]
        by_cases d : bh z < bh (par z) ∧ bh z < N
        · rw [if_pos d, if_pos (by omega), hlk (by omega)]
        · rw [if_neg d, if_neg]
          rintro ⟨d1, d2⟩
          have e6 : bh z = N := by omega
          have hb2 := hbN (z := par z) (by omega)
          have := (hx4 z hz1 e e6 (by omega)).2
          exact c this.symm
  · intro z hz1 hz
    rcases Nat.lt_or_ge N z with e | e
    · have e1 : z = N + 1 := by omega
      subst e1
      rw [uq_at]; intro _ h2; omega
    · have h5 := h.2.2.2.2.2.1 z hz1 e
      rw [hb e, hpa e, hb (by omega)]
      intro d1 d2
      have hb1 := hbN e
      rcases Nat.lt_or_ge (bh z) N with f | f
      · rw [hpa (by omega)]; exact h.2.2.2.2.1 z hz1 e d1 f
      · have e6 : bh z = N := by omega
        have hb2 := hbN (z := par z) (by omega)
        rw [e6, uq_at]
        exact ((hx4 z hz1 e e6 (by omega)).1).symm
  · intro z hz1 hz
    rcases Nat.lt_or_ge N z with e | e
    · have e1 : z = N + 1 := by omega
      subst e1
      rw [uq_at, uq_at, hb hx1, hx2]; omega
    · have h5 := h.2.2.2.2.2.1 z hz1 e
      rw [hb e, hpa e, hb (by omega)]; omega
  · rw [hb (Nat.zero_le N)]; exact h.2.2.2.2.2.2.1
  · intro z w hz h1 h2 h3
    rw [hb (z := w) (by omega)] at h2
    rcases Nat.lt_or_ge N z with e | e
    · have e1 : z = N + 1 := by omega
      subst e1
      rw [uq_at]; exact hx3 w (by omega) h2
    · rw [hb e] at h1
      rw [hpa e]; exact h.2.2.2.2.2.2.2 z w e h1 h2 h3
  · exact Nat.le_refl _
  · exact uq_at
  · exact fun z hz _ => hz
  · intro z hz1 hz h1
    exfalso
    rcases Nat.lt_or_ge N z with e | e
    · have e1 : z = N + 1 := by omega
      subst e1
      rw [uq_at] at h1; omega
    · rw [hb e] at h1
      have := hbN e; omega
  · exact Or.inl ⟨rfl, rfl⟩
/-- the top is closed -/
theorem Tre.close (h : Tre N T g ow bh par pe inn nxt) (hx : Top N g bh par x lst) (hN : N < 4000) (h1 : 1 ≤ x) :
    Tre N T g ow (uq bh x N) par pe inn nxt ∧ Top N g (uq bh x N) par (par x) (nI (g x)) := by
  obtain ⟨hx1, hx2, hx3, hx4, hx5⟩ := hx
  have hb : ∀ {z}, z ≠ x → uq bh x N z = bh z := fun hz => uq_ne hz
  have hox := h.op (by omega) hx1 h1 hx2
  have h6 := h.2.2.2.2.2.1
  have hpx := h6 x h1 hx1
  have hch : ∀ z, 1 ≤ z → z ≤ N → par z = x → bh z ≤ N := fun z z1 z2 z3 => by
    have a1 := h6 z z1 z2
    rcases a1.2.2.2 with e | e
    · exact e
    · have := hx3 z z2 e; omega
  refine ⟨⟨h.1, ?_, ?_, ?_, ?_, ?_, ?_, ?_⟩, ?_, ?_, ?_, ?_, ?_⟩
  · intro z hz
    rw [h.2.1 z hz]
    by_cases e : z = x
    · subst e; rw [uq_at, hx2]
      by_cases c : z < N
      · rw [if_pos (by omega), if_pos (by omega)]
      · rw [if_neg (by omega), if_neg (by omega)]
    · rw [hb e]
  · intro z hz hb1
    by_cases e : z = x
    · subst e; exact h.2.2.1 z hz (by omega)
    · rw [hb e] at hb1; exact h.2.2.1 z hz hb1
  · intro z hz1 hz
    rw [h.2.2.2.1 z hz1 hz]
    have a1 := h6 z hz1 hz
    by_cases e : z = x
    · subst e
      have e2 : par z ≠ z := by omega
      rw [uq_at, hb e2, hx2, hox, if_neg (by omega), if_neg (by omega)]
    · rw [hb e]
      by_cases e3 : par z = x
      · rw [e3, uq_at, hx2]
        have := hch z hz1 hz e3
        by_cases c : bh z < N
        · rw [if_pos (by omega), if_pos (by omega)]
        · rw [if_neg (by omega), if_neg (by omega)]
      · rw [hb e3]
  · intro z hz1 hz
    have a1 := h6 z hz1 hz
    by_cases e : z = x
    · subst e; rw [uq_at]; intro _ d; omega
    · rw [hb e]
      by_cases e3 : par z = x
      · rw [e3, uq_at]; intro d1 d2
        have := h.2.2.2.2.1 z hz1 hz (by rw [e3]; omega) d2
        rw [this, e3]
      · rw [hb e3]; exact h.2.2.2.2.1 z hz1 hz
  · intro z hz1 hz
    have a1 := h6 z hz1 hz
    by_cases e : z = x
    · subst e
      rw [uq_at, hb (by omega), hox]; omega
    · rw [hb e]
      by_cases e3 : par z = x
      · rw [e3, uq_at]; have := hch z hz1 hz e3; omega
      · rw [hb e3]; exact a1
  · rw [hb (by omega)]; exact h.2.2.2.2.2.2.1
  · intro z w hz d1 d2 d3
    have ez : z ≠ x := by intro e; subst e; rw [uq_at] at d1; omega
    have ew : w ≠ x := by intro e; subst e; rw [uq_at] at d2; omega
    rw [hb ez] at d1; rw [hb ew] at d2
    exact h.2.2.2.2.2.2.2 z w hz d1 d2 d3
  · omega
  · rw [hb (by omega)]; exact hox
  · intro z hz d1
    have ez : z ≠ x := by intro e; subst e; rw [uq_at] at d1; omega
    rw [hb ez] at d1
    have := hx3 z hz d1
    exact h.2.2.2.2.2.2.2 x z hx1 hx2 d1 (by omega)
  · intro z hz1 hz d1 d2
    have a1 := h6 z hz1 hz
    by_cases e : z = x
    · subst e; exact ⟨rfl, rfl⟩
    · rw [hb e] at d1
      by_cases e3 : par z = x
      · rw [e3, uq_at] at d2; omega
      · rw [hb e3] at d2
        exact absurd (hx4 z hz1 hz d1 d2).1 e3
  · exact Or.inr ⟨x, h1, hx1, rfl, uq_at, rfl⟩
/-- the newest entry, still without a list, gets an item of its own for it -/
theorem Tre.own (h : Tre N T g ow bh par pe inn nxt) (he : ow N = g N) (hi : ∀ i, i ≠ T → i ≠ g N → inn1 i = inn i) (hiT : inn1 T = -1) (hn : ∀ i, i ≠ T → nxt1 i = nxt i) :
    Tre N (T + 1) g (uq ow N T) bh par pe inn1 nxt1 := by
  refine ⟨?_, ?_, h.2.2.1, ?_, h.2.2.2.2⟩
  · intro z hz
    have a := h.1 z hz
    by_cases e : z = N
    · subst e; rw [uq_at]; exact ⟨by omega, by omega, fun y _ _ => by omega⟩
    · rw [uq_ne e]; exact ⟨a.1, by omega, a.2.2⟩
  · intro z hz
    have a := h.1 z hz
    by_cases e : z = N
    · subst e; rw [uq_at, hiT, if_neg (by omega)]
    · rw [uq_ne e, hi _ (by omega) (by have := a.2.2 N (by omega) (Nat.le_refl N); omega)]; exact h.2.1 z hz
  · intro z hz1 hz
    rw [hn _ (by have := h.glt hz; omega)]; exact h.2.2.2.1 z hz1 hz
/-- a link that was kept back is told: the first of a list -/
theorem Tre.tell (h : Tre N T g ow bh par pe inn nxt) {z : Nat} (hz1 : 1 ≤ z) (hz : z ≤ N) (hp : pe z = true)
    (hi : ∀ i, i ≠ ow (par z) → inn1 i = inn i) (hn : ∀ i, (∀ l, 1 ≤ l → l ≤ N → par l = par z → bh l + 1 = z → i ≠ g l) → nxt1 i = nxt i)
    (h1 : inn1 (ow (par z)) = if z = par z + 1 then nI (g z) else inn (ow (par z)))
    (h2 : ∀ l, 1 ≤ l → l ≤ N → par l = par z → bh l + 1 = z → nxt1 (g l) = nI (g z)) (hb : bh (par z) > N ∨ z ≤ bh (par z)) (hN : N < 4000) :
    Tre N T g ow bh par (uq pe z false) inn1 nxt1 := by
  have h6 := h.2.2.2.2.2.1
  have a := h6 z hz1 hz
  have hlk : ∀ {w}, w ≠ z → lk (uq pe z false) g w = lk pe g w := fun hw => by unfold lk; rw [uq_ne hw]
  have hlz : lk (uq pe z false) g z = nI (g z) := by unfold lk; rw [uq_at, if_neg (by decide)]
  refine ⟨h.1, ?_, h.2.2.1, ?_, h.2.2.2.2⟩
  · intro w hw
    have aw := h.1 w hw
    have ap := h.1 (par z) (by omega)
    by_cases e : w = par z
    · rw [e, h1]
      by_cases c : z = par z + 1
      · rw [if_pos c, if_pos (by omega), ← c, hlz]
      · rw [if_neg c, h.2.1 (par z) (by omega)]
        by_cases d : par z < bh (par z) ∧ par z < N
        · rw [if_pos d, if_pos d, hlk (fun q => c q.symm)]
        · rw [if_neg d, if_neg d]
    · have hne : ow w ≠ ow (par z) := by
        intro q
        rcases Nat.lt_or_ge w (par z) with f | f
        · have := aw.2.2 (par z) f (by omega); omega
        · have := ap.2.2 w (by omega) hw; omega
      rw [hi _ hne, h.2.1 w hw]
      by_cases d : w < bh w ∧ w < N
      · rw [if_pos d, if_pos d, hlk]
        intro q
        have := h.2.2.1 w d.2 d.1
        rw [q] at this; exact e this.symm
      · rw [if_neg d, if_neg d]
  · intro w hw1 hw
    by_cases c : par w = par z ∧ bh w + 1 = z
    · rw [h2 w hw1 hw c.1 c.2, c.1, if_pos (by omega), c.2, hlz]
    · rw [hn]
      · rw [h.2.2.2.1 w hw1 hw]
        by_cases d : bh w < bh (par w) ∧ bh w < N
        · rw [if_pos d, if_pos d, hlk]
          intro q
          have := h.2.2.2.2.1 w hw1 hw d.1 d.2
          rw [q] at this; exact c ⟨this.symm, q⟩
        · rw [if_neg d, if_neg d]
      · intro l l1 l2 l3 l4 q
        have : w = l := by
          rcases Nat.lt_trichotomy w l with f | f | f
          · have := (h.1 w hw).2.2 l f l2; have := (h.1 w hw).1; omega
          · exact f
          · have := (h.1 l l2).2.2 w f hw; have := (h.1 l l2).1; omega
        subst this; exact c ⟨l3, l4⟩
end
