/-! Side by side: what both readers hold. -/
section
/-- tones: entry e of the class, item i of the reference -/
def AtT (S Sr : PS) (A : Nat → Nat) (B : Nat → Int32) (pc wr e i pl : Nat) : Prop :=
  (isTon (B pl) = true ∨ B pl = 114 ∨ B pl = 60) ∧ ∃ f w c t, aI S 21 (A 21) e = nI f ∧ f + c ≤ pc ∧ aI Sr 44 (A 44) i = nI w ∧ w + c ≤ wr ∧ c ≤ 6 ∧ (c = 0 ↔ B pl = 114) ∧ aI S 19 (A 19) e = nI c ∧ aI Sr 45 (A 45) i = nI c ∧ t ≤ 3870720000 ∧ aL S 20 (A 20) e = lN t ∧ aL Sr 48 (A 48) i = lN t ∧ aI Sr 49 (A 49) i = aI S 18 (A 18) e ∧ (aI S 18 (A 18) e = 0 ∨ aI S 18 (A 18) e = 1) ∧ (c = 0 → aI S 18 (A 18) e = 0) ∧
  ∀ k, k < c → ∃ q, isTon (B q) = true ∧ aI S 22 (A 22) (f + k) = pco B q ∧ aI Sr 50 (A 50) (w + k) = pLet (B q) ∧ aI Sr 51 (A 51) (w + k) = pA B q ∧ aI Sr 52 (A 52) (w + k) = pO B q
/-- items with numbers -/
def AtH (S Sr : PS) (A : Nat → Nat) (B : Nat → Int32) (e i pl ow s : Nat) : Prop :=
  ((B pl = 77 ∧ s = 2 ∧ ow = i) ∨ ((B pl = 76 ∧ s = 3 ∨ B pl = 82 ∧ s = 4 ∨ B pl = 84 ∧ s = 5 ∨ B pl = 88 ∧ s = 6) ∧ ow = i + 1 ∧ aI Sr 46 (A 46) i = nI ow)) ∧ aI Sr 44 (A 44) i = aI S 18 (A 18) e ∧ aI Sr 45 (A 45) i = aI S 19 (A 19) e ∧ hdb (B pl) (aI S 18 (A 18) e) (aI S 19 (A 19) e)
/-- bytes of a word -/
def Syb (B : Nat → Int32) (y : Nat × Nat) : Prop := ∀ q, y.1 ≤ q → q < y.1 + y.2 → isSyl (B q) = true
/-- words -/
def AtW (S Sr : PS) (A : Nat → Nat) (B : Nat → Int32) (n pc sy e i pl : Nat) : Prop :=
  B pl = 87 ∧ ∃ f w c v, aI S 21 (A 21) e = nI f ∧ f + c ≤ pc ∧ aI Sr 45 (A 45) i = nI w ∧ w + c ≤ sy ∧ aI S 19 (A 19) e = nI c ∧ aL Sr 48 (A 48) i = lN c ∧ 1 ≤ v ∧ v ≤ 3 ∧ aI S 18 (A 18) e = nI v ∧ aI Sr 44 (A 44) i = nI v ∧
  ∀ k, k < c → ∃ y : Nat × Nat, 1 ≤ y.2 ∧ y.2 ≤ 12 ∧ (y.1 + y.2 ≤ n ∧ Syb B y) ∧ aI S 22 (A 22) (f + k) = sco B y ∧ aI Sr 53 (A 53) (w + k) = nI y.1 ∧ aI Sr 54 (A 54) (w + k) = nI y.2
/-- a use -/
def AtU (S Sr : PS) (A : Nat → Nat) (nd e i : Nat) : Prop :=
  (aI S 19 (A 19) e = 1 ∧ ∃ j, j < 4 ∧ aI S 18 (A 18) e = nI j ∧ aI Sr 44 (A 44) i = -1 - nI j) ∨ (aI S 19 (A 19) e = 0 ∧ ∃ d, d < nd ∧ aI S 18 (A 18) e = nI d ∧ aI Sr 44 (A 44) i = nI d)
def Att (S Sr : PS) (A : Nat → Nat) (B : Nat → Int32) (n pc wr sy nd : Nat) (e i ow s bh : Nat) : Prop :=
  ∃ pl, pl ≤ n ∧ aI S 16 (A 16) e = nI pl ∧ aI Sr 42 (A 42) i = nI s ∧
  ((s = 11 ∧ ow = i) ∨ (pl < n ∧ aI Sr 43 (A 43) i = nI pl ∧
    ((s = 0 ∧ ow = i ∧ AtT S Sr A B pc wr e i pl) ∨ (s = 1 ∧ ow = i ∧ B pl = 124) ∨ AtH S Sr A B e i pl ow s ∨ (s = 7 ∧ ow = i ∧ B pl = 91) ∨ (s = 8 ∧ ow = i ∧ AtW S Sr A B n pc sy e i pl) ∨
     (s = 9 ∧ ow = i + 1 ∧ B pl = 61 ∧ (bh ≠ 5000 → aI Sr 46 (A 46) i = nI ow)) ∨ (s = 10 ∧ ow = i ∧ B pl = 36 ∧ AtU S Sr A nd e i))))
/-- the class keeps what it has below entry N and part pc -/
def GrC (S S1 : PS) (A : Nat → Nat) (N pc : Nat) : Prop := (∀ r e, e < N → r ≠ 17 → r ≠ 20 → 16 ≤ r → r ≤ 21 → aI S1 r (A r) e = aI S r (A r) e) ∧ (∀ e, e < N → aL S1 20 (A 20) e = aL S 20 (A 20) e) ∧ ∀ k, k < pc → aI S1 22 (A 22) k = aI S 22 (A 22) k
/-- the reference keeps what it has below item T -/
def GrR (S S1 : PS) (A : Nat → Nat) (T wr sy : Nat) : Prop := (∀ r i, i < T → 42 ≤ r → r ≤ 49 → r ≠ 46 → r ≠ 47 → r ≠ 48 → aI S1 r (A r) i = aI S r (A r) i) ∧ (∀ i, i < T → aL S1 48 (A 48) i = aL S 48 (A 48) i) ∧ (∀ r k, k < wr → 50 ≤ r → r ≤ 52 → aI S1 r (A r) k = aI S r (A r) k) ∧ ∀ r k, k < sy → 53 ≤ r → r ≤ 54 → aI S1 r (A r) k = aI S r (A r) k
variable {S S1 Sr Sr1 : PS} {A : Nat → Nat} {B : Nat → Int32} {n : Nat}
theorem Att.mono {N T pc wr sy nd pc1 wr1 sy1 nd1 e i ow s bh bh1 : Nat} (h : Att S Sr A B n pc wr sy nd e i ow s bh) (hc : GrC S S1 A N pc) (he : e < N) (hr : GrR Sr Sr1 A T wr sy) (hi : i < T) (h46 : ow = i + 1 → aI Sr1 46 (A 46) i = aI Sr 46 (A 46) i) (h1 : pc ≤ pc1) (h2 : wr ≤ wr1) (h3 : sy ≤ sy1) (h4 : nd ≤ nd1) (hb : bh1 ≠ 5000 → bh ≠ 5000) : Att S1 Sr1 A B n pc1 wr1 sy1 nd1 e i ow s bh1 := by
  obtain ⟨pl, a1, a2, a3, a4⟩ := h
  have c := fun r (x : r ≠ 17) (x2 : r ≠ 20) (y : 16 ≤ r) (z : r ≤ 21) => hc.1 r e he x x2 y z
  have d := fun r (x : 42 ≤ r) (y : r ≤ 49) (z1 : r ≠ 46) (z2 : r ≠ 47) (z3 : r ≠ 48) => hr.1 r i hi x y z1 z2 z3
  have c18 := c 18 (by decide) (by decide) (by decide) (by decide)
  have c19 := c 19 (by decide) (by decide) (by decide) (by decide)
  have c21 := c 21 (by decide) (by decide) (by decide) (by decide)
  have c20 := hc.2.1 e he
  have d44 := d 44 (by decide) (by decide) (by decide) (by decide) (by decide)
  have d45 := d 45 (by decide) (by decide) (by decide) (by decide) (by decide)
  have d49 := d 49 (by decide) (by decide) (by decide) (by decide) (by decide)
  have d48 := hr.2.1 i hi
  refine ⟨pl, a1, by rw [c 16 (by decide) (by decide) (by decide) (by decide)]; exact a2, by rw [d 42 (by decide) (by decide) (by decide) (by decide) (by decide)]; exact a3, ?_⟩
  rcases a4 with a4 | ⟨a5, a6, a7⟩
  · exact Or.inl a4
  · refine Or.inr ⟨a5, by rw [d 43 (by decide) (by decide) (by decide) (by decide) (by decide)]; exact a6, ?_⟩
    rcases a7 with ⟨b1, b2, b3⟩ | b | b | b | ⟨b1, b2, b3⟩ | ⟨b1, b2, b3, b4⟩ | ⟨b1, b2, b3, b4⟩
    · refine Or.inl ⟨b1, b2, ?_⟩
      obtain ⟨y1, f, w, k, t, y2, y3, y4, y5, y6, y7, y8, y9, z1, z2, z3, z4, z5, z5b, z6⟩ := b3
      refine ⟨y1, f, w, k, t, by rw [c21]; exact y2, by omega, by rw [d44]; exact y4, by omega, y6, y7, by rw [c19]; exact y8, by rw [d45]; exact y9, z1, by rw [c20]; exact z2, by rw [d48]; exact z3, by rw [d49, c18]; exact z4, by rw [c18]; exact z5, by rw [c18]; exact z5b, fun j hj => ?_⟩
      obtain ⟨q, x1, x2, x3, x4, x5⟩ := z6 j hj
      exact ⟨q, x1, by rw [hc.2.2 _ (by omega)]; exact x2, by rw [hr.2.2.1 50 _ (by omega) (by decide) (by decide)]; exact x3, by rw [hr.2.2.1 51 _ (by omega) (by decide) (by decide)]; exact x4, by rw [hr.2.2.1 52 _ (by omega) (by decide) (by decide)]; exact x5⟩
    · exact Or.inr (Or.inl b)
    · refine Or.inr (Or.inr (Or.inl ?_))
      obtain ⟨y1, y2, y3, y4⟩ := b
      refine ⟨?_, by rw [d44, c18]; exact y2, by rw [d45, c19]; exact y3, by rw [c18, c19]; exact y4⟩
      rcases y1 with y1 | ⟨y5, y6, y7⟩
      · exact Or.inl y1
      · exact Or.inr ⟨y5, y6, by rw [h46 y6]; exact y7⟩
    · exact Or.inr (Or.inr (Or.inr (Or.inl b)))
    · refine Or.inr (Or.inr (Or.inr (Or.inr (Or.inl ⟨b1, b2, ?_⟩))))
      obtain ⟨y1, f, w, k, v, y2, y3, y4, y5, y6, y7, y8, y9, z1, z2, z3⟩ := b3
      refine ⟨y1, f, w, k, v, by rw [c21]; exact y2, by omega, by rw [d45]; exact y4, by omega, by rw [c19]; exact y6, by rw [d48]; exact y7, y8, y9, by rw [c18]; exact z1, by rw [d44]; exact z2, fun j hj => ?_⟩
      obtain ⟨y, x1, x2, x3, x4, x5, x6⟩ := z3 j hj
      exact ⟨y, x1, x2, x3, by rw [hc.2.2 _ (by omega)]; exact x4, by rw [hr.2.2.2 53 _ (by omega) (by decide) (by decide)]; exact x5, by rw [hr.2.2.2 54 _ (by omega) (by decide) (by decide)]; exact x6⟩
    · exact Or.inr (Or.inr (Or.inr (Or.inr (Or.inr (Or.inl ⟨b1, b2, b3, fun z => by rw [h46 b2]; exact b4 (hb z)⟩)))))
    · refine Or.inr (Or.inr (Or.inr (Or.inr (Or.inr (Or.inr ⟨b1, b2, b3, ?_⟩)))))
      unfold AtU at b4 ⊢
      rw [c18, c19, d44]
      rcases b4 with b4 | ⟨x1, k, x2, x3, x4⟩
      · exact Or.inl b4
      · exact Or.inr ⟨x1, k, by omega, x3, x4⟩
theorem Att.no {pc wr sy nd e i s bh : Nat} (h : Att S Sr A B n pc wr sy nd e i i s bh) : ¬ (3 ≤ s ∧ s ≤ 6) := by
  obtain ⟨pl, a1, a2, a3, a4⟩ := h
  rcases a4 with z | ⟨_, _, a7⟩
  · omega
  · rcases a7 with ⟨z, _⟩ | ⟨z, _⟩ | z | ⟨z, _⟩ | ⟨z, _⟩ | ⟨z, _⟩ | ⟨z, _⟩
    · omega
    · omega
    · rcases z.1 with ⟨_, z, _⟩ | ⟨_, z, _⟩
      · omega
      · omega
    · omega
    · omega
    · omega
    · omega
/-! the pieces -/
def Num (Sr : PS) (A : Nat → Nat) (p op N T pc wr sy nd pq : Nat) (inm : Bool) : Prop := fI Sr 102 (A 9) = 0 ∧ fI Sr 101 (A 9) = nI p ∧ fI Sr 113 (A 9) = nI T ∧ T ≤ 2 * N + 2 ∧ fI Sr 117 (A 9) = nI wr ∧ fI Sr 120 (A 9) = nI sy ∧ wr + sy = pc ∧ fI Sr 134 (A 9) = nI (op + 1) ∧ fI Sr 125 (A 9) = nI nd ∧ fI Sr 126 (A 9) = mI inm ∧ (inm = true → fI Sr 129 (A 9) = nI pq)
def Cls (S : PS) (A : Nat → Nat) (N : Nat) (bh : Nat → Nat) : Prop := ∀ x, 1 ≤ x → x ≤ N → bh x ≠ 5000 → aI S 17 (A 17) (x - 1) = nI (bh x)
def Ats (S Sr : PS) (A : Nat → Nat) (B : Nat → Int32) (n N pc wr sy nd : Nat) (g ow bh ks : Nat → Nat) : Prop := ∀ x, 1 ≤ x → x ≤ N → Att S Sr A B n pc wr sy nd (x - 1) (g x) (ow x) (ks x) (bh x)
/-- how many more blocks are open in the list of y than around y -/
def stp (ks par : Nat → Nat) (y : Nat) : Nat := if ks y = 10 then 0 else if ks y = 11 ∧ ks (par y) = 7 then 0 else 1
def Lvs (N : Nat) (par ks lv : Nat → Nat) : Prop := ∀ x, 1 ≤ x → x ≤ N → (lv x ≤ 8 ∧ (3 ≤ ks x → ks x ≤ 6 → lv x ≤ 7)) ∧ lv x = if par x = 0 then 0 else lv (par x) + stp ks par (par x)
def Nms (S Sr : PS) (A : Nat → Nat) (B : Nat → Int32) (n N nd pq : Nat) (inm : Bool) (ow bh ks : Nat → Nat) : Prop :=
  (∀ k, k < nd → Nt B n (aI Sr 55 (A 55)) (aI Sr 56 (A 56)) (aI S 23 (A 23)) k ∧ ∃ x m, 1 ≤ x ∧ x ≤ N ∧ ks x = 9 ∧ bh x ≠ 5000 ∧ m ≤ 4 ∧ aI S 24 (A 24) k = nI (x - 1) ∧ aI Sr 57 (A 57) k = nI (ow x) ∧ aI S 25 (A 25) k = nI m ∧ aI Sr 58 (A 58) k = nI m) ∧
  (inm = true → ∀ k, k < pq → Nt B n (fun j => aI Sr 59 (A 59) (j + 1)) (fun j => aI Sr 60 (A 60) (j + 1)) (aI S 26 (A 26)) k)
/-- the naming in which the list of y lies; 0: none -/
def nmf (par ks : Nat → Nat) : Nat → Nat → Nat
  | 0, _ => 0
  | f + 1, y => if y = 0 then 0 else if ks y = 9 then y else nmf par ks f (par y)
def nmy (par ks : Nat → Nat) (y : Nat) : Nat := nmf par ks (y + 1) y
/-- behind k whole children of y stands c -/
def Ch (N : Nat) (bh par : Nat → Nat) (y : Nat) : Nat → Nat → Prop
  | 0, c => c = y
  | k + 1, c => ∃ c', Ch N bh par y k c' ∧ c' + 1 ≤ N ∧ par (c' + 1) = y ∧ bh (c' + 1) = c ∧ c ≠ 5000
/-- a use of a name has as many blocks as the name has parameters -/
def UB (S : PS) (A : Nat → Nat) (N nd : Nat) (bh par : Nat → Nat) (x : Nat) : Prop := aI S 19 (A 19) (x - 1) = 0 → ∀ d m, d < nd → aI S 18 (A 18) (x - 1) = nI d → m ≤ 4 → aI S 25 (A 25) d = nI m → ∀ k, k < m → ∃ c, Ch N bh par x k c ∧ c + 1 ≤ bh x ∧ par (c + 1) = x
/-- a use of a parameter stands in a naming that has it -/
def UP (S : PS) (A : Nat → Nat) (N nd pq : Nat) (inm : Bool) (bh par ks : Nat → Nat) (x : Nat) : Prop := aI S 19 (A 19) (x - 1) = 1 → ∀ j, j < 4 → aI S 18 (A 18) (x - 1) = nI j → 1 ≤ nmy par ks (par x) ∧ (bh (nmy par ks (par x)) = 5000 → inm = true ∧ j < pq) ∧ (bh (nmy par ks (par x)) ≠ 5000 → ∀ d m, d < nd → m ≤ 4 → aI S 24 (A 24) d = nI (nmy par ks (par x) - 1) → aI S 25 (A 25) d = nI m → j < m)
def UE (S : PS) (A : Nat → Nat) (N nd pq : Nat) (inm : Bool) (bh par ks : Nat → Nat) (pe : Nat → Bool) (x : Nat) : Prop := (ks x = 11 ↔ par x ≠ 0 ∧ (ks (par x) = 7 ∨ ks (par x) = 10)) ∧ (ks x = 7 → bh x ≠ x) ∧ (ks x = 10 → UP S A N nd pq inm bh par ks x) ∧ (ks x = 10 → bh x ≠ 5000 → UB S A N nd bh par x) ∧ (ks x = 9 → nmy par ks (par x) = 0) ∧ (pe x = true → bh x = 5000 ∧ ks x = 11 ∧ ks (par x) = 10)
def UF (S : PS) (A : Nat → Nat) (N nd : Nat) (ks : Nat → Nat) (f : Nat × Nat × Nat × Nat × Nat) : Prop := 1 ≤ f.2.2.2.1 ∧ f.2.2.2.1 ≤ N ∧ ks f.2.2.2.1 = 10 ∧ aI S 19 (A 19) (f.2.2.2.1 - 1) = 0 ∧ ∀ d m, aI S 18 (A 18) (f.2.2.2.1 - 1) = nI d → d < nd → m ≤ 4 → aI S 25 (A 25) d = nI m → f.2.2.2.2 + f.2.2.1 = m
def Ux (S : PS) (A : Nat → Nat) (N nd pq : Nat) (inm : Bool) (bh par ks : Nat → Nat) (pe : Nat → Bool) (stk : List (Nat × Nat × Nat × Nat × Nat)) : Prop := (∀ x, 1 ≤ x → x ≤ N → UE S A N nd pq inm bh par ks pe x) ∧ (∀ f, f ∈ stk → f.1 = 4 → UF S A N nd ks f) ∧ (inm = true → ∃ f, f ∈ stk ∧ f.1 = 3)
/-- the item that a frame of sort s with list x belongs to -/
def itm (par : Nat → Nat) (s x : Nat) : Nat := if s = 1 ∨ s = 3 then x else par x
/-- the open musics, the innermost first: sort, entry, how many blocks a use still wants, the name that is told -/
def SK (Sr : PS) (A : Nat → Nat) (B : Nat → Int32) (n N : Nat) (g ow bh par ks lv : Nat → Nat) (pe : Nat → Bool) : List (Nat × Nat × Nat × Nat × Nat) → Prop
  | [] => False
  | [f] => f.1 = 0 ∧ f.2.1 = 0 ∧ aI Sr 61 (A 61) 0 = 0 ∧ aI Sr 63 (A 63) 0 = nI (ow 0)
  | f :: f1 :: r => 1 ≤ f.1 ∧ f.1 ≤ 4 ∧ 1 ≤ f.2.1 ∧ f.2.1 ≤ N ∧ bh f.2.1 = 5000 ∧ aI Sr 61 (A 61) (r.length + 1) = nI f.1 ∧ aI Sr 63 (A 63) (r.length + 1) = nI (ow f.2.1) ∧ aI Sr 62 (A 62) (r.length + 1) = nI (g (itm par f.1 f.2.1)) ∧ aI Sr 64 (A 64) r.length = nI (g (itm par f.1 f.2.1)) ∧ 1 ≤ itm par f.1 f.2.1 ∧ itm par f.1 f.2.1 ≤ N ∧ par (itm par f.1 f.2.1) = f1.2.1 ∧ bh (itm par f.1 f.2.1) = 5000 ∧ lv f.2.1 + stp ks par f.2.1 = r.length + 1 ∧
    (f.1 = 1 → ks f.2.1 = 3 ∨ ks f.2.1 = 4 ∨ ks f.2.1 = 5 ∨ ks f.2.1 = 6) ∧ (f.1 = 2 → ks f.2.1 = 11 ∧ ks (par f.2.1) = 7 ∧ par f.2.1 = f.2.2.2.1) ∧
    (f.1 = 3 → ks f.2.1 = 9 ∧ aI Sr 59 (A 59) 0 = nI f.2.2.2.1 ∧ aI Sr 60 (A 60) 0 = nI f.2.2.2.2 ∧ Wn B n f.2.2.2) ∧
    (f.1 = 4 → par f.2.1 = f.2.2.2.1 ∧ ks f.2.1 = 11 ∧ ks (par f.2.1) = 10 ∧ pe f.2.1 = true ∧ 1 ≤ f.2.2.1 ∧ f.2.2.1 ≤ 4 ∧ aI Sr 45 (A 45) (g (par f.2.1)) = nI f.2.2.1 ∧ (f.2.1 = par f.2.1 + 1 ∨ (pe (par f.2.1 + 1) = false ∧ ∃ l, 1 ≤ l ∧ l ≤ N ∧ par l = par f.2.1 ∧ bh l + 1 = f.2.1 ∧ aL Sr 48 (A 48) (g (par f.2.1)) = lN (g l))) ∧ Ch N bh par (par f.2.1) f.2.2.2.2 (f.2.1 - 1)) ∧
    SK Sr A B n N g ow bh par ks lv pe (f1 :: r)
/-- class and reference at the same place of the same text -/
def MM (S Sr : PS) (A : Nat → Nat) (B : Nat → Int32) (n p op N pc nd pq : Nat) (inm : Bool) (stk : List (Nat × Nat × Nat × Nat × Nat)) : Prop :=
  ∃ T wr sy g ow bh par ks lv pe lst, RT Sr A B n ∧ Num Sr A p op N T pc wr sy nd pq inm ∧ Tre N T g ow bh par pe (aI Sr 46 (A 46)) (aI Sr 47 (A 47)) ∧ Top N g bh par (stk.headD (0, 0, 0, 0, 0)).2.1 lst ∧ aI Sr 64 (A 64) op = lst ∧ Cls S A N bh ∧ Ats S Sr A B n N pc wr sy nd g ow bh ks ∧ Lvs N par ks lv ∧ (Nms S Sr A B n N nd pq inm ow bh ks ∧ Ux S A N nd pq inm bh par ks pe stk) ∧ SK Sr A B n N g ow bh par ks lv pe stk ∧ stk.length = op + 1 ∧ g 0 = 0 ∧ ow 0 = 0
end
