/-! Performing: the class's state, and how the reference's answers to it. -/
section
def lpb (l : Int) (st : Nat) : Prop := -(100 + 100 * (st : Int)) ≤ l ∧ l ≤ 100 + 100 * (st : Int)
/-- the performer's own numbers -/
def PfS (S S0 : PS) (A ks : Nat → Nat) (D st t ln : Nat) (lp : Int) (X H VF : Nat → Nat) : Prop :=
  fI S 24 (A 3) = nI D ∧ (fI S 26 (A 3) = nI st ∧ st ≤ 3000) ∧ fI S 27 (A 3) = nI (VF (D - 1)) ∧ (fL S 28 (A 3) = lN t ∧ t ≤ 3870720000) ∧ (fL S 29 (A 3) = lN ln ∧ 1 ≤ ln ∧ ln ≤ 3870720000) ∧ (fI S 30 (A 3) = iJ lp ∧ lpb lp st) ∧ fI S 31 (A 3) = nI (cp (pk ks 3) X (D - 1)) ∧ (fI S 32 (A 3) = nI (cp (pk ks 5) X (D - 1)) ∧ cp (pk ks 5) X (D - 1) ≤ 8) ∧ fL S 33 (A 3) = lN (pf (wu S0 A ks) X (D - 1)) ∧ fL S 34 (A 3) = lN (pf (wd5 S0 A ks) X (D - 1)) ∧ fI S 35 (A 3) = iJ (sf (wm S0 A ks 18) X (D - 1)) ∧ fI S 36 (A 3) = iJ (sf (wm S0 A ks 19) X (D - 1)) ∧ (fI S 37 (A 3) = nI (cp (pk ks 10) X (D - 1)) ∧ cp (pk ks 10) X (D - 1) ≤ 24) ∧ fI S 38 (A 3) = nI (cp (pk ks 7) X (D - 1)) ∧ fI S 39 (A 3) = hz (H (D - 1))
/-- where things lie -/
def PfL (S : PS) (A : Nat → Nat) : Prop := fR S 21 (A 3) = some (A 5) ∧ fR S 22 (A 3) = some (A 0) ∧ fR S 23 (A 3) = some (A 13) ∧ fR S 25 (A 3) = some (A 7) ∧ aN S (A 13) = 201 ∧ LayS S A
theorem PfL.st {S S1 : PS} {A : Nat → Nat} (h : PfL S A) (g : St S1 = St S) : PfL S1 A := by
  unfold PfL; rw [St.fR g, St.aN g]; exact ⟨h.1, h.2.1, h.2.2.1, h.2.2.2.1, h.2.2.2.2.1, h.2.2.2.2.2.st g⟩
/-- the frames' cells -/
def PfA (S : PS) (A : Nat → Nat) (D m : Nat) (F : Nat → Nat) : Prop := (∀ k, k < m → aR S 13 (A 13) k = some (F k) ∧ Rf S (F k) 1) ∧ (∀ k, m ≤ k → k < 201 → aR S 13 (A 13) k = none) ∧ (∀ i k, i < k → k < m → F i ≠ F k) ∧ D ≤ m ∧ m ≤ 201
theorem PfA.st {S S1 : PS} {A F : Nat → Nat} {D m : Nat} (h : PfA S A D m F) (g : St S1 = St S) : PfA S1 A D m F := by
  unfold PfA Rf; rw [St.aR g, St.pL g, St.pK g]; exact h
theorem PfA.ne {S : PS} {A F : Nat → Nat} {D m i k : Nat} (h : PfA S A D m F) (hi : i < m) (hk : k < m) (hn : i ≠ k) : F i ≠ F k := by
  rcases Nat.lt_or_ge i k with z | z
  · exact h.2.2.1 i k z hk
  · exact fun e => h.2.2.1 k i (by omega) hi e.symm
/-- how the open blocks lie in each other -/
def FrK (S0 : PS) (A : Nat → Nat) (N nd : Nat) (bh par ks lv : Nat → Nat) (X Y C H : Nat → Nat) (k : Nat) : Prop :=
  Y k ≤ N ∧ C k ≤ bn N bh (Y k) ∧ (C k < bn N bh (Y k) → par (C k + 1) = Y k) ∧ k + 1 ≤ 1 + 8 * cp (pk ks 10) X k + ll ks par lv (Y k) ∧ (k = 0 → X 0 = 0 ∧ Y 0 = 0 ∧ H 0 = 0) ∧
  (1 ≤ k → 1 ≤ X k ∧ X k ≤ N ∧ par (X k) = Y (k - 1) ∧ (((ks (X k) = 3 ∨ ks (X k) = 4 ∨ ks (X k) = 5 ∨ ks (X k) = 6) ∧ Y k = X k ∧ H k = H (k - 1)) ∨ (ks (X k) = 7 ∧ 1 ≤ Y k ∧ par (Y k) = X k ∧ H k = H (k - 1)) ∨ ks (X k) = 10)) ∧
  ((nmy par ks (Y k) = 0 ∧ H k = 0) ∨ (1 ≤ nmy par ks (Y k) ∧ ∃ h, H k = h + 1 ∧ 1 ≤ h ∧ h ≤ k ∧ ks (X h) = 10 ∧ aI S0 19 (A 19) (X h - 1) = 0 ∧ ∃ d, d < nd ∧ aI S0 18 (A 18) (X h - 1) = nI d ∧ aI S0 24 (A 24) d = nI (nmy par ks (Y k) - 1)))
/-- of a [: what its end puts back -/
def FrV (S : PS) (st : Nat) (X Y F VF TB : Nat → Nat) (k : Nat) : Prop :=
  fI S 10 (F k) = nI (VF (k - 1)) ∧ fL S 11 (F k) = lN (TB k) ∧ (∃ l, 1 ≤ l ∧ l ≤ 3870720000 ∧ fL S 12 (F k) = lN l) ∧ (∃ l : Int, fI S 6 (F k) = iJ l ∧ lpb l st) ∧
  ((Y k = X k + 1 ∧ fL S 13 (F k) = -1 ∧ fL S 16 (F k) = lN (TB k) ∧ VF k = VF (k - 1)) ∨ (Y k ≠ X k + 1 ∧ ∃ fe le l, TB k ≤ fe ∧ fe ≤ le ∧ le ≤ 3870720000 ∧ fL S 13 (F k) = lN fe ∧ fL S 16 (F k) = lN le ∧ 1 ≤ l ∧ l ≤ 3870720000 ∧ fL S 14 (F k) = lN l ∧ ∃ q : Int, fI S 15 (F k) = iJ q ∧ lpb q st))
/-- a frame of the class -/
def FrC (S S0 : PS) (A : Nat → Nat) (N : Nat) (bh ks : Nat → Nat) (st : Nat) (X Y C H F VF TB : Nat → Nat) (k : Nat) : Prop :=
  fI S 2 (F k) = hz (X k) ∧ fI S 3 (F k) = nI (C k) ∧ fI S 4 (F k) = nI (bn N bh (Y k)) ∧ (1 ≤ k → (ks (X k) = 3 → ∃ l : Int, fI S 6 (F k) = iJ l ∧ lpb l st) ∧ (ks (X k) = 4 → ∃ r, r ≤ 50 ∧ fI S 5 (F k) = nI r) ∧ (ks (X k) = 5 → fL S 8 (F k) = lN (pf (wu S0 A ks) X (k - 1)) ∧ fL S 9 (F k) = lN (pf (wd5 S0 A ks) X (k - 1))) ∧ (ks (X k) = 10 → fI S 7 (F k) = hz (H (k - 1))) ∧ (ks (X k) = 7 → FrV S st X Y F VF TB k) ∧ (ks (X k) ≠ 7 → VF k = VF (k - 1)))
/-- voices and times -/
def PfT (ks : Nat → Nat) (D V t : Nat) (X VF TB : Nat → Nat) : Prop := VF 0 = 0 ∧ (∀ k, k < D → VF k < V) ∧ ∀ k, 1 ≤ k → k < D → ks (X k) = 7 → TB k ≤ t ∧ ∀ i, 1 ≤ i → i < k → ks (X i) = 7 → TB i ≤ TB k
def mdn (d : Nat) : Prop := d = 1 ∨ d = 2 ∨ d = 4 ∨ d = 8 ∨ d = 16 ∨ d = 32
/-- the meters -/
def PfM (S : PS) (A ks : Nat → Nat) (D M t : Nat) (X TB : Nat → Nat) : Prop := (fI S 17 (A 2) = nI M ∧ 1 ≤ M ∧ M ≤ 40) ∧ ∃ mt mu md : Nat → Nat, (∀ k, k < M → aL S 10 (A 10) k = lN (mt k) ∧ aI S 11 (A 11) k = nI (mu k) ∧ aI S 12 (A 12) k = nI (md k) ∧ 1 ≤ mu k ∧ mu k ≤ 32 ∧ mdn (md k)) ∧ mt 0 = 0 ∧ (∀ k, k + 1 < M → mt k < mt (k + 1)) ∧ mt (M - 1) ≤ t ∧ ∀ k, 1 ≤ k → k < D → ks (X k) = 7 → mt (M - 1) ≤ TB k
/-- pitches of an event in one number -/
def pkn (c : Nat) (cs : Nat → Nat) : Nat → Nat
  | 0 => c
  | k + 1 => pkn c cs k + cs k * 2 ^ (3 + 9 * k)
def Pch (c : Nat) (cs : Nat → Nat) (w : Int64) : Prop := c ≤ 6 ∧ (∀ k, k < c → cs k < 350) ∧ w = lN (pkn c cs c)
def Wdy (B : Nat → Int32) (n : Nat) (y : Nat × Nat) : Prop := 1 ≤ y.2 ∧ y.2 ≤ 12 ∧ y.1 + y.2 ≤ n ∧ Syb B y
/-- an event of the class -/
def EvC (S : PS) (A : Nat → Nat) (B : Nat → Int32) (n E V e : Nat) : Prop :=
  (∃ v, v < V ∧ aI S 28 (A 28) e = nI v) ∧ (∃ tm l, 1 ≤ l ∧ tm + l ≤ 3870720000 ∧ aL S 29 (A 29) e = lN tm ∧ aL S 30 (A 30) e = lN l) ∧ (∃ c cs, Pch c cs (aL S 31 (A 31) e)) ∧ (aI S 32 (A 32) e = 0 ∨ aI S 32 (A 32) e = 1) ∧ (aI S 33 (A 33) e = 0 ∨ aI S 33 (A 33) e = 1) ∧
  (∀ j, j < 3 → aI S 34 (A 34) (3 * e + j) = -1 ∨ (∃ y, Wdy B n y ∧ aI S 34 (A 34) (3 * e + j) = sco B y) ∧ aL S 31 (A 31) e ≠ 0 ∧ aI S 33 (A 33) e = 0) ∧
  (aI S 32 (A 32) e = 1 → (∃ v, v < V ∧ aI S 28 (A 28) e = nI v ∧ aI S 38 (A 38) v ≠ -1 ∧ aI S 37 (A 37) v = nI e) ∨ ∃ o, e < o ∧ o < E ∧ aI S 28 (A 28) o = aI S 28 (A 28) e)
/-- a voice of the class -/
def VoC (S : PS) (A : Nat → Nat) (n D E : Nat) (VF : Nat → Nat) (v : Nat) : Prop :=
  (∃ b, b ≤ 3870720000 ∧ aL S 36 (A 36) v = lN b) ∧ (aI S 37 (A 37) v = -1 ∨ ∃ e, e < E ∧ aI S 37 (A 37) v = nI e) ∧
  (aI S 38 (A 38) v = -1 ∨ (∃ pl, pl ≤ n ∧ aI S 38 (A 38) v = nI pl) ∧ (∃ e, e < E ∧ aI S 37 (A 37) v = nI e ∧ aI S 28 (A 28) e = nI v ∧ aL S 31 (A 31) e ≠ 0) ∧ ∃ k, k < D ∧ v = VF k)
def PfE (S : PS) (A : Nat → Nat) (B : Nat → Int32) (n D E V : Nat) (VF : Nat → Nat) : Prop := (fI S 70 (A 7) = nI E ∧ E ≤ 300 ∧ fI S 79 (A 7) = nI V ∧ 1 ≤ V ∧ V ≤ 12) ∧ (∀ e, e < E → EvC S A B n E V e) ∧ ∀ v, v < V → VoC S A n D E VF v
/-- the class in performing -/
def CPf (S S0 : PS) (A : Nat → Nat) (B : Nat → Int32) (n : Nat) (N nd : Nat) (bh par ks lv : Nat → Nat) (D m st E V M t ln : Nat) (lp : Int) (X Y C H F VF TB : Nat → Nat) : Prop :=
  Kws (PW A S0) S0 S ∧ PfL S A ∧ (1 ≤ D ∧ PfA S A D m F) ∧ PfS S S0 A ks D st t ln lp X H VF ∧ (∀ k, k < D → FrK S0 A N nd bh par ks lv X Y C H k) ∧ (∀ k, k < D → FrC S S0 A N bh ks st X Y C H F VF TB k) ∧ PfT ks D V t X VF TB ∧ PfM S A ks D M t X TB ∧ PfE S A B n D E V VF
/-! what the reference holds of it -/
def RpS (S Sr S0 : PS) (A ks : Nat → Nat) (D : Nat) (X : Nat → Nat) : Prop :=
  fI Sr 102 (A 9) = 0 ∧ fI Sr 188 (A 9) = nI D ∧ fI Sr 154 (A 9) = fI S 26 (A 3) ∧ fI Sr 155 (A 9) = fI S 27 (A 3) ∧ fL Sr 156 (A 9) = fL S 28 (A 3) ∧ fL Sr 157 (A 9) = fL S 29 (A 3) ∧ (0 < cp (pk ks 3) X (D - 1) → fI Sr 158 (A 9) = fI S 30 (A 3)) ∧ fI Sr 159 (A 9) = fI S 31 (A 3) ∧ fI Sr 160 (A 9) = fI S 32 (A 3) ∧ fL Sr 161 (A 9) = fL S 33 (A 3) ∧ fL Sr 162 (A 9) = fL S 34 (A 3) ∧ fI Sr 163 (A 9) = fI S 35 (A 3) ∧ fI Sr 164 (A 9) = fI S 36 (A 3) ∧ fI Sr 166 (A 9) = fI S 37 (A 3) ∧ fI Sr 165 (A 9) = fI S 38 (A 3) ∧ fI Sr 169 (A 9) = nI (cp (pn S0 A ks) X (D - 1))
def RpV (S Sr : PS) (A ks X Y F : Nat → Nat) (k : Nat) : Prop := aI Sr 91 (A 91) k = fI S 10 (F k) ∧ aL Sr 96 (A 96) k = fL S 11 (F k) ∧ aL Sr 97 (A 97) k = fL S 12 (F k) ∧ (0 < cp (pk ks 3) X (k - 1) → aI Sr 90 (A 90) k = fI S 6 (F k)) ∧ (Y k ≠ X k + 1 → aL Sr 99 (A 99) k = fL S 13 (F k) ∧ aL Sr 100 (A 100) k = fL S 16 (F k) ∧ aL Sr 98 (A 98) k = fL S 14 (F k) ∧ (0 < cp (pk ks 3) X (k - 1) → aI Sr 93 (A 93) k = fI S 15 (F k)))
def RpF (S Sr S0 R0 : PS) (A : Nat → Nat) (N : Nat) (bh ks g ow : Nat → Nat) (X Y C H F : Nat → Nat) (k : Nat) : Prop :=
  aI Sr 87 (A 87) k = (if k = 0 then -1 else nI (g (X k))) ∧ aI Sr 86 (A 86) k = (if C k < bn N bh (Y k) then nI (g (C k + 1)) else -1) ∧ aI Sr 92 (A 92) k = nI (ow (Y k)) ∧ aI Sr 88 (A 88) k = hw S0 A ks X (H k) ∧
  (1 ≤ k → (ks (X k) = 3 → 0 < cp (pk ks 3) X (k - 1) → aI Sr 90 (A 90) k = fI S 6 (F k)) ∧ (ks (X k) = 4 → aI Sr 89 (A 89) k = fI S 5 (F k) + 1) ∧ (ks (X k) = 5 → aL Sr 94 (A 94) k = fL S 8 (F k) ∧ aL Sr 95 (A 95) k = fL S 9 (F k)) ∧ (ks (X k) = 7 → RpV S Sr A ks X Y F k) ∧ (pn S0 A ks (X k) = true → aI Sr 81 (A 81) (cp (pn S0 A ks) X (k - 1)) = aI R0 46 (A 46) (g (X k)) ∧ aI Sr 82 (A 82) (cp (pn S0 A ks) X (k - 1)) = hw S0 A ks X (H (k - 1))))
/-- pitches of an event of the reference -/
def PcR (Sr : PS) (A : Nat → Nat) (e c : Nat) (cs : Nat → Nat) : Prop := aI Sr 66 (A 66) e = nI c ∧ ∀ k, k < c → aI Sr 72 (A 72) (6 * e + k) = nI (cs k / 5 % 7) ∧ aI Sr 73 (A 73) (6 * e + k) = iJ ((cs k : Int) % 5 - 2) ∧ aI Sr 74 (A 74) (6 * e + k) = nI (cs k / 35)
/-- words of both -/
def WdR (R0 : PS) (A : Nat → Nat) (B : Nat → Int32) (n sy : Nat) (a b : Int32) : Prop := (a = -1 ∧ b = -1) ∨ ∃ y s, Wdy B n y ∧ a = sco B y ∧ s < sy ∧ b = nI s ∧ aI R0 53 (A 53) s = nI y.1 ∧ aI R0 54 (A 54) s = nI y.2
def RpE (S Sr R0 : PS) (A : Nat → Nat) (B : Nat → Int32) (n sy e : Nat) : Prop :=
  aI Sr 65 (A 65) e = aI S 28 (A 28) e ∧ (∃ c cs, Pch c cs (aL S 31 (A 31) e) ∧ PcR Sr A e c cs) ∧ aI Sr 67 (A 67) e = aI S 32 (A 32) e ∧ aI Sr 68 (A 68) e = aI S 33 (A 33) e ∧ aL Sr 69 (A 69) e = aL S 29 (A 29) e ∧ aL Sr 70 (A 70) e = aL S 30 (A 30) e ∧ ∀ j, j < 3 → WdR R0 A B n sy (aI S 34 (A 34) (3 * e + j)) (aI Sr 75 (A 75) (3 * e + j))
def RpO (S Sr : PS) (A : Nat → Nat) (E v : Nat) : Prop := aL Sr 76 (A 76) v = aL S 36 (A 36) v ∧ ((aI S 38 (A 38) v = -1 ∧ aI Sr 77 (A 77) v = -1) ∨ aI S 38 (A 38) v ≠ -1 ∧ ∃ e, e < E ∧ aI S 37 (A 37) v = nI e ∧ aI Sr 77 (A 77) v = nI e ∧ aI Sr 71 (A 71) e = aI S 38 (A 38) v)
def RpM (S Sr : PS) (A : Nat → Nat) (k : Nat) : Prop := aL Sr 78 (A 78) k = aL S 10 (A 10) k ∧ aI Sr 79 (A 79) k = aI S 11 (A 11) k ∧ aI Sr 80 (A 80) k = aI S 12 (A 12) k
def RpN (S Sr R0 : PS) (A : Nat → Nat) (B : Nat → Int32) (n sy E V M : Nat) : Prop := (fI Sr 146 (A 9) = nI E ∧ fI Sr 149 (A 9) = nI V ∧ fI Sr 153 (A 9) = nI M) ∧ (∀ e, e < E → RpE S Sr R0 A B n sy e) ∧ (∀ v, v < V → RpO S Sr A E v) ∧ ∀ k, k < M → RpM S Sr A k
def jPf (j : Nat) : Bool := decide (j = 102 ∨ j = 103 ∨ 146 ≤ j ∧ j ≤ 188)
def rPf (r : Nat) : Bool := decide (65 ≤ r ∧ r ≤ 100)
def KPf (S S1 : PS) : Prop := Keep jPf rPf S S1
/-- what the reference has read -/
def RSR (S0 R0 : PS) (A : Nat → Nat) (B : Nat → Int32) (n N nd : Nat) (bh par ks : Nat → Nat) (pc T wr sy : Nat) (g ow : Nat → Nat) : Prop := LayM R0 A ∧ (T ≤ 3100 ∧ wr + sy = pc ∧ pc ≤ 1500 ∧ n ≤ 1500 ∧ nd ≤ 20) ∧ RSl R0 A N T bh par g ow ∧ Ats S0 R0 A B n N pc wr sy nd g ow bh ks ∧ RSn S0 R0 A N nd ow ks
def RPf (S Sr S0 R0 : PS) (A : Nat → Nat) (B : Nat → Int32) (n sy : Nat) (N : Nat) (bh ks g ow : Nat → Nat) (D E V M : Nat) (X Y C H F : Nat → Nat) : Prop :=
  KPf R0 Sr ∧ RpS S Sr S0 A ks D X ∧ (∀ k, k < D → RpF S Sr S0 R0 A N bh ks g ow X Y C H F k) ∧ RpN S Sr R0 A B n sy E V M
end
