/-! A state of the pool, without addresses of slots: its addresses, their kinds (0..9: an object's class; from 10 on: the role of an array), fields by (global number, address), arrays by (role, address, place). -/
abbrev PS : Type := List Nat × (Nat → Nat) × (Nat → Nat → Int32) × (Nat → Nat → Int64) × (Nat → Nat → Option Nat) × (Nat → Nat) × (Nat → Nat → Nat → Int32) × (Nat → Nat → Nat → Int64) × (Nat → Nat → Nat → Option Nat)
def pL (S : PS) : List Nat := S.1
def pK (S : PS) : Nat → Nat := S.2.1
def fI (S : PS) : Nat → Nat → Int32 := S.2.2.1
def fL (S : PS) : Nat → Nat → Int64 := S.2.2.2.1
def fR (S : PS) : Nat → Nat → Option Nat := S.2.2.2.2.1
def aN (S : PS) : Nat → Nat := S.2.2.2.2.2.1
def aI (S : PS) : Nat → Nat → Nat → Int32 := S.2.2.2.2.2.2.1
def aL (S : PS) : Nat → Nat → Nat → Int64 := S.2.2.2.2.2.2.2.1
def aR (S : PS) : Nat → Nat → Nat → Option Nat := S.2.2.2.2.2.2.2.2
def up2 {α : Type} (f : Nat → Nat → α) (j a : Nat) (v : α) : Nat → Nat → α := fun j1 a1 => if j1 = j ∧ a1 = a then v else f j1 a1
def up3 {α : Type} (f : Nat → Nat → Nat → α) (r a i : Nat) (v : α) : Nat → Nat → Nat → α := fun r1 a1 i1 => if r1 = r ∧ a1 = a ∧ i1 = i then v else f r1 a1 i1
def sI (S : PS) (j a : Nat) (v : Int32) : PS := (S.1, S.2.1, up2 S.2.2.1 j a v, S.2.2.2)
def sL (S : PS) (j a : Nat) (v : Int64) : PS := (S.1, S.2.1, S.2.2.1, up2 S.2.2.2.1 j a v, S.2.2.2.2)
def sR (S : PS) (j a : Nat) (v : Option Nat) : PS := (S.1, S.2.1, S.2.2.1, S.2.2.2.1, up2 S.2.2.2.2.1 j a v, S.2.2.2.2.2)
def wI (S : PS) (r a i : Nat) (v : Int32) : PS := (S.1, S.2.1, S.2.2.1, S.2.2.2.1, S.2.2.2.2.1, S.2.2.2.2.2.1, up3 S.2.2.2.2.2.2.1 r a i v, S.2.2.2.2.2.2.2)
def wL (S : PS) (r a i : Nat) (v : Int64) : PS := (S.1, S.2.1, S.2.2.1, S.2.2.2.1, S.2.2.2.2.1, S.2.2.2.2.2.1, S.2.2.2.2.2.2.1, up3 S.2.2.2.2.2.2.2.1 r a i v, S.2.2.2.2.2.2.2.2)
def wR (S : PS) (r a i : Nat) (v : Option Nat) : PS := (S.1, S.2.1, S.2.2.1, S.2.2.2.1, S.2.2.2.2.1, S.2.2.2.2.2.1, S.2.2.2.2.2.2.1, S.2.2.2.2.2.2.2.1, up3 S.2.2.2.2.2.2.2.2 r a i v)
def fB (k : Nat) : Nat := [0, 2, 17, 21, 40, 43, 58, 69, 87, 96].getD k 0
def nf (k : Nat) : Nat := [2, 15, 4, 19, 3, 15, 11, 18, 9, 119].getD k 0
def fT (j : Nat) : Nat := [0, 0, 0, 0, 0, 0, 0, 0, 1, 1, 0, 1, 1, 1, 1, 0, 1, 0, 2, 2, 2, 2, 2, 2, 0, 2, 0, 0, 1, 1, 0, 0, 0, 1, 1, 0, 0, 0, 0, 0, 2, 0, 2, 2, 0, 0, 2, 2, 2, 2, 2, 2, 2, 0, 0, 2, 2, 2, 2, 2, 0, 0, 0, 2, 0, 1, 0, 0, 0, 2, 0, 2, 2, 2, 2, 2, 2, 2, 2, 0, 2, 2, 2, 2, 0, 0, 1, 2, 0, 2, 2, 2, 2, 2, 2, 2, 0, 2, 0, 2, 0, 0, 0, 0, 0, 2, 2, 2, 2, 2, 2, 2, 2, 0, 2, 2, 2, 0, 2, 2, 0, 2, 2, 2, 2, 0, 0, 2, 2, 0, 2, 2, 2, 2, 0, 2, 2, 2, 2, 2, 2, 2, 2, 2, 2, 2, 0, 2, 2, 0, 2, 2, 2, 0, 0, 0, 1, 1, 0, 0, 0, 1, 1, 0, 0, 0, 0, 2, 2, 0, 2, 2, 2, 2, 2, 2, 2, 2, 2, 2, 2, 2, 2, 2, 2, 2, 2, 2, 0, 2, 2, 2, 2, 2, 2, 2, 2, 2, 2, 2, 2, 2, 2, 2, 2, 2, 0, 0, 0, 0, 0, 1, 2, 0, 0].getD j 0
def fG (j : Nat) : Nat := [0, 0, 0, 0, 0, 0, 0, 0, 0, 0, 0, 0, 0, 0, 0, 0, 0, 0, 10, 11, 12, 5, 0, 13, 0, 7, 0, 0, 0, 0, 0, 0, 0, 0, 0, 0, 0, 0, 0, 0, 14, 0, 15, 27, 0, 0, 16, 17, 18, 19, 20, 21, 22, 0, 0, 23, 24, 25, 5, 0, 0, 0, 0, 26, 0, 0, 0, 0, 0, 27, 0, 28, 29, 30, 31, 32, 33, 34, 35, 0, 36, 37, 38, 2, 0, 0, 0, 39, 0, 0, 5, 6, 3, 4, 7, 7, 0, 40, 0, 41, 0, 0, 0, 0, 0, 42, 43, 44, 45, 46, 47, 48, 49, 0, 50, 51, 52, 0, 53, 54, 0, 55, 56, 57, 58, 0, 0, 59, 60, 0, 61, 62, 63, 64, 0, 65, 66, 67, 68, 69, 70, 71, 72, 73, 74, 75, 0, 76, 77, 0, 78, 79, 80, 0, 0, 0, 0, 0, 0, 0, 0, 0, 0, 0, 0, 0, 0, 81, 82, 0, 83, 84, 85, 86, 87, 88, 89, 90, 91, 92, 93, 94, 95, 96, 97, 98, 99, 100, 0, 101, 102, 103, 104, 105, 106, 107, 108, 109, 110, 111, 112, 113, 114, 115, 116, 117, 0, 0, 0, 0, 0, 0, 118, 0, 0].getD j 0
def rE (r : Nat) : Nat := [0, 0, 0, 0, 0, 0, 0, 0, 0, 0, 2, 1, 1, 4, 0, 0, 1, 1, 1, 1, 2, 1, 1, 1, 1, 1, 1, 0, 1, 2, 2, 2, 3, 3, 1, 1, 2, 1, 1, 0, 0, 0, 1, 1, 1, 1, 1, 1, 2, 3, 1, 1, 1, 1, 1, 1, 1, 1, 1, 1, 1, 1, 1, 1, 1, 1, 1, 3, 3, 2, 2, 1, 1, 1, 1, 1, 2, 1, 2, 1, 1, 1, 1, 1, 1, 1, 1, 1, 1, 1, 1, 1, 1, 1, 2, 2, 2, 2, 2, 2, 2, 0, 1, 1, 3, 3, 2, 2, 1, 1, 1, 1, 1, 1, 2, 2, 1, 1, 0, 2].getD r 0
def fval (S : PS) (a j : Nat) : Value := if fT j = 0 then .int (fI S j a) else if fT j = 1 then .long (fL S j a) else va_rf (fR S j a)
def flds (S : PS) (a k : Nat) : List Value := (List.range (nf k)).map (fun t => fval S a (fB k + t))
def cont (S : PS) (a r : Nat) : (Nat → Int32) ⊕ (Nat → Int64) ⊕ (Nat → UInt32) ⊕ (Nat → UInt64) ⊕ (Nat → Option Nat) := if rE r = 2 then .inr (.inl (aL S r a)) else if rE r = 4 then .inr (.inr (.inr (.inr (aR S r a)))) else .inl (aI S r a)
/-- what is fixed from the launch on: the classes' numbers, the arrays' classes, and a predicate of what never changes -/
abbrev EE : Type := (va_G × (Nat → ClassId)) × ((Nat → Prop) → State → Heap → Prop)
def cel (E : EE) (S : PS) (a : Nat) : va_E := if pK S a < 10 then .inr (pK S a, flds S a (pK S a)) else .inl (E.1.2 (rE (pK S a)), aN S a, cont S a (pK S a))
def wd (E : EE) (S : PS) : va_W := va_pl (pL S) (cel E S)
def tyE (E : EE) : List (ClassId × FieldType) := [(E.1.2 0, .byte), (E.1.2 1, .int), (E.1.2 2, .long), (E.1.2 3, .boolean), (E.1.2 4, .object "OwnText$Frame")]
def Rf (S : PS) (a k : Nat) : Prop := a ∈ pL S ∧ pK S a = k
/-- references lead to cells of the pool, of the kind that the field says -/
def TS (S : PS) : Prop := (∀ a j b, a ∈ pL S → pK S a < 10 → fB (pK S a) ≤ j → j < fB (pK S a) + nf (pK S a) → fR S j a = some b → Rf S b (fG j)) ∧ ∀ a i b, a ∈ pL S → pK S a = 13 → aR S 13 a i = some b → Rf S b 1
def Ext (S S1 : PS) : Prop := ∀ a, a ∈ pL S → a ∈ pL S1 ∧ pK S1 a = pK S a ∧ aN S1 a = aN S a
theorem Ext.rf {S : PS} : Ext S S := fun _ h => ⟨h, rfl, rfl⟩
theorem Ext.tr {S S1 S2 : PS} (h : Ext S S1) (g : Ext S1 S2) : Ext S S2 := fun a ha => ⟨(g a (h a ha).1).1, (g a (h a ha).1).2.1.trans (h a ha).2.1, (g a (h a ha).1).2.2.trans (h a ha).2.2⟩
theorem Rf.tr {S S1 : PS} {a k : Nat} (h : Rf S a k) (g : Ext S S1) : Rf S1 a k := ⟨(g a h.1).1, (g a h.1).2.1.trans h.2⟩
theorem flds_get {S : PS} {a k t : Nat} (h : t < nf k) : (flds S a k)[t]? = some (fval S a (fB k + t)) := by simp [flds, h]
theorem flds_len {S : PS} {a k : Nat} : (flds S a k).length = nf k := by simp [flds]
theorem flds_set {S S1 : PS} {a k t : Nat} {v : Value} (hv : fval S1 a (fB k + t) = v) (ho : ∀ i, i ≠ t → fval S1 a (fB k + i) = fval S a (fB k + i)) : (flds S a k).set t v = flds S1 a k := by
  apply List.ext_getElem?
  intro i
  rw [List.getElem?_set]
  by_cases hi : i < nf k
  · by_cases he : t = i
    · subst he
      rw [if_pos rfl, flds_len, if_pos hi, flds_get hi, hv]
    · rw [if_neg he, flds_get hi, flds_get hi, ho i (fun q => he q.symm)]
  · have h1 : (flds S1 a k)[i]? = none := by rw [List.getElem?_eq_none_iff, flds_len]; omega
    have h2 : (flds S a k)[i]? = none := by rw [List.getElem?_eq_none_iff, flds_len]; omega
    have h3 : t = i → ¬ t < (flds S a k).length := fun q => by rw [flds_len, q]; exact hi
    by_cases he : t = i
    · rw [if_pos he, if_neg (h3 he), h1]
    · rw [if_neg he, h1, h2]
theorem cel_obj {E : EE} {S : PS} {a k : Nat} (h : pK S a = k) (hk : k < 10) : cel E S a = .inr (k, flds S a k) := by simp [cel, h, hk]
theorem cel_arr {E : EE} {S : PS} {a r : Nat} (h : pK S a = r) (hr : 10 ≤ r) : cel E S a = .inl (E.1.2 (rE r), aN S a, cont S a r) := by
  have : ¬ r < 10 := by omega
  simp [cel, h, this]
theorem wd_get {E : EE} {S : PS} {a : Nat} (h : a ∈ pL S) : ∃ k : Nat, (wd E S)[k]? = some (a, cel E S a) := va_pl_get (X := []) h
theorem wd_set {E : EE} {S S1 : PS} {A : Nat → Prop} {a k : Nat} {e : va_E} (hD : va_D A (wd E S)) (h : a ∈ pL S) (hk : (wd E S)[k]? = some (a, cel E S a)) (hL : pL S1 = pL S) (he : cel E S1 a = e) (ho : ∀ b, b ≠ a → cel E S1 b = cel E S b) : (wd E S).set k (a, e) = wd E S1 := by
  have h1 := va_pl_set (X := []) (e := e) hD h hk
  have h2 : va_pl (pL S) (va_up (cel E S) a e) = wd E S1 := by
    unfold wd
    rw [hL]
    refine va_pl_congr fun b => ?_
    by_cases hb : b = a
    · subst hb; rw [va_up_self, he]
    · rw [va_up_ne _ _ hb, ho b hb]
  exact h1.trans h2
theorem up2_s {α : Type} (f : Nat → Nat → α) (j a : Nat) (v : α) : up2 f j a v j a = v := by simp [up2]
theorem up2_n {α : Type} (f : Nat → Nat → α) {j a j1 a1 : Nat} (v : α) (h : j1 ≠ j ∨ a1 ≠ a) : up2 f j a v j1 a1 = f j1 a1 := by
  unfold up2
  rw [if_neg]
  rintro ⟨h1, h2⟩
  rcases h with h | h
  · exact h h1
  · exact h h2
theorem up3_n {α : Type} (f : Nat → Nat → Nat → α) {r a i r1 a1 : Nat} (v : α) (h : a1 ≠ a) : up3 f r a i v r1 a1 = f r1 a1 := by
  funext i1
  unfold up3
  rw [if_neg]
  rintro ⟨h1, h2, h3⟩
  exact h h2
theorem up3_r {α : Type} (f : Nat → Nat → Nat → α) (r a i : Nat) (v : α) : up3 f r a i v r a = fun q => if q = i then v else f r a q := by
  funext q
  simp [up3]
theorem cel_other {E : EE} {S S1 : PS} {b : Nat} (hK : pK S1 b = pK S b) (hN : aN S1 b = aN S b) (h1 : ∀ j, fval S1 b j = fval S b j) (h2 : ∀ r, cont S1 b r = cont S b r) : cel E S1 b = cel E S b := by
  unfold cel
  rw [hK, hN, h2]
  have : flds S1 b (pK S b) = flds S b (pK S b) := by unfold flds; congr 1; funext t; exact h1 _
  rw [this]
theorem fval_sI_n {S : PS} {j a b i : Nat} {v : Int32} (h : i ≠ j ∨ b ≠ a) : fval (sI S j a v) b i = fval S b i := by
  show (if fT i = 0 then Value.int (up2 S.2.2.1 j a v i b) else _) = _
  rw [up2_n _ _ h]; rfl
theorem fval_sL_n {S : PS} {j a b i : Nat} {v : Int64} (h : i ≠ j ∨ b ≠ a) : fval (sL S j a v) b i = fval S b i := by
  show (if fT i = 0 then _ else if fT i = 1 then Value.long (up2 S.2.2.2.1 j a v i b) else _) = _
  rw [up2_n _ _ h]; rfl
theorem fval_sR_n {S : PS} {j a b i : Nat} {v : Option Nat} (h : i ≠ j ∨ b ≠ a) : fval (sR S j a v) b i = fval S b i := by
  show (if fT i = 0 then _ else if fT i = 1 then _ else va_rf (up2 S.2.2.2.2.1 j a v i b)) = _
  rw [up2_n _ _ h]; rfl
theorem fval_sI_s {S : PS} {j a : Nat} {v : Int32} (h : fT j = 0) : fval (sI S j a v) a j = .int v := by
  show (if fT j = 0 then Value.int (up2 S.2.2.1 j a v j a) else _) = _
  rw [if_pos h, up2_s]
theorem fval_sL_s {S : PS} {j a : Nat} {v : Int64} (h : fT j = 1) : fval (sL S j a v) a j = .long v := by
  show (if fT j = 0 then _ else if fT j = 1 then Value.long (up2 S.2.2.2.1 j a v j a) else _) = _
  rw [if_neg (by omega), if_pos h, up2_s]
theorem fval_sR_s {S : PS} {j a : Nat} {v : Option Nat} (h : fT j = 2) : fval (sR S j a v) a j = va_rf v := by
  show (if fT j = 0 then _ else if fT j = 1 then _ else va_rf (up2 S.2.2.2.2.1 j a v j a)) = _
  rw [if_neg (by omega), if_neg (by omega), up2_s]
theorem wd_sI {E : EE} {S : PS} {A : Nat → Prop} {a k n t : Nat} {v : Int32} (hD : va_D A (wd E S)) (ha : Rf S a k) (hk : k < 10) (ht : fT (fB k + t) = 0) (hn : (wd E S)[n]? = some (a, cel E S a)) : (wd E S).set n (a, .inr (k, (flds S a k).set t (.int v))) = wd E (sI S (fB k + t) a v) :=
  wd_set hD ha.1 hn rfl (by rw [cel_obj (S := sI S (fB k + t) a v) (k := k) ha.2 hk, flds_set (S1 := sI S (fB k + t) a v) (fval_sI_s ht) (fun i hi => fval_sI_n (Or.inl (by omega)))]) (fun b hb => cel_other rfl rfl (fun j => fval_sI_n (Or.inr hb)) (fun r => rfl))
theorem wd_sL {E : EE} {S : PS} {A : Nat → Prop} {a k n t : Nat} {v : Int64} (hD : va_D A (wd E S)) (ha : Rf S a k) (hk : k < 10) (ht : fT (fB k + t) = 1) (hn : (wd E S)[n]? = some (a, cel E S a)) : (wd E S).set n (a, .inr (k, (flds S a k).set t (.long v))) = wd E (sL S (fB k + t) a v) :=
  wd_set hD ha.1 hn rfl (by rw [cel_obj (S := sL S (fB k + t) a v) (k := k) ha.2 hk, flds_set (S1 := sL S (fB k + t) a v) (fval_sL_s ht) (fun i hi => fval_sL_n (Or.inl (by omega)))]) (fun b hb => cel_other rfl rfl (fun j => fval_sL_n (Or.inr hb)) (fun r => rfl))
theorem wd_sR {E : EE} {S : PS} {A : Nat → Prop} {a k n t : Nat} {v : Option Nat} (hD : va_D A (wd E S)) (ha : Rf S a k) (hk : k < 10) (ht : fT (fB k + t) = 2) (hn : (wd E S)[n]? = some (a, cel E S a)) : (wd E S).set n (a, .inr (k, (flds S a k).set t (va_rf v))) = wd E (sR S (fB k + t) a v) :=
  wd_set hD ha.1 hn rfl (by rw [cel_obj (S := sR S (fB k + t) a v) (k := k) ha.2 hk, flds_set (S1 := sR S (fB k + t) a v) (fval_sR_s ht) (fun i hi => fval_sR_n (Or.inl (by omega)))]) (fun b hb => cel_other rfl rfl (fun j => fval_sR_n (Or.inr hb)) (fun r => rfl))
theorem cont_i {S : PS} {a r : Nat} (h : rE r ≠ 2) (h4 : rE r ≠ 4) : cont S a r = .inl (aI S r a) := by simp [cont, h, h4]
theorem cont_l {S : PS} {a r : Nat} (h : rE r = 2) : cont S a r = .inr (.inl (aL S r a)) := by simp [cont, h]
theorem cont_q {S : PS} {a r : Nat} (h : rE r = 4) : cont S a r = .inr (.inr (.inr (.inr (aR S r a)))) := by simp [cont, h]
theorem cont_wI_o {S : PS} {r a i b q : Nat} {v : Int32} (h : b ≠ a) : cont (wI S r a i v) b q = cont S b q := by
  show (if rE q = 2 then _ else if rE q = 4 then _ else Sum.inl (up3 S.2.2.2.2.2.2.1 r a i v q b)) = _
  rw [up3_n _ _ h]; rfl
theorem cont_wL_o {S : PS} {r a i b q : Nat} {v : Int64} (h : b ≠ a) : cont (wL S r a i v) b q = cont S b q := by
  show (if rE q = 2 then Sum.inr (Sum.inl (up3 S.2.2.2.2.2.2.2.1 r a i v q b)) else _) = _
  rw [up3_n _ _ h]; rfl
theorem cont_wR_o {S : PS} {r a i b q : Nat} {v : Option Nat} (h : b ≠ a) : cont (wR S r a i v) b q = cont S b q := by
  show (if rE q = 2 then _ else if rE q = 4 then Sum.inr (Sum.inr (Sum.inr (Sum.inr (up3 S.2.2.2.2.2.2.2.2 r a i v q b)))) else _) = _
  rw [up3_n _ _ h]; rfl
theorem wd_wI {E : EE} {S : PS} {A : Nat → Prop} {a r n i : Nat} {v : Int32} (hD : va_D A (wd E S)) (ha : Rf S a r) (hr : 10 ≤ r) (h2 : rE r ≠ 2) (h4 : rE r ≠ 4) (hn : (wd E S)[n]? = some (a, cel E S a)) : (wd E S).set n (a, .inl (E.1.2 (rE r), aN S a, .inl (upd (aI S r a) i v))) = wd E (wI S r a i v) :=
  wd_set hD ha.1 hn rfl (by
    rw [cel_arr (S := wI S r a i v) (r := r) ha.2 hr, cont_i h2 h4]
    have : aI (wI S r a i v) r a = upd (aI S r a) i v := up3_r _ _ _ _ _
    rw [this]; rfl) (fun b hb => cel_other rfl rfl (fun j => rfl) (fun q => cont_wI_o hb))
theorem wd_wL {E : EE} {S : PS} {A : Nat → Prop} {a r n i : Nat} {v : Int64} (hD : va_D A (wd E S)) (ha : Rf S a r) (hr : 10 ≤ r) (h2 : rE r = 2) (hn : (wd E S)[n]? = some (a, cel E S a)) : (wd E S).set n (a, .inl (E.1.2 (rE r), aN S a, .inr (.inl (vp_updL (aL S r a) i v)))) = wd E (wL S r a i v) :=
  wd_set hD ha.1 hn rfl (by
    rw [cel_arr (S := wL S r a i v) (r := r) ha.2 hr, cont_l h2]
    have : aL (wL S r a i v) r a = vp_updL (aL S r a) i v := up3_r _ _ _ _ _
    rw [this]; rfl) (fun b hb => cel_other rfl rfl (fun j => rfl) (fun q => cont_wL_o hb))
