/-! Performing: the class pushes a frame. -/
section
variable {S S1 S2 T S0 : PS} {A F F1 : Nat → Nat} {D m m1 : Nat} {e c l : Int32}
/-- the cell of the next frame is there -/
def Bas (S T : PS) (A : Nat → Nat) (D m m1 : Nat) (F F1 : Nat → Nat) : Prop :=
  Ext S T ∧ PfL T A ∧ PfA T A (D + 1) m1 F1 ∧ (∀ i, i < D → F1 i = F i) ∧ m1 = (if D < m then m else m + 1) ∧ (∀ a, a ∈ pL S → (∀ j, fI T j a = fI S j a ∧ fL T j a = fL S j a) ∧ ∀ r, aI T r a = aI S r a ∧ aL T r a = aL S r a) ∧ ∀ S0, Kws (PW A S0) S0 S → Kws (PW A S0) S0 T
theorem Bas.old (hl : PfL S A) (ha : PfA S A D m F) (h : D < m) : Bas S S A D m m F F :=
  ⟨Ext.rf, hl, ⟨ha.1, ha.2.1, ha.2.2.1, h, ha.2.2.2.2⟩, fun _ _ => rfl, (if_pos h).symm, fun a _ => ⟨fun _ => ⟨rfl, rfl⟩, fun _ => ⟨rfl, rfl⟩⟩, fun _ h => h⟩
theorem Bas.mk {q : Nat} (hA : Ad S A) (hl : PfL S A) (ha : PfA S A D m F) (hm : ¬ D < m) (hD : D < 201) (hq : q ∉ pL S) : Bas S (wR (nO S 1 q) 13 (A 13) D (some q)) A D m (m + 1) F (uq F D q) := by
  have eD : D = m := by have := ha.2.2.2.1; omega
  subst eD
  have ne : ∀ a, a ∈ pL S → a ≠ q := fun a h e => hq (e ▸ h)
  have in_ : ∀ r, adr r = true → A r ∈ pL S := fun r h => (hA r h).1
  have ext : Ext S (wR (nO S 1 q) 13 (A 13) D (some q)) := (Ext.mkO hq).tr Ext.wR
  have frS : ∀ j a, a ∈ pL S → fR (wR (nO S 1 q) 13 (A 13) D (some q)) j a = fR S j a := fun j a h => by rw [fR_wR, fR_nO, if_neg (ne a h)]
  refine ⟨ext, ?_, ?_, fun i hi => uq_ne (by omega), (if_neg (by omega)).symm, fun a h => ⟨fun j => ?_, fun r => ?_⟩, fun S0 h => (h.mkO hq).wR (PW.at rfl)⟩
  · obtain ⟨l1, l2, l3, l4, l5, l6, l7⟩ := hl
    refine ⟨by rw [frS _ _ (in_ 3 rfl)]; exact l1, by rw [frS _ _ (in_ 3 rfl)]; exact l2, by rw [frS _ _ (in_ 3 rfl)]; exact l3, by rw [frS _ _ (in_ 3 rfl)]; exact l4, by rw [(ext _ (in_ 13 rfl)).2.2]; exact l5, fun t ht => ?_, fun t ht => ?_⟩
    · rw [frS _ _ (in_ _ ?_)]
      · exact l6 t ht
      · unfold LaySf at ht
        simp only [List.mem_cons, List.not_mem_nil, or_false] at ht
        rcases ht with rfl | rfl | rfl | rfl | rfl | rfl | rfl | rfl | rfl | rfl | rfl | rfl | rfl | rfl | rfl | rfl <;> rfl
    · rw [(ext _ (in_ _ ?_)).2.2]
      · exact l7 t ht
      · unfold LaySn at ht
        simp only [List.mem_cons, List.not_mem_nil, or_false] at ht
        rcases ht with rfl | rfl | rfl | rfl | rfl | rfl | rfl | rfl | rfl | rfl | rfl | rfl | rfl | rfl | rfl <;> rfl
  · refine ⟨fun k hk => ?_, fun k h1 h2 => ?_, fun i k h1 h2 => ?_, Nat.le_refl _, by omega⟩
    · by_cases c : k = D
      · subst c
        rw [uq_at, aR_wR, if_pos ⟨rfl, rfl, rfl⟩]
        exact ⟨rfl, (Rf.mkO).tr Ext.wR⟩
      · rw [uq_ne c, aR_wR, if_neg (fun z => c z.2.2)]
        exact ⟨(ha.1 k (by omega)).1, (ha.1 k (by omega)).2.tr ext⟩
    · rw [aR_wR, if_neg (fun z => by omega)]; exact ha.2.1 k (by omega) h2
    · by_cases c : k = D
      · rw [c, uq_at, uq_ne (by omega)]; exact ne _ (ha.1 i (by omega)).2.1
      · rw [uq_ne c, uq_ne (by omega)]; exact ha.2.2.1 i k h1 (by omega)
  · rw [fI_wR, fL_wR, fI_nO, fL_nO, if_neg (ne a h), if_neg (ne a h)]; exact ⟨rfl, rfl⟩
  · exact ⟨rfl, rfl⟩
/-- a frame is pushed -/
def Psh (S S1 : PS) (A : Nat → Nat) (D m m1 : Nat) (F F1 : Nat → Nat) (e c l : Int32) : Prop :=
  Ext S S1 ∧ PfL S1 A ∧ PfA S1 A (D + 1) m1 F1 ∧ (∀ i, i < D → F1 i = F i) ∧ m1 = (if D < m then m else m + 1) ∧ (∀ S0, Kws (PW A S0) S0 S → Kws (PW A S0) S0 S1) ∧ fI S1 24 (A 3) = nI (D + 1) ∧ (∀ j, 24 < j → fI S1 j (A 3) = fI S j (A 3)) ∧ (∀ j, fL S1 j (A 3) = fL S j (A 3)) ∧ (fI S1 2 (F1 D) = e ∧ fI S1 3 (F1 D) = c ∧ fI S1 4 (F1 D) = l) ∧ (∀ i, i < D → ∀ j, j < 24 → fI S1 j (F i) = fI S j (F i) ∧ fL S1 j (F i) = fL S j (F i)) ∧ EqE S S1 A ∧ EqM S S1 A
def kq (D m : Nat) : Nat × Nat := if D < m then (0, 0) else (1, 15)
theorem Psh.of (hA : Ad S A) (ha : PfA S A D m F) (b : Bas S T A D m m1 F F1) (h24 : fI S 24 (A 3) = nI D) : Psh S (sI (sI (sI (sI T 24 (A 3) (fI T 24 (A 3) + 1)) 2 (F1 D) e) 3 (F1 D) c) 4 (F1 D) l) A D m m1 F F1 e c l := by
  obtain ⟨b1, b2, b3, b4, b5, b6, b7⟩ := b
  have in_ : ∀ r, adr r = true → A r ∈ pL S := fun r h => (hA r h).1
  have hf := (b3.1 D (by have := b3.2.2.2.1; omega)).2
  have hi : ∀ i, i < D → F i ∈ pL S := fun i h => (ha.1 i (by have := ha.2.2.2.1; omega)).2.1
  have hne : ∀ i, i < D → F i ≠ F1 D := fun i h => by rw [← b4 i h]; exact b3.ne (by have := b3.2.2.2.1; omega) (by have := b3.2.2.2.1; omega) (by omega)
  refine ⟨b1.tr (((Ext.sI.tr Ext.sI).tr Ext.sI).tr Ext.sI), b2.st rfl, b3.st rfl, b4, b5, fun S0 h => ?_, ?_, fun j hj => ?_, fun j => ?_, ⟨?_, ?_, ?_⟩, fun i h j hj => ⟨?_, ?_⟩, ?_, ?_⟩
  · have k := b7 S0 h
    have w : PW A S0 (F1 D) ∨ F1 D ∉ pL S0 := PW.fr k.1 hf
    exact (((k.sI (PW.at rfl)).sI w).sI w).sI w
  · simp only [fI_s, fI_sn, fL_s, fL_sn, aI_w, aI_wn, aL_w, aL_wn, fI_sL, fI_wI, fI_wL, fL_sI, fL_wI, fL_wL, aI_sI, aI_sL, aI_wL, aL_sI, aL_sL, aL_wI, fR_sI, fR_sL, fR_wI, fR_wL, aN_sI, aN_sL, aN_wI, aN_wL, ne_eq, Nat.reduceEqDiff, not_false_eq_true]
    rw [((b6 _ (in_ 3 rfl)).1 24).1, h24, nI_1]
  · rw [fI_sn _ _ _ _ _ (by omega), fI_sn _ _ _ _ _ (by omega), fI_sn _ _ _ _ _ (by omega), fI_sn _ _ _ _ _ (by omega), ((b6 _ (in_ 3 rfl)).1 j).1]
  · rw [fL_sI, fL_sI, fL_sI, fL_sI, ((b6 _ (in_ 3 rfl)).1 j).2]
  · simp only [fI_s, fI_sn, fL_s, fL_sn, aI_w, aI_wn, aL_w, aL_wn, fI_sL, fI_wI, fI_wL, fL_sI, fL_wI, fL_wL, aI_sI, aI_sL, aI_wL, aL_sI, aL_sL, aL_wI, fR_sI, fR_sL, fR_wI, fR_wL, aN_sI, aN_sL, aN_wI, aN_wL, ne_eq, Nat.reduceEqDiff, not_false_eq_true]
  · simp only [fI_s, fI_sn, fL_s, fL_sn, aI_w, aI_wn, aL_w, aL_wn, fI_sL, fI_wI, fI_wL, fL_sI, fL_wI, fL_wL, aI_sI, aI_sL, aI_wL, aL_sI, aL_sL, aL_wI, fR_sI, fR_sL, fR_wI, fR_wL, aN_sI, aN_sL, aN_wI, aN_wL, ne_eq, Nat.reduceEqDiff, not_false_eq_true]
  · simp only [fI_s, fI_sn, fL_s, fL_sn, aI_w, aI_wn, aL_w, aL_wn, fI_sL, fI_wI, fI_wL, fL_sI, fL_wI, fL_wL, aI_sI, aI_sL, aI_wL, aL_sI, aL_sL, aL_wI, fR_sI, fR_sL, fR_wI, fR_wL, aN_sI, aN_sL, aN_wI, aN_wL, ne_eq, Nat.reduceEqDiff, not_false_eq_true]
  · rw [fI_sI, if_neg (fun z => hne i h z.2), fI_sI, if_neg (fun z => hne i h z.2), fI_sI, if_neg (fun z => hne i h z.2), fI_sn _ _ _ _ _ (by omega), ((b6 _ (hi i h)).1 j).1]
  · rw [fL_sI, fL_sI, fL_sI, fL_sI, ((b6 _ (hi i h)).1 j).2]
  · refine ⟨?_, ?_, fun r r1 r2 => ⟨?_, ?_⟩⟩
    · simp only [fI_s, fI_sn, fL_s, fL_sn, aI_w, aI_wn, aL_w, aL_wn, fI_sL, fI_wI, fI_wL, fL_sI, fL_wI, fL_wL, aI_sI, aI_sL, aI_wL, aL_sI, aL_sL, aL_wI, fR_sI, fR_sL, fR_wI, fR_wL, aN_sI, aN_sL, aN_wI, aN_wL, ne_eq, Nat.reduceEqDiff, not_false_eq_true]; rw [((b6 _ (in_ 7 rfl)).1 70).1]
    · simp only [fI_s, fI_sn, fL_s, fL_sn, aI_w, aI_wn, aL_w, aL_wn, fI_sL, fI_wI, fI_wL, fL_sI, fL_wI, fL_wL, aI_sI, aI_sL, aI_wL, aL_sI, aL_sL, aL_wI, fR_sI, fR_sL, fR_wI, fR_wL, aN_sI, aN_sL, aN_wI, aN_wL, ne_eq, Nat.reduceEqDiff, not_false_eq_true]; rw [((b6 _ (in_ 7 rfl)).1 79).1]
    · simp only [fI_s, fI_sn, fL_s, fL_sn, aI_w, aI_wn, aL_w, aL_wn, fI_sL, fI_wI, fI_wL, fL_sI, fL_wI, fL_wL, aI_sI, aI_sL, aI_wL, aL_sI, aL_sL, aL_wI, fR_sI, fR_sL, fR_wI, fR_wL, aN_sI, aN_sL, aN_wI, aN_wL, ne_eq, Nat.reduceEqDiff, not_false_eq_true]; rw [((b6 _ (in_ r (by unfold adr; rw [decide_eq_true_iff]; omega))).2 r).1]
    · simp only [fI_s, fI_sn, fL_s, fL_sn, aI_w, aI_wn, aL_w, aL_wn, fI_sL, fI_wI, fI_wL, fL_sI, fL_wI, fL_wL, aI_sI, aI_sL, aI_wL, aL_sI, aL_sL, aL_wI, fR_sI, fR_sL, fR_wI, fR_wL, aN_sI, aN_sL, aN_wI, aN_wL, ne_eq, Nat.reduceEqDiff, not_false_eq_true]; rw [((b6 _ (in_ r (by unfold adr; rw [decide_eq_true_iff]; omega))).2 r).2]
  · refine ⟨?_, fun r r1 r2 => ⟨?_, ?_⟩⟩
    · simp only [fI_s, fI_sn, fL_s, fL_sn, aI_w, aI_wn, aL_w, aL_wn, fI_sL, fI_wI, fI_wL, fL_sI, fL_wI, fL_wL, aI_sI, aI_sL, aI_wL, aL_sI, aL_sL, aL_wI, fR_sI, fR_sL, fR_wI, fR_wL, aN_sI, aN_sL, aN_wI, aN_wL, ne_eq, Nat.reduceEqDiff, not_false_eq_true]; rw [((b6 _ (in_ 2 rfl)).1 17).1]
    · simp only [fI_s, fI_sn, fL_s, fL_sn, aI_w, aI_wn, aL_w, aL_wn, fI_sL, fI_wI, fI_wL, fL_sI, fL_wI, fL_wL, aI_sI, aI_sL, aI_wL, aL_sI, aL_sL, aL_wI, fR_sI, fR_sL, fR_wI, fR_wL, aN_sI, aN_sL, aN_wI, aN_wL, ne_eq, Nat.reduceEqDiff, not_false_eq_true]; rw [((b6 _ (in_ r (by unfold adr; rw [decide_eq_true_iff]; omega))).2 r).1]
    · simp only [fI_s, fI_sn, fL_s, fL_sn, aI_w, aI_wn, aL_w, aL_wn, fI_sL, fI_wI, fI_wL, fL_sI, fL_wI, fL_wL, aI_sI, aI_sL, aI_wL, aL_sI, aL_sL, aL_wI, fR_sI, fR_sL, fR_wI, fR_wL, aN_sI, aN_sL, aN_wI, aN_wL, ne_eq, Nat.reduceEqDiff, not_false_eq_true]; rw [((b6 _ (in_ r (by unfold adr; rw [decide_eq_true_iff]; omega))).2 r).2]
theorem s_push {Q : Option Nat → PS → Prop} (hA : Ad S A) (hl : PfL S A) (ha : PfA S A D m F) (h24 : fI S 24 (A 3) = nI D) (hD : D < 201)
    (hQ : ∀ S1 m1 F1, Psh S S1 A D m m1 F F1 e c l → Q (some (F1 D)) S1) : wp_X3_push (A 3) e c l (kq D m) S Q := by
  unfold wp_X3_push
  rw [h24, show (201 : Int32) = nI 201 from rfl, if_pos (nI_lt hD (by omega))]
  refine ⟨_, hl.2.2.1, ?_⟩
  intro K hK
  refine ⟨by rw [hl.2.2.2.2.1]; exact vp_in_nI hD (by omega), fun hn => ?_, fun b hb => ?_⟩
  · rw [nI_clamp (by omega)] at hn
    have hm : ¬ D < m := fun z => by rw [(ha.1 D z).1] at hn; cases hn
    unfold kq
    rw [if_neg hm]
    refine ⟨⟨by decide, by decide⟩, ?_⟩
    rintro q hq _ rfl
    unfold wp_X1_init
    have hA3 : A 3 ≠ q := fun e => hq (e ▸ (hA 3 rfl).1)
    refine ⟨A 13, by rw [fR_nO, if_neg hA3]; exact hl.2.2.1, ?_⟩
    rw [fI_nO, if_neg hA3, h24, nI_clamp (by omega)]
    have bs := Bas.mk hA hl ha hm hD hq
    refine ⟨?_, ?_⟩
    · rw [aN_nO, hl.2.2.2.2.1]; exact vp_in_nI hD (by omega)
    rintro _ rfl
    apply hK
    rintro _ rfl _ rfl _ rfl _ rfl
    have := hQ _ _ _ (Psh.of (e := e) (c := c) (l := l) hA ha bs h24)
    rw [uq_at] at this; exact this
  · rw [nI_clamp (by omega)] at hb
    have hm : D < m := by
      rcases Nat.lt_or_ge D m with z | z
      · exact z
      · rw [ha.2.1 D z hD] at hb; cases hb
    rw [(ha.1 D hm).1] at hb
    injection hb with hb
    subst hb
    apply hK
    rintro _ rfl _ rfl _ rfl _ rfl
    exact hQ _ _ _ (Psh.of (e := e) (c := c) (l := l) hA ha (Bas.old hl ha hm) h24)
theorem s_frameAt {Q : Option Nat → PS → Prop} {k : Nat} (hl : PfL S A) (ha : PfA S A D m F) (h24 : fI S 24 (A 3) = nI D) (hk : k < D) (hQ : Q (some (F k)) S) : wp_X3_frameAt (A 3) (nI k) S Q := by
  have h1 := ha.2.2.2.1
  have h2 := ha.2.2.2.2
  unfold wp_X3_frameAt
  rw [if_neg (nI_pos (by omega)), h24, if_neg (nI_ge hk (by omega)), show (201 : Int32) = nI 201 from rfl, if_neg (nI_ge (by omega) (by omega))]
  refine ⟨_, hl.2.2.1, by rw [hl.2.2.2.2.1]; exact vp_in_nI (by omega) (by omega), fun hn => ?_, fun b hb => ?_⟩
  · rw [nI_clamp (by omega), (ha.1 k (by omega)).1] at hn; cases hn
  · rw [nI_clamp (by omega), (ha.1 k (by omega)).1] at hb
    injection hb with hb
    subst hb; exact hQ
end
