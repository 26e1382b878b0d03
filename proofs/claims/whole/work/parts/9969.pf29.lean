/-! Performing: the class's loop. -/
def LB (a : Nat) (Q : Int32 → PS → Prop) (P : Int32 → Nat × Nat → PS → Prop) (x2_15 : Int32) (k17 : Nat × Nat) (S16 : PS) : Prop :=
 (if 12000 ≤ x2_15 then
 (∃ b18, fR S16 22 a = some b18 ∧ wp_X0_tell b18 5 0 S16 (fun (r20 : Int32) (S19 : PS) => 
 Q r20 S19))
 else
 wp_X3_frameAt a ((fI S16 24 a) - 1) S16 (fun (o : Option Nat) (S21 : PS) => (o = none → wp_X3_finish a S21 (fun (r25 : Int32) (S24 : PS) => 
 Q r25 S24)) ∧ ∀ b23, o = some b23 → (∀ K131_27 : Nat × Nat → PS → Prop, (∀ (k28 : Nat × Nat) (S26 : PS),
 (∀ v29, v29 = x2_15 + 1 → P v29 k28 S26)
 → K131_27 k28 S26) →
 (if fI S21 4 b23 ≤ fI S21 3 b23 then
 wp_X3_end a b23 S21 (fun (r31 : Int32) (S30 : PS) => 
 (if r31 = 0 then
 Q 0 S30
 else
 K131_27 k17 S30))
 else
 (∀ v32, v32 = fI S21 3 b23 → (∃ b33, fR S21 21 a = some b33 ∧ wp_X6_behind b33 v32 S21 (fun (r35 : Int32) (S34 : PS) => 
 (∀ S36, S36 = sI S34 3 b23 r35 → wp_X3_step a v32 S36 (fun (r38 : Int32) (S37 : PS) => 
 (if r38 = 0 then
 Q 0 S37
 else
 (∃ k41 : Nat × Nat, (k41.1 ≤ k17.1 ∧ k41.2 ≤ k17.2) ∧ wp_X3_begin a v32 k41 S37 (fun (r40 : Int32) (S39 : PS) => 
 (if r40 = 0 then
 Q 0 S39
 else
 K131_27 (k17.1 - k41.1, k17.2 - k41.2) S39)))))))))))))
def ClL (A : Nat → Nat) (Q : Int32 → PS → Prop) (P : Int32 → Nat × Nat → PS → Prop) : Prop := ∀ x2 k S, LB (A 3) Q P x2 k S → P x2 k S
section
variable {S S1 S2 S0 Sr Sr1 Sr2 R0 : PS} {A : Nat → Nat} {B : Nat → Int32} {n N nd pc : Nat} {bh par ks lv g ow : Nat → Nat}
variable {D m st E V M t ln sy x : Nat} {lp : Int} {X Y C H F VF TB : Nat → Nat}
variable {Q : Int32 → PS → Prop} {P : Int32 → Nat × Nat → PS → Prop} {T : Nat} {k : Nat × Nat}
theorem nI_n12 (h : T < 12000) : ¬ (12000 : Int32) ≤ nI T := by
  rw [show (12000 : Int32) = nI 12000 from rfl, nI_le_iff (by omega) (by omega)]; omega
/-- a turn at the end of a list -/
theorem lb_end (cl : ClL A Q P) (hT : T < 12000) (a2 : PfL S A) (a4 : PfA S A D m F) (h24 : fI S 24 (A 3) = nI D) (hD : 1 ≤ D) (hc : fI S 4 (F (D - 1)) ≤ fI S 3 (F (D - 1)))
    (h : ∀ K : Nat × Nat → PS → Prop, (∀ k' S', P (nI (T + 1)) k' S' → K k' S') → wp_X3_end (A 3) (F (D - 1)) S (fun r S3 => if r = 0 then Q 0 S3 else K k S3)) : P (nI T) k S := by
  apply cl
  unfold LB
  rw [if_neg (nI_n12 hT), h24, nI_pr hD]
  refine s_frameAt a2 a4 h24 (by omega) ⟨fun z => (by cases z), fun b hb => ?_⟩
  injection hb with hb
  subst hb
  intro K hK
  rw [if_pos hc]
  refine h K (fun k' S' hp => hK _ _ ?_)
  rintro _ rfl
  rw [nI_1]; exact hp
/-- a turn with an item -/
theorem lb_item (sc : StC S0 A B n pc N nd bh par ks lv) (h0 : CPf S S0 A B n N nd bh par ks lv D m st E V M t ln lp X Y C H F VF TB) (cl : ClL A Q P) (hT : T < 12000) (hc : C (D - 1) < bn N bh (Y (D - 1)))
    (h : st < 3000 → ∀ K : Nat × Nat → PS → Prop, (∀ k' S', P (nI (T + 1)) k' S' → K k' S') → ∃ k41 : Nat × Nat, (k41.1 ≤ k.1 ∧ k41.2 ≤ k.2) ∧ wp_X3_begin (A 3) (nI (C (D - 1) + 1 - 1)) k41 (itS S A F bh D st (C (D - 1) + 1)) (fun r S3 => if r = 0 then Q 0 S3 else K (k.1 - k41.1, k.2 - k41.2) S3))
    (hF : st = 3000 → Q 0 (sI (sI (sI S 3 (F (D - 1)) (nI (bh (C (D - 1) + 1)))) 0 (A 0) 5) 1 (A 0) (aI S0 16 (A 16) (C (D - 1))))) : P (nI T) k S := by
  obtain ⟨a1, a2, ⟨a3, a4⟩, a5, a6, a7, a8, a9, a10⟩ := h0
  have f := a6 (D - 1) (by omega)
  obtain ⟨c1, c2, c3, c4⟩ := a7 (D - 1) (by omega)
  have tr := sc.2.2.2.2.1
  have nb := sc.2.2.1.1
  have hN : bn N bh (Y (D - 1)) ≤ N := by
    unfold bn; split
    · exact Nat.le_refl N
    · exact (tr.1 _ (by omega) f.1).2.2.2
  have h17 := sc.2.2.2.1 (C (D - 1) + 1) (by omega) (by omega)
  rw [Nat.add_sub_cancel] at h17 h
  apply cl
  unfold LB
  rw [if_neg (nI_n12 hT), a5.1, nI_pr a3]
  refine s_frameAt a2 a4 a5.1 (by omega) ⟨fun z => (by cases z), fun b hb => ?_⟩
  injection hb with hb
  subst hb
  intro K hK
  rw [c2, c3, if_neg (by rw [nI_le_iff (by omega) (by omega)]; omega)]
  rintro _ rfl
  refine ⟨_, a2.1, s_behind (sc.pg a1 a2) (by omega) ?_⟩
  rw [h17]
  rintro _ rfl
  have wk : PW A S0 (F (D - 1)) ∨ F (D - 1) ∉ pL S0 := PW.fr a1.1 (a4.1 (D - 1) (by have := a4.2.2.2.1; omega)).2
  refine s_pstep (st := st) (a2.st rfl) (sc.pg (a1.sI wk) (a2.st rfl)) (by omega) (by rw [fI_sn _ _ _ _ _ (by decide)]; exact a5.2.1.1) a5.2.1.2 (fun hs => ?_) (fun hs => ?_)
  · rw [if_neg (by decide)]
    refine h hs K (fun k' S' hp => hK _ _ ?_)
    rintro _ rfl
    rw [nI_1]; exact hp
  · rw [if_pos rfl]
    exact hF hs
theorem lv_item (sc : StC S0 A B n pc N nd bh par ks lv) (h : CPf S S0 A B n N nd bh par ks lv D m st E V M t ln lp X Y C H F VF TB) (hx : Itm N par Y D x) : D ≤ 1 + 8 * cp (pk ks 10) X (D - 1) + lv x ∧ cp (pk ks 10) X (D - 1) ≤ 24 ∧ lv x ≤ 8 ∧ (3 ≤ ks x → ks x ≤ 7 → lv x ≤ 7) := by
  obtain ⟨x1, x2, x3⟩ := hx
  obtain ⟨a1, a2, ⟨a3, a4⟩, a5, a6, a7, a8, a9, a10⟩ := h
  have s5 := sc.2.2.2.2.1
  have s6 := sc.2.2.2.2.2.1
  have s7 := sc.2.2.2.2.2.2.1
  have f := a6 (D - 1) (by omega)
  have lx := s7 x x1 x2
  have ell : ll ks par lv (Y (D - 1)) = lv x := by unfold ll; rw [lx.2, x3]
  have f4 := f.2.2.2.1
  rw [ell] at f4
  have hu := a5.2.2.2.2.2.2.2.2.2.2.2.2.1.2
  refine ⟨by omega, hu, lx.1.1, fun k1 k2 => ?_⟩
  by_cases e : ks x = 7
  · have tx := s5.1 x x1 x2
    have hbx : x < bh x := by
      have := (s6 x x1 x2).2.1 e
      omega
    have y2 : x + 1 ≤ N := by omega
    have py : par (x + 1) = x := s5.2.1 x (by omega) (by rw [bn_pos x1]; exact hbx)
    have ly := s7 (x + 1) (by omega) y2
    have sx : stp ks par x = 1 := by unfold stp; rw [if_neg (by omega), if_neg (by omega)]
    have ly1 : lv (x + 1) = lv x + 1 := by rw [ly.2, py, if_neg (by omega), sx]
    have := ly.1.1
    omega
  · exact lx.1.2 k1 (by omega)
/-- what a list in performing belongs to -/
def Y10 (ks X Y : Nat → Nat) (D : Nat) : Prop := ∀ i, 1 ≤ i → i < D → ks (X i) = 10 → ks (Y i) ≠ 7 ∧ ks (Y i) ≠ 10
theorem Y10.no (sc : StC S0 A B n pc N nd bh par ks lv) (h : CPf S S0 A B n N nd bh par ks lv D m st E V M t ln lp X Y C H F VF TB) (hx : Itm N par Y D x) (y : Y10 ks X Y D) : ks x ≠ 11 := by
  intro e
  obtain ⟨x1, x2, x3⟩ := hx
  obtain ⟨a1, a2, ⟨a3, a4⟩, a5, a6, a7, a8, a9, a10⟩ := h
  have s6 := sc.2.2.2.2.2.1
  have f := a6 (D - 1) (by omega)
  obtain ⟨p1, p2⟩ := (s6 x x1 x2).1.mp e
  rw [x3] at p1 p2
  rcases Nat.lt_or_ge 0 (D - 1) with z | z
  · obtain ⟨q1, q2, q3, q4⟩ := f.2.2.2.2.2.1 z
    rcases q4 with ⟨w1, w2, _⟩ | ⟨w1, w2, w3, _⟩ | w
    · rw [w2] at p2; omega
    · have ky : ks (Y (D - 1)) = 11 := ((s6 _ w2 f.1).1).mpr ⟨by omega, Or.inl (by rw [w3]; exact w1)⟩
      omega
    · have := y (D - 1) (by omega) (by omega) w
      omega
  · have e0 : D - 1 = 0 := by omega
    rw [e0] at f p1
    exact p1 (f.2.2.2.2.1 rfl).2.1
theorem Y10.ps (y : Y10 ks X Y D) {y' : Nat} (h : ks x = 10 → ks y' ≠ 7 ∧ ks y' ≠ 10) : Y10 ks (uq X D x) (uq Y D y') (D + 1) := by
  intro i i1 i2 i3
  by_cases e : i = D
  · subst e
    rw [uq_at] at i3 ⊢
    exact h i3
  · rw [uq_ne e] at i3 ⊢
    exact y i i1 (by omega) i3
theorem Y10.pp (y : Y10 ks X Y D) : Y10 ks X Y (D - 1) := fun i i1 i2 i3 => y i i1 (by omega) i3
theorem Y10.nx (y : Y10 ks X Y D) {y' : Nat} (h : ks (X (D - 1)) = 7) : Y10 ks X (uq Y (D - 1) y') D := by
  intro i i1 i2 i3
  by_cases e : i = D - 1
  · rw [e] at i3; omega
  · rw [uq_ne e]; exact y i i1 i2 i3
theorem kof_le {c : Int32} : kof c ≤ 10 := by
  unfold kof
  repeat' split
  all_goals omega
end
