/-! Performing: a turn of both loops. -/
def PB (a : Nat) (R P : PS → Prop) (S4 : PS) : Prop :=
  (if fI S4 188 a ≤ 0 then
 R S4
 else
 (if fI S4 102 a = 0 then
 (∀ v5, v5 = (fI S4 188 a) - 1 → (∃ b6, fR S4 173 a = some b6 ∧ (vp_in v5 (aN S4 b6) ∧ (∀ v7, v7 = aI S4 86 b6 (v5).toNatClampNeg → (if v7 = (-1) then
 (∃ b14, fR S4 174 a = some b14 ∧ (vp_in v5 (aN S4 b14) ∧ wp_X12_leave a v5 (aI S4 87 b14 (v5).toNatClampNeg) S4 (fun (S15 : PS) => 
 P S15)))
 else
 (∃ b8, fR S4 173 a = some b8 ∧ (∃ b9, fR S4 110 a = some b9 ∧ (vp_in v7 (aN S4 b9) ∧ (vp_in v5 (aN S4 b8) ∧ ∀ S10, S10 = wI S4 86 b8 (v5).toNatClampNeg (aI S4 47 b9 (v7).toNatClampNeg) → wp_X12_step a v7 S10 (fun (S11 : PS) => 
 (if fI S11 102 a = 0 then
 (∃ b12, fR S11 175 a = some b12 ∧ (vp_in v5 (aN S11 b12) ∧ wp_X12_begin a v7 (aI S11 88 b12 (v5).toNatClampNeg) S11 (fun (S13 : PS) => 
 P S13)))
 else
 P S11)))))))))))
 else
 R S4))

section
variable {S S1 S2 S0 Sr Sr1 Sr2 R0 : PS} {A : Nat → Nat} {B : Nat → Int32} {n N nd pc : Nat} {bh par ks lv g ow : Nat → Nat}
variable {D m st E V M t ln sy x : Nat} {lp : Int} {X Y C H F VF TB : Nat → Nat}
def ClP (A : Nat → Nat) (R P : PS → Prop) : Prop := ∀ S, PB (A 9) R P S → P S
theorem ClP.out {R P : PS → Prop} {e : Nat × Nat} (h : ClP A R P) (hk : Kd e) (hb : RBad R0 Sr A e) (hr : R Sr) : P Sr := by
  apply h
  unfold PB
  split
  · exact hr
  · rw [if_neg (by rw [hb.2.1]; exact hk.ne)]; exact hr
/-- an item is taken from the innermost list, and is a step -/
def itS (S : PS) (A F bh : Nat → Nat) (D st x : Nat) : PS := sI (sI S 3 (F (D - 1)) (nI (bh x))) 26 (A 3) (nI (st + 1))
theorem PfS.step {S2 : PS} (h : PfS S S0 A ks D st t ln lp X H VF) (hs : st < 3000) (c : ∀ j, j ≠ 26 → 24 ≤ j → fI S2 j (A 3) = fI S j (A 3)) (cl : ∀ j, fL S2 j (A 3) = fL S j (A 3)) (c26 : fI S2 26 (A 3) = nI (st + 1)) : PfS S2 S0 A ks D (st + 1) t ln lp X H VF := by
  obtain ⟨a1, ⟨a2, a3⟩, a4, ⟨a5, a6⟩, ⟨a7, a8, a9⟩, ⟨a10, a11⟩, a12, ⟨a13, a14⟩, a15, a16, a17, a18, ⟨a19, a20⟩, a21, a22⟩ := h
  refine ⟨by rw [c 24 (by decide) (by decide)]; exact a1, ⟨c26, by omega⟩, by rw [c 27 (by decide) (by decide)]; exact a4, ⟨by rw [cl]; exact a5, a6⟩, ⟨by rw [cl]; exact a7, a8, a9⟩, ⟨by rw [c 30 (by decide) (by decide)]; exact a10, a11.mono (by omega)⟩, by rw [c 31 (by decide) (by decide)]; exact a12, ⟨by rw [c 32 (by decide) (by decide)]; exact a13, a14⟩, by rw [cl]; exact a15, by rw [cl]; exact a16, by rw [c 35 (by decide) (by decide)]; exact a17, by rw [c 36 (by decide) (by decide)]; exact a18, ⟨by rw [c 37 (by decide) (by decide)]; exact a19, a20⟩, by rw [c 38 (by decide) (by decide)]; exact a21, by rw [c 39 (by decide) (by decide)]; exact a22⟩
theorem CPf.item (sc : StC S0 A B n pc N nd bh par ks lv) (h : CPf S S0 A B n N nd bh par ks lv D m st E V M t ln lp X Y C H F VF TB) (hc : C (D - 1) < bn N bh (Y (D - 1))) (hs : st < 3000) : CPf (itS S A F bh D st (C (D - 1) + 1)) S0 A B n N nd bh par ks lv D m (st + 1) E V M t ln lp X Y (uq C (D - 1) (bh (C (D - 1) + 1))) H F VF TB ∧ Itm N par Y D (C (D - 1) + 1) := by
  obtain ⟨a1, a2, ⟨a3, a4⟩, a5, a6, a7, a8, a9, a10⟩ := h
  have f := a6 (D - 1) (by omega)
  have tr := sc.2.2.2.2.1
  have hN : bn N bh (Y (D - 1)) ≤ N := by
    unfold bn; split
    · exact Nat.le_refl N
    · exact (tr.1 _ (by omega) f.1).2.2.2
  have px := f.2.2.1 hc
  have tx := tr.1 (C (D - 1) + 1) (by omega) (by omega)
  refine ⟨⟨(a1.sI (PW.fr a1.1 (a4.1 (D - 1) (by have := a4.2.2.2.1; omega)).2)).sI (PW.at rfl), a2.st rfl, ⟨a3, a4.st rfl⟩, a5.step hs (fun j j1 j2 => ?_) (fun j => rfl) ?_, fun k hk => ?_, fun k hk => ?_, a8, a9.eq ?_, a10.eq ?_⟩, by omega, by omega, px⟩
  · unfold itS; rw [fI_sn _ _ _ _ _ j1, fI_sn _ _ _ _ _ (by omega)]
  · unfold itS; simp only [fI_s, fI_sn, fL_s, fL_sn, aI_w, aI_wn, aL_w, aL_wn, fI_sL, fI_wI, fI_wL, fL_sI, fL_wI, fL_wL, aI_sI, aI_sL, aI_wL, aL_sI, aL_sL, aL_wI, fR_sI, fR_sL, fR_wI, fR_wL, aN_sI, aN_sL, aN_wI, aN_wL, ne_eq, Nat.reduceEqDiff, not_false_eq_true]
  · by_cases e : k = D - 1
    · subst e
      obtain ⟨b1, b2, b3, b4, b5, b6, b7⟩ := f
      refine ⟨b1, ?_, fun z => ?_, b4, b5, b6, b7⟩
      · rw [uq_at]; rw [px] at tx; exact tx.2.2.1
      · rw [uq_at] at z ⊢
        have := tr.2.2 (C (D - 1) + 1) (by omega) (by omega) (by rw [px]; exact z)
        rw [this, px]
    · exact (a6 k hk).cg (fun _ _ => rfl) (fun _ _ => rfl) (uq_ne e) (fun _ _ => rfl)
  · have hne : k ≠ D - 1 → F k ≠ F (D - 1) := fun e => a4.ne (by have := a4.2.2.2.1; omega) (by have := a4.2.2.2.1; omega) e
    refine (a7 k hk).cg (by omega) (fun _ _ => rfl) rfl (fun _ _ => rfl) rfl (fun _ _ => rfl) rfl ?_ (fun j j1 j2 j3 => ?_)
    · unfold itS
      rw [fI_sn _ _ _ _ _ (by decide), fI_sI]
      by_cases e : k = D - 1
      · subst e; rw [if_pos ⟨rfl, rfl⟩, uq_at]
      · rw [if_neg (fun z => hne e z.2), uq_ne e]; exact (a7 k hk).2.1
    · unfold itS
      exact ⟨by rw [fI_sn _ _ _ _ _ (by omega), fI_sn _ _ _ _ _ j3], rfl⟩
  · unfold itS; exact ⟨by simp only [fI_s, fI_sn, fL_s, fL_sn, aI_w, aI_wn, aL_w, aL_wn, fI_sL, fI_wI, fI_wL, fL_sI, fL_wI, fL_wL, aI_sI, aI_sL, aI_wL, aL_sI, aL_sL, aL_wI, fR_sI, fR_sL, fR_wI, fR_wL, aN_sI, aN_sL, aN_wI, aN_wL, ne_eq, Nat.reduceEqDiff, not_false_eq_true], fun r _ _ => ⟨rfl, rfl⟩⟩
  · unfold itS; exact ⟨by simp only [fI_s, fI_sn, fL_s, fL_sn, aI_w, aI_wn, aL_w, aL_wn, fI_sL, fI_wI, fI_wL, fL_sI, fL_wI, fL_wL, aI_sI, aI_sL, aI_wL, aL_sI, aL_sL, aL_wI, fR_sI, fR_sL, fR_wI, fR_wL, aN_sI, aN_sL, aN_wI, aN_wL, ne_eq, Nat.reduceEqDiff, not_false_eq_true], by simp only [fI_s, fI_sn, fL_s, fL_sn, aI_w, aI_wn, aL_w, aL_wn, fI_sL, fI_wI, fI_wL, fL_sI, fL_wI, fL_wL, aI_sI, aI_sL, aI_wL, aL_sI, aL_sL, aL_wI, fR_sI, fR_sL, fR_wI, fR_wL, aN_sI, aN_sL, aN_wI, aN_wL, ne_eq, Nat.reduceEqDiff, not_false_eq_true], fun r _ _ => ⟨rfl, rfl⟩⟩
def itR (Sr R0 : PS) (A g : Nat → Nat) (D st x : Nat) : PS := sI (wI Sr 86 (A 86) (D - 1) (aI R0 47 (A 47) (g x))) 154 (A 9) (nI (st + 1))
theorem RPf.item {T wr : Nat} (h : CPf S S0 A B n N nd bh par ks lv D m st E V M t ln lp X Y C H F VF TB) (hr : RSR S0 R0 A B n N nd bh par ks pc T wr sy g ow) (hc : C (D - 1) < bn N bh (Y (D - 1))) (rp : RPf S Sr S0 R0 A B n sy N bh ks g ow D E V M X Y C H F) (hx : Itm N par Y D (C (D - 1) + 1)) :
    RPf (itS S A F bh D st (C (D - 1) + 1)) (itR Sr R0 A g D st (C (D - 1) + 1)) S0 R0 A B n sy N bh ks g ow D E V M X Y (uq C (D - 1) (bh (C (D - 1) + 1))) H F := by
  obtain ⟨b1, b2, b3, b4⟩ := rp
  obtain ⟨a1, a2, ⟨a3, a4⟩, a5, a6, a7, a8, a9, a10⟩ := h
  obtain ⟨x1, x2, x3⟩ := hx
  refine ⟨(b1.wI rfl).sI rfl, ?_, fun k hk => ?_, b4.eq ?_ ?_ ?_⟩
  · obtain ⟨c1, c2, c3, c4, c5, c6, c7, c8, c9, c10, c11, c12, c13, c14, c15, c16⟩ := b2
    unfold itS itR
    refine ⟨?_, ?_, ?_, ?_, ?_, ?_, fun z => ?_, ?_, ?_, ?_, ?_, ?_, ?_, ?_, ?_, ?_⟩
    all_goals simp only [fI_s, fI_sn, fL_s, fL_sn, aI_w, aI_wn, aL_w, aL_wn, fI_sL, fI_wI, fI_wL, fL_sI, fL_wI, fL_wL, aI_sI, aI_sL, aI_wL, aL_sI, aL_sL, aL_wI, fR_sI, fR_sL, fR_wI, fR_wL, aN_sI, aN_sL, aN_wI, aN_wL, ne_eq, Nat.reduceEqDiff, not_false_eq_true]
    all_goals first | assumption | exact c7 z
  · have hne : k ≠ D - 1 → F k ≠ F (D - 1) := fun e => a4.ne (by have := a4.2.2.2.1; omega) (by have := a4.2.2.2.1; omega) e
    refine (b3 k hk).cg (a6 k hk).hb (by have := (a6 (k - 1) (by omega)).hb; omega) (fun _ _ => rfl) rfl rfl rfl rfl (fun j j1 j2 j3 => ?_) ?_ (fun r r1 r2 => ?_) (fun _ _ => ?_)
    · unfold itS
      exact ⟨by rw [fI_sn _ _ _ _ _ (by omega), fI_sn _ _ _ _ _ j3], rfl⟩
    · unfold itR
      simp only [fI_s, fI_sn, fL_s, fL_sn, aI_w, aI_wn, aL_w, aL_wn, fI_sL, fI_wI, fI_wL, fL_sI, fL_wI, fL_wL, aI_sI, aI_sL, aI_wL, aL_sI, aL_sL, aL_wI, fR_sI, fR_sL, fR_wI, fR_wL, aN_sI, aN_sL, aN_wI, aN_wL, ne_eq, Nat.reduceEqDiff, not_false_eq_true]
      by_cases e : k = D - 1
      · subst e
        rw [uq_at, uq_at, hr.2.2.1.2.1 _ x1 x2, x3]
      · rw [uq_ne e, uq_ne e]; exact (b3 k hk).2.1
    · unfold itR
      exact ⟨by rw [aI_sI, aI_wn _ _ _ _ _ _ (by omega)], rfl⟩
    · unfold itR
      exact ⟨by simp only [fI_s, fI_sn, fL_s, fL_sn, aI_w, aI_wn, aL_w, aL_wn, fI_sL, fI_wI, fI_wL, fL_sI, fL_wI, fL_wL, aI_sI, aI_sL, aI_wL, aL_sI, aL_sL, aL_wI, fR_sI, fR_sL, fR_wI, fR_wL, aN_sI, aN_sL, aN_wI, aN_wL, ne_eq, Nat.reduceEqDiff, not_false_eq_true], by simp only [fI_s, fI_sn, fL_s, fL_sn, aI_w, aI_wn, aL_w, aL_wn, fI_sL, fI_wI, fI_wL, fL_sI, fL_wI, fL_wL, aI_sI, aI_sL, aI_wL, aL_sI, aL_sL, aL_wI, fR_sI, fR_sL, fR_wI, fR_wL, aN_sI, aN_sL, aN_wI, aN_wL, ne_eq, Nat.reduceEqDiff, not_false_eq_true]⟩
  · unfold itS; exact ⟨by simp only [fI_s, fI_sn, fL_s, fL_sn, aI_w, aI_wn, aL_w, aL_wn, fI_sL, fI_wI, fI_wL, fL_sI, fL_wI, fL_wL, aI_sI, aI_sL, aI_wL, aL_sI, aL_sL, aL_wI, fR_sI, fR_sL, fR_wI, fR_wL, aN_sI, aN_sL, aN_wI, aN_wL, ne_eq, Nat.reduceEqDiff, not_false_eq_true], by simp only [fI_s, fI_sn, fL_s, fL_sn, aI_w, aI_wn, aL_w, aL_wn, fI_sL, fI_wI, fI_wL, fL_sI, fL_wI, fL_wL, aI_sI, aI_sL, aI_wL, aL_sI, aL_sL, aL_wI, fR_sI, fR_sL, fR_wI, fR_wL, aN_sI, aN_sL, aN_wI, aN_wL, ne_eq, Nat.reduceEqDiff, not_false_eq_true], fun r _ _ => ⟨rfl, rfl⟩⟩
  · unfold itS; exact ⟨by simp only [fI_s, fI_sn, fL_s, fL_sn, aI_w, aI_wn, aL_w, aL_wn, fI_sL, fI_wI, fI_wL, fL_sI, fL_wI, fL_wL, aI_sI, aI_sL, aI_wL, aL_sI, aL_sL, aL_wI, fR_sI, fR_sL, fR_wI, fR_wL, aN_sI, aN_sL, aN_wI, aN_wL, ne_eq, Nat.reduceEqDiff, not_false_eq_true], fun r _ _ => ⟨rfl, rfl⟩⟩
  · unfold itR; exact ⟨⟨by simp only [fI_s, fI_sn, fL_s, fL_sn, aI_w, aI_wn, aL_w, aL_wn, fI_sL, fI_wI, fI_wL, fL_sI, fL_wI, fL_wL, aI_sI, aI_sL, aI_wL, aL_sI, aL_sL, aL_wI, fR_sI, fR_sL, fR_wI, fR_wL, aN_sI, aN_sL, aN_wI, aN_wL, ne_eq, Nat.reduceEqDiff, not_false_eq_true], by simp only [fI_s, fI_sn, fL_s, fL_sn, aI_w, aI_wn, aL_w, aL_wn, fI_sL, fI_wI, fI_wL, fL_sI, fL_wI, fL_wL, aI_sI, aI_sL, aI_wL, aL_sI, aL_sL, aL_wI, fR_sI, fR_sL, fR_wI, fR_wL, aN_sI, aN_sL, aN_wI, aN_wL, ne_eq, Nat.reduceEqDiff, not_false_eq_true], by simp only [fI_s, fI_sn, fL_s, fL_sn, aI_w, aI_wn, aL_w, aL_wn, fI_sL, fI_wI, fI_wL, fL_sI, fL_wI, fL_wL, aI_sI, aI_sL, aI_wL, aL_sI, aL_sL, aL_wI, fR_sI, fR_sL, fR_wI, fR_wL, aN_sI, aN_sL, aN_wI, aN_wL, ne_eq, Nat.reduceEqDiff, not_false_eq_true]⟩, fun r r1 r2 => ⟨by rw [aI_sI, aI_wn _ _ _ _ _ _ (by omega)], rfl⟩⟩
/-- the reference's loop goes on as the class's has -/
def GoT (S0 : PS) (A : Nat → Nat) (B : Nat → Int32) (n N nd : Nat) (bh par ks : Nat → Nat) (S : PS) (D E V M : Nat) (X Y C H F : Nat → Nat) (S1 : PS) (D1 E1 V1 M1 : Nat) (X1 Y1 C1 H1 F1 : Nat → Nat) : Prop :=
  ∀ R0 pc T wr sy g ow, RSR S0 R0 A B n N nd bh par ks pc T wr sy g ow → ∀ Sr, RPf S Sr S0 R0 A B n sy N bh ks g ow D E V M X Y C H F → ∀ R P : PS → Prop, ClP A R P → (∀ Sr1, RPf S1 Sr1 S0 R0 A B n sy N bh ks g ow D1 E1 V1 M1 X1 Y1 C1 H1 F1 → P Sr1) → P Sr
def GoTF (S0 : PS) (A : Nat → Nat) (B : Nat → Int32) (n N nd : Nat) (bh par ks : Nat → Nat) (S : PS) (D E V M : Nat) (X Y C H F : Nat → Nat) (e : Nat × Nat) : Prop :=
  ∀ R0 pc T wr sy g ow, RSR S0 R0 A B n N nd bh par ks pc T wr sy g ow → ∀ Sr, RPf S Sr S0 R0 A B n sy N bh ks g ow D E V M X Y C H F → ∀ R P : PS → Prop, ClP A R P → (∀ Sr1, RBad R0 Sr1 A e → R Sr1) → P Sr
section
variable {D1 E1 V1 M1 D2 E2 V2 M2 : Nat} {X1 Y1 C1 H1 F1 X2 Y2 C2 H2 F2 : Nat → Nat} {e : Nat × Nat}
theorem GoT.rf : GoT S0 A B n N nd bh par ks S D E V M X Y C H F S D E V M X Y C H F := fun _ _ _ _ _ _ _ _ Sr rp _ _ _ h => h Sr rp
theorem GoT.tr (h : GoT S0 A B n N nd bh par ks S D E V M X Y C H F S1 D1 E1 V1 M1 X1 Y1 C1 H1 F1) (g : GoT S0 A B n N nd bh par ks S1 D1 E1 V1 M1 X1 Y1 C1 H1 F1 S2 D2 E2 V2 M2 X2 Y2 C2 H2 F2) : GoT S0 A B n N nd bh par ks S D E V M X Y C H F S2 D2 E2 V2 M2 X2 Y2 C2 H2 F2 :=
  fun R0 pc T wr sy gg ow hr Sr rp R P cl q => h R0 pc T wr sy gg ow hr Sr rp R P cl (fun Sr1 r1 => g R0 pc T wr sy gg ow hr Sr1 r1 R P cl q)
theorem GoT.f (h : GoT S0 A B n N nd bh par ks S D E V M X Y C H F S1 D1 E1 V1 M1 X1 Y1 C1 H1 F1) (g : GoTF S0 A B n N nd bh par ks S1 D1 E1 V1 M1 X1 Y1 C1 H1 F1 e) : GoTF S0 A B n N nd bh par ks S D E V M X Y C H F e :=
  fun R0 pc T wr sy gg ow hr Sr rp R P cl q => h R0 pc T wr sy gg ow hr Sr rp R P cl (fun Sr1 r1 => g R0 pc T wr sy gg ow hr Sr1 r1 R P cl q)
/-- the reference's turn with an item -/
theorem r_turn_i {T wr : Nat} {R P : PS → Prop} (h : CPf S S0 A B n N nd bh par ks lv D m st E V M t ln lp X Y C H F VF TB) (hr : RSR S0 R0 A B n N nd bh par ks pc T wr sy g ow) (hc : C (D - 1) < bn N bh (Y (D - 1))) (hx : Itm N par Y D (C (D - 1) + 1)) (h11 : ks (C (D - 1) + 1) ≠ 11) (rp : RPf S Sr S0 R0 A B n sy N bh ks g ow D E V M X Y C H F) (cl : ClP A R P)
    (h1 : st < 3000 → wp_X12_begin (A 9) (nI (g (C (D - 1) + 1))) (hw S0 A ks X (H (D - 1))) (itR Sr R0 A g D st (C (D - 1) + 1)) P) (h0 : st = 3000 → ∀ pl, aI S0 16 (A 16) (C (D - 1) + 1 - 1) = nI pl → ∀ Sr1, RBad R0 Sr1 A (5, pl) → P Sr1) : P Sr := by
  have rp' := rp
  obtain ⟨b1, b2, b3, b4⟩ := rp
  have hcc := h
  obtain ⟨a1, a2, ⟨a3, a4⟩, a5, a6, a7, a8, a9, a10⟩ := h
  obtain ⟨x1, x2, x3⟩ := hx
  have lm := b1.lay hr.1
  obtain ⟨at1, gx, owx⟩ := hr.at x1 x2
  obtain ⟨pl, pl1, pl2, pl3, -⟩ := hr.pl x1 x2 h11
  have d201 := a4.2.2.2
  have hst := a5.2.1
  apply cl
  unfold PB
  rw [b2.2.1, if_neg (nI_nle (by omega) (by omega)), if_pos b2.1]
  rintro _ rfl
  rw [nI_pr a3]
  refine ⟨_, lm.f173, by rw [lm.n86]; exact vp_in_nI (by omega) (by omega), ?_⟩
  rw [nI_clamp (by omega)]
  rintro _ rfl
  have e86 : aI Sr 86 (A 86) (D - 1) = nI (g (C (D - 1) + 1)) := by rw [(b3 (D - 1) (by omega)).2.1, if_pos hc]
  rw [e86, if_neg (nI_ne_neg (by omega))]
  refine ⟨_, lm.f173, _, lm.f110, by rw [lm.n47]; exact vp_in_nI gx (by omega), by rw [lm.n86]; exact vp_in_nI (by omega) (by omega), ?_⟩
  rintro _ rfl
  rw [nI_clamp (by omega), b1.a rfl]
  have lm1 : LayM (wI Sr 86 (A 86) (D - 1) (aI R0 47 (A 47) (g (C (D - 1) + 1)))) A := lm.st rfl
  refine r_pstep lm1 gx (by simp only [fI_s, fI_sn, fL_s, fL_sn, aI_w, aI_wn, aL_w, aL_wn, fI_sL, fI_wI, fI_wL, fL_sI, fL_wI, fL_wL, aI_sI, aI_sL, aI_wL, aL_sI, aL_sL, aL_wI, fR_sI, fR_sL, fR_wI, fR_wL, aN_sI, aN_sL, aN_wI, aN_wL, ne_eq, Nat.reduceEqDiff, not_false_eq_true]; rw [b2.2.2.1]; exact hst.1) hst.2 (by simp only [fI_s, fI_sn, fL_s, fL_sn, aI_w, aI_wn, aL_w, aL_wn, fI_sL, fI_wI, fI_wL, fL_sI, fL_wI, fL_wL, aI_sI, aI_sL, aI_wL, aL_sI, aL_sL, aL_wI, fR_sI, fR_sL, fR_wI, fR_wL, aN_sI, aN_sL, aN_wI, aN_wL, ne_eq, Nat.reduceEqDiff, not_false_eq_true]; exact b2.1) (by simp only [fI_s, fI_sn, fL_s, fL_sn, aI_w, aI_wn, aL_w, aL_wn, fI_sL, fI_wI, fI_wL, fL_sI, fL_wI, fL_wL, aI_sI, aI_sL, aI_wL, aL_sI, aL_sL, aL_wI, fR_sI, fR_sL, fR_wI, fR_wL, aN_sI, aN_sL, aN_wI, aN_wL, ne_eq, Nat.reduceEqDiff, not_false_eq_true]; rw [b1.a rfl]; exact pl3) (fun s1 => ?_) (fun s0 => ?_)
  · simp only [fI_s, fI_sn, fL_s, fL_sn, aI_w, aI_wn, aL_w, aL_wn, fI_sL, fI_wI, fI_wL, fL_sI, fL_wI, fL_wL, aI_sI, aI_sL, aI_wL, aL_sI, aL_sL, aL_wI, fR_sI, fR_sL, fR_wI, fR_wL, aN_sI, aN_sL, aN_wI, aN_wL, ne_eq, Nat.reduceEqDiff, not_false_eq_true]
    rw [if_pos b2.1]
    refine ⟨_, lm.f175, by rw [lm.n88]; exact vp_in_nI (by omega) (by omega), ?_⟩
    rw [(b3 (D - 1) (by omega)).2.2.2.1]
    exact h1 s1
  · rw [if_neg (by simp only [fI_s, fI_sn, fL_s, fL_sn, aI_w, aI_wn, aL_w, aL_wn, fI_sL, fI_wI, fI_wL, fL_sI, fL_wI, fL_wL, aI_sI, aI_sL, aI_wL, aL_sI, aL_sL, aL_wI, fR_sI, fR_sL, fR_wI, fR_wL, aN_sI, aN_sL, aN_wI, aN_wL, ne_eq, Nat.reduceEqDiff, not_false_eq_true]; decide)]
    exact h0 s0 pl pl2 _ ⟨((b1.wI rfl).sI rfl).sI rfl, by simp only [fI_s, fI_sn, fL_s, fL_sn, aI_w, aI_wn, aL_w, aL_wn, fI_sL, fI_wI, fI_wL, fL_sI, fL_wI, fL_wL, aI_sI, aI_sL, aI_wL, aL_sI, aL_sL, aL_wI, fR_sI, fR_sL, fR_wI, fR_wL, aN_sI, aN_sL, aN_wI, aN_wL, ne_eq, Nat.reduceEqDiff, not_false_eq_true]; rfl, by simp only [fI_s, fI_sn, fL_s, fL_sn, aI_w, aI_wn, aL_w, aL_wn, fI_sL, fI_wI, fI_wL, fL_sI, fL_wI, fL_wL, aI_sI, aI_sL, aI_wL, aL_sI, aL_sL, aL_wI, fR_sI, fR_sL, fR_wI, fR_wL, aN_sI, aN_sL, aN_wI, aN_wL, ne_eq, Nat.reduceEqDiff, not_false_eq_true]⟩
theorem GoT.item (h : CPf S S0 A B n N nd bh par ks lv D m st E V M t ln lp X Y C H F VF TB) (hc : C (D - 1) < bn N bh (Y (D - 1))) (hx : Itm N par Y D (C (D - 1) + 1)) (h11 : ks (C (D - 1) + 1) ≠ 11) (hs : st < 3000)
    (hg : GoB S0 A B n N nd bh par ks (C (D - 1) + 1) (itS S A F bh D st (C (D - 1) + 1)) D E V M X Y (uq C (D - 1) (bh (C (D - 1) + 1))) H F S1 D1 E1 V1 M1 X1 Y1 C1 H1 F1) : GoT S0 A B n N nd bh par ks S D E V M X Y C H F S1 D1 E1 V1 M1 X1 Y1 C1 H1 F1 := by
  intro R0 pc' T wr sy gg ow hr Sr rp R P cl q
  refine r_turn_i h hr hc hx h11 rp cl (fun _ => ?_) (fun z => by omega)
  exact hg R0 pc' T wr sy gg ow hr _ (rp.item h hr hc hx) P q
theorem GoTF.item (h : CPf S S0 A B n N nd bh par ks lv D m st E V M t ln lp X Y C H F VF TB) (hc : C (D - 1) < bn N bh (Y (D - 1))) (hx : Itm N par Y D (C (D - 1) + 1)) (h11 : ks (C (D - 1) + 1) ≠ 11) (hk : Kd e) (hs : st < 3000)
    (hg : GoF S0 A B n N nd bh par ks (C (D - 1) + 1) (itS S A F bh D st (C (D - 1) + 1)) D E V M X Y (uq C (D - 1) (bh (C (D - 1) + 1))) H F e) : GoTF S0 A B n N nd bh par ks S D E V M X Y C H F e := by
  intro R0 pc' T wr sy gg ow hr Sr rp R P cl q
  refine r_turn_i h hr hc hx h11 rp cl (fun _ => ?_) (fun z => by omega)
  exact hg R0 pc' T wr sy gg ow hr _ (rp.item h hr hc hx) P (fun Sr1 rb => cl.out hk rb (q Sr1 rb))
theorem GoTF.step {pl : Nat} (h : CPf S S0 A B n N nd bh par ks lv D m st E V M t ln lp X Y C H F VF TB) (hc : C (D - 1) < bn N bh (Y (D - 1))) (hx : Itm N par Y D (C (D - 1) + 1)) (h11 : ks (C (D - 1) + 1) ≠ 11) (hs : st = 3000) (hp : aI S0 16 (A 16) (C (D - 1) + 1 - 1) = nI pl) (hpl : pl < 2 ^ 31) : GoTF S0 A B n N nd bh par ks S D E V M X Y C H F (5, pl) := by
  intro R0 pc' T wr sy gg ow hr Sr rp R P cl q
  refine r_turn_i h hr hc hx h11 rp cl (fun z => by omega) (fun _ pl' h' Sr1 rb => ?_)
  obtain ⟨pl2, z1, z2, _⟩ := hr.pl hx.1 hx.2.1 h11
  have hn := hr.2.1.2.2.2.1
  have e1 : nI pl' = nI pl := h'.symm.trans hp
  have rb2 : RBad R0 Sr1 A (5, pl) := ⟨rb.1, rb.2.1, rb.2.2.trans e1⟩
  exact cl.out (e := (5, pl)) (kdm (by decide) (by decide)) rb2 (q Sr1 rb2)
/-- the reference's turn at the end of a list -/
theorem r_turn_e {R P : PS → Prop} (h : CPf S S0 A B n N nd bh par ks lv D m st E V M t ln lp X Y C H F VF TB) (hm : LayM R0 A) (hc : C (D - 1) = bn N bh (Y (D - 1))) (rp : RPf S Sr S0 R0 A B n sy N bh ks g ow D E V M X Y C H F) (cl : ClP A R P)
    (h1 : wp_X12_leave (A 9) (nI (D - 1)) (if D - 1 = 0 then -1 else nI (g (X (D - 1)))) Sr P) : P Sr := by
  obtain ⟨b1, b2, b3, b4⟩ := rp
  obtain ⟨a1, a2, ⟨a3, a4⟩, a5, a6, a7, a8, a9, a10⟩ := h
  have lm := b1.lay hm
  have d201 := a4.2.2.2
  apply cl
  unfold PB
  rw [b2.2.1, if_neg (nI_nle (by omega) (by omega)), if_pos b2.1]
  rintro _ rfl
  rw [nI_pr a3]
  refine ⟨_, lm.f173, by rw [lm.n86]; exact vp_in_nI (by omega) (by omega), ?_⟩
  rw [nI_clamp (by omega)]
  rintro _ rfl
  have e86 : aI Sr 86 (A 86) (D - 1) = -1 := by rw [(b3 (D - 1) (by omega)).2.1, if_neg (by omega)]
  rw [e86, if_pos rfl]
  refine ⟨_, lm.f174, by rw [lm.n87]; exact vp_in_nI (by omega) (by omega), ?_⟩
  rw [(b3 (D - 1) (by omega)).1]
  exact h1
theorem GoT.leave (h : CPf S S0 A B n N nd bh par ks lv D m st E V M t ln lp X Y C H F VF TB) (hD : 2 ≤ D) (hc : C (D - 1) = bn N bh (Y (D - 1)))
    (hg : GoL S0 A B n N nd bh par ks S D E V M X Y C H F S1 D1 E1 V1 M1 X1 Y1 C1 H1 F1) : GoT S0 A B n N nd bh par ks S D E V M X Y C H F S1 D1 E1 V1 M1 X1 Y1 C1 H1 F1 := by
  intro R0 pc' T wr sy gg ow hr Sr rp R P cl q
  refine r_turn_e h hr.1 hc rp cl ?_
  rw [if_neg (by omega)]
  exact hg R0 pc' T wr sy gg ow hr Sr rp P q
theorem GoTF.leave (h : CPf S S0 A B n N nd bh par ks lv D m st E V M t ln lp X Y C H F VF TB) (hD : 2 ≤ D) (hc : C (D - 1) = bn N bh (Y (D - 1))) (hk : Kd e)
    (hg : GoLF S0 A B n N nd bh par ks S D E V M X Y C H F e) : GoTF S0 A B n N nd bh par ks S D E V M X Y C H F e := by
  intro R0 pc' T wr sy gg ow hr Sr rp R P cl q
  refine r_turn_e h hr.1 hc rp cl ?_
  rw [if_neg (by omega)]
  exact hg R0 pc' T wr sy gg ow hr Sr rp P (fun Sr1 rb => cl.out hk rb (q Sr1 rb))
end
end
