/-! The law's calls: write. -/
section
variable {S S1 : PS} {A T : Nat → Nat} {c n : Nat} {l l1 l2 : List Int32} {u j : Nat}
variable {E V M nd st t n : Nat} {vo ti le pc : Nat → Nat} {cs : Nat → Nat → Nat} {td co : Nat → Bool} {wp wz : Nat → Nat → Nat} {vb mt mu md : Nat → Nat} {od w : Nat → Int32}
theorem AscL.app (h1 : AscL l1) (h2 : AscL l2) : AscL (l1 ++ l2) := fun x hx => by
  rcases List.mem_append.mp hx with z | z
  · exact h1 x z
  · exact h2 x z
theorem AscL.nil : AscL [] := fun x hx => by cases hx
theorem AscL.cons {y : Int32} (h : bt y &&& 255 = bt y) (h2 : AscL l) : AscL (y :: l) := fun x hx => by
  rcases List.mem_cons.mp hx with z | z
  · rw [z]; exact h
  · exact h2 x z
theorem AscL.rep {y : Int32} (h : bt y &&& 255 = bt y) : AscL (List.replicate n y) := fun x hx => by
  rw [(List.mem_replicate.mp hx).2]; exact h
theorem asc_n : ∀ k : Fin 128, bt (nI k.val) &&& 255 = bt (nI k.val) := by decide +kernel
theorem asc_k {k : Nat} (h : k < 128) : bt (nI k) &&& 255 = bt (nI k) := asc_n ⟨k, h⟩
theorem asc_num {v : Nat} : ∀ k, AscL (dgu v k) := by
  intro k
  induction k with
  | zero => exact AscL.nil
  | succ k ih => exact AscL.cons (asc_k (by omega)) ih
theorem asc_pit {q : Nat} : AscL (pitL q) := by
  unfold pitL
  refine AscL.app (AscL.app (AscL.cons (asc_k (by omega)) AscL.nil) ?_) ?_
  · split
    · exact AscL.rep (by decide +kernel)
    · exact AscL.rep (by decide +kernel)
  · split
    · exact AscL.rep (by decide +kernel)
    · exact AscL.rep (by decide +kernel)
theorem asc_ch {f : Nat → Nat} : ∀ k, AscL (chL f k) := by
  intro k
  induction k with
  | zero => exact AscL.nil
  | succ k ih =>
    refine AscL.app ih (AscL.cons ?_ asc_pit)
    split <;> decide +kernel
theorem asc_ev {e : Nat} : AscL (evL le pc cs td e) := by
  unfold evL
  refine AscL.app (AscL.app ?_ (AscL.cons (by decide +kernel) (asc_num _))) ?_
  · unfold tonL
    split
    · exact AscL.cons (by decide +kernel) AscL.nil
    · split
      · exact asc_pit
      · exact AscL.app (asc_ch _) (AscL.cons (by decide +kernel) AscL.nil)
  · split
    · exact AscL.cons (by decide +kernel) AscL.nil
    · exact AscL.nil
theorem asc_gp : AscL (gpL l) := by
  unfold gpL
  split
  · exact AscL.nil
  · exact AscL.cons (by decide +kernel) AscL.nil
theorem asc_vev : ∀ e, AscL (vEv vo le pc cs td vb u e) := by
  intro e
  induction e with
  | zero =>
    rw [vEv]; unfold vbL
    split
    · exact AscL.nil
    · exact AscL.cons (by decide +kernel) (AscL.cons (by decide +kernel) (asc_num _))
  | succ e ih =>
    rw [vEv]
    split
    · exact AscL.app (AscL.app ih asc_gp) asc_ev
    · exact ih
theorem bt_of_byt {x : Int32} (h : Byt x) : bt x = x := by
  have e : bt x = vp_nar .byte (vp_nar .byte x) := rfl
  rw [e, h.all.1, h.all.1]
theorem asc_sb (hd : Dok E V M nd st t n vo ti le pc cs td co wp wz vb mt mu md od w) {e : Nat} (he : e < E) (hj : j < 3) : ∀ k, k ≤ wz e j → AscL (sbL w (wp e j) k) := by
  obtain ⟨⟨b1, b2⟩, b3, _⟩ := (hd.2.1 e he).2.2.2 j hj
  intro k
  induction k with
  | zero => intro _; exact AscL.nil
  | succ k ih =>
    intro hk
    refine AscL.app (ih (by omega)) (AscL.cons ?_ AscL.nil)
    have by1 := hd.2.2.2.2 (wp e j + k) (by omega)
    rw [bt_of_byt by1]
    exact by1.syl (b3 k (by omega))
theorem asc_wd (hd : Dok E V M nd st t n vo ti le pc cs td co wp wz vb mt mu md od w) (hj : j < 3) : ∀ e, e ≤ E → AscL (wdL vo pc co wp wz w u j e) := by
  intro e
  induction e with
  | zero => intro _; exact AscL.nil
  | succ e ih =>
    intro he
    rw [wdL]
    split
    · refine AscL.app (AscL.app (ih (by omega)) asc_gp) ?_
      unfold syL
      split
      · exact AscL.cons (by decide +kernel) AscL.nil
      · exact asc_sb hd (by omega) hj _ (Nat.le_refl _)
    · exact ih (by omega)
theorem asc_vvr (hd : Dok E V M nd st t n vo ti le pc cs td co wp wz vb mt mu md od w) : ∀ j, j ≤ 3 → AscL (vVr E V vo le pc cs td co wp wz vb w u j) := by
  intro j
  induction j with
  | zero => intro _; exact asc_vev E
  | succ j ih =>
    intro hj
    rw [vVr]
    split
    · exact ih (by omega)
    · refine AscL.app (AscL.app (ih (by omega)) asc_gp) ?_
      unfold vsL
      refine AscL.app (AscL.app ?_ (asc_wd hd (by omega) _ (lsu_le E))) (AscL.cons (by decide +kernel) AscL.nil)
      exact AscL.cons (by decide +kernel) (AscL.cons (by decide +kernel) (AscL.cons (asc_k (by omega)) (AscL.cons (by decide +kernel) (AscL.cons (by decide +kernel) AscL.nil))))
theorem asc_to (hd : Dok E V M nd st t n vo ti le pc cs td co wp wz vb mt mu md od w) : ∀ u, AscL (toL E V vo le pc cs td co wp wz vb w u) := by
  intro u
  induction u with
  | zero => exact AscL.nil
  | succ u ih =>
    rw [toL]
    refine AscL.app ih (AscL.app ?_ (asc_vvr hd 3 (Nat.le_refl _)))
    unfold spL
    split
    · split
      · exact AscL.cons (by decide +kernel) (AscL.cons (by decide +kernel) AscL.nil)
      · exact AscL.nil
    · exact AscL.cons (by decide +kernel) (AscL.cons (by decide +kernel) (AscL.cons (by decide +kernel) AscL.nil))
theorem asc_al (hd : Dok E V M nd st t n vo ti le pc cs td co wp wz vb mt mu md od w) : AscL (alL E V vo le pc cs td co wp wz vb w) := by
  unfold alL
  refine AscL.app (asc_to hd V) ?_
  split
  · exact AscL.cons (by decide +kernel) (AscL.cons (by decide +kernel) AscL.nil)
  · exact AscL.nil
/-! cells that stay -/
theorem Cor.sm (h : Cor S A T) (ex : Ext S S1) (hs : ∀ r, r ≤ 119 → r ≠ 1 → r ≠ 14 → r ≠ 4 → r ≠ 15 → Same S S1 (A r)) : Cor S1 A T := by
  obtain ⟨⟨h1, h2⟩, ⟨h3, h4, h5, h6⟩, ⟨h7, h8, h9⟩, m, F, h10⟩ := h
  have an : ∀ r, r ≤ 119 → r ≠ 1 → r ≠ 14 → aN S1 (A r) = aN S (A r) := fun r a b c => (ex _ (h1 r a b c).1).2.2
  have s8 := hs 8 (by omega) (by omega) (by omega) (by omega) (by omega)
  refine ⟨⟨fun r a b c => (h1 r a b c).tr ex, fun r hr => ⟨(h2 r hr).1.tr ex, (h2 r hr).2⟩⟩, ⟨?_, ⟨fun t ht z => ?_, fun t ht => ?_⟩, ⟨fun t ht => ?_, fun t ht => ?_⟩, ⟨fun t ht => ?_, fun t ht => ?_⟩⟩, ⟨?_, ?_, ?_⟩, m, F, ?_⟩
  · unfold LayO; rw [s8.fR, s8.fR, s8.fR, s8.fR, s8.fR, s8.fR, an 39 (by omega) (by omega) (by omega)]; exact h3
  · have q : ∀ t, t ∈ LayCf → t.2.1 ≤ 119 ∧ t.2.1 ≠ 1 ∧ t.2.1 ≠ 14 ∧ t.2.1 ≠ 4 ∧ t.2.1 ≠ 15 := by decide
    obtain ⟨a, b, c, d, e⟩ := q t ht
    rw [(hs t.2.1 a b c d e).fR]; exact h4.1 t ht z
  · have q : ∀ t, t ∈ LayCn → t.1 ≤ 119 ∧ t.1 ≠ 1 ∧ t.1 ≠ 14 := by decide
    obtain ⟨a, b, c⟩ := q t ht
    rw [an t.1 a b c]; exact h4.2 t ht
  · have q : ∀ t, t ∈ LaySf → t.2.1 ≤ 119 ∧ t.2.1 ≠ 1 ∧ t.2.1 ≠ 14 ∧ t.2.1 ≠ 4 ∧ t.2.1 ≠ 15 := by decide
    obtain ⟨a, b, c, d, e⟩ := q t ht
    rw [(hs t.2.1 a b c d e).fR]; exact h5.1 t ht
  · have q : ∀ t, t ∈ LaySn → t.1 ≤ 119 ∧ t.1 ≠ 1 ∧ t.1 ≠ 14 := by decide
    obtain ⟨a, b, c⟩ := q t ht
    rw [an t.1 a b c]; exact h5.2 t ht
  · have q : ∀ t, t ∈ LayMf → t.2.1 ≤ 119 ∧ t.2.1 ≠ 1 ∧ t.2.1 ≠ 14 ∧ t.2.1 ≠ 4 ∧ t.2.1 ≠ 15 := by decide
    obtain ⟨a, b, c, d, e⟩ := q t ht
    rw [(hs t.2.1 a b c d e).fR]; exact h6.1 t ht
  · have q : ∀ t, t ∈ LayMn → t.1 ≤ 119 ∧ t.1 ≠ 1 ∧ t.1 ≠ 14 := by decide
    obtain ⟨a, b, c⟩ := q t ht
    rw [an t.1 a b c]; exact h6.2 t ht
  · rw [s8.fR]; exact h7
  · rw [s8.fR]; exact h8
  · rw [an 119 (by omega) (by omega) (by omega)]; exact h9
  · have s13 := hs 13 (by omega) (by omega) (by omega) (by omega) (by omega)
    exact ⟨fun k hk => ⟨by rw [s13.aR]; exact (h10.1 k hk).1, (h10.1 k hk).2.tr ex⟩, fun k a b => by rw [s13.aR]; exact h10.2.1 k a b, h10.2.2.1, h10.2.2.2.1, h10.2.2.2.2⟩
theorem Drf.sm (h : Drf S A E V M nd st t n vo ti le pc cs td co wp wz vb mt mu md od w) (lm : LayM S1 A) (s9 : Same S S1 (A 9)) (hs : ∀ r, 101 ≤ r → r ≤ 117 → Same S S1 (A r)) : Drf S1 A E V M nd st t n vo ti le pc cs td co wp wz vb mt mu md od w := by
  unfold Drf Dre at h ⊢
  rw [s9.fI, s9.fI, s9.fI, s9.fI, s9.fI, s9.fL, (hs 101 (by omega) (by omega)).aI, (hs 102 (by omega) (by omega)).aI, (hs 103 (by omega) (by omega)).aI, (hs 104 (by omega) (by omega)).aI, (hs 105 (by omega) (by omega)).aI, (hs 106 (by omega) (by omega)).aL, (hs 107 (by omega) (by omega)).aL, (hs 108 (by omega) (by omega)).aI, (hs 109 (by omega) (by omega)).aI, (hs 110 (by omega) (by omega)).aI, (hs 111 (by omega) (by omega)).aI, (hs 112 (by omega) (by omega)).aI, (hs 113 (by omega) (by omega)).aI, (hs 114 (by omega) (by omega)).aL, (hs 115 (by omega) (by omega)).aL, (hs 116 (by omega) (by omega)).aI, (hs 117 (by omega) (by omega)).aI]
  exact ⟨lm, h.2⟩
theorem Pr.mix {P : Nat} : Pr S (mix A T) P c l ↔ Pr S A P c l := by unfold Pr; rw [mix_n (r := 4) rfl, mix_n (r := 15) rfl]
theorem a_write (iv : Inv S A T c) : ∃ c', (c ≤ c' ∧ c' ≤ 7) ∧ ∀ K : PS → Prop, (∀ S1, Inv S1 A T c' → K S1) → wp_X11_write (A 8) (dif c c') S (fun r95 S94 => wp_X12_write (A 9) S94 (fun r98 S97 => if r95 = r98 then K S97 else False)) := by
  obtain ⟨cr, ⟨n', wt⟩, ft, ⟨E, V, M, nd, st, t, n, vo, ti, le, pc, cs, td, co, wp, wz, vb, mt, mu, md, od, w, hd, hc, hr⟩, P, lo, pr, _, _, _, _⟩ := id iv
  have c7 := pr.2.1.2.2
  have hL := alL_len hd
  refine ⟨mxl c (alL E V vo le pc cs td co wp wz vb w).length, ⟨mxl_ge, mxl_7 c7⟩, fun K hK => ?_⟩
  have e4 : mix A T 4 = A 4 := mix_n rfl
  have e7 : mix A T 7 = T 7 := mix_s rfl
  have pa : PrA S (mix A T) := ⟨by rw [e4]; exact cr.1.1 4 (by omega) (by omega) (by omega), by rw [mix_n (r := 15) rfl]; exact cr.1.1 15 (by omega) (by omega) (by omega), fun r hr => by rw [mix_s hr]; exact (cr.1.2 r hr).1⟩
  unfold wp_X11_write
  refine ⟨_, cr.2.2.1.2.1, _, cr.2.2.1.1, _, ⟨Nat.le_refl _, Nat.le_refl _⟩, ?_⟩
  rw [← e4, ← e7]
  refine q_print pa hc hd ⟨Kws.rf, Pr.mix.mpr pr⟩ hL (by unfold Bu; rw [show mxl c [].length = c from mxl_self (Nat.zero_le _)]; exact Dle.rf) (fun S1 pr1 => ?_)
  obtain ⟨P1, kw, pr2⟩ := pr1
  have pr3 := Pr.mix.mp pr2
  have sm : ∀ b r, Rf S b r → r ≠ 4 → r ≠ 15 → r ≠ 14 → Same S S1 b := fun b r hb a1 a2 a3 => kw.2 b hb.1 (PrW.no pa hb a1 a2 a3)
  have hs : ∀ r, r ≤ 119 → r ≠ 1 → r ≠ 14 → r ≠ 4 → r ≠ 15 → Same S S1 (A r) := fun r a b d e f => sm _ r (cr.1.1 r a b d) e f d
  have cr1 := cr.sm kw.1 hs
  have hr1 : Drf S1 A E V M nd st t n vo ti le pc cs td co wp wz vb mt mu md od w := hr.sm cr1.2.1.2.2.2 (hs 9 (by omega) (by omega) (by omega) (by omega) (by omega)) (fun r a b => hs r (by omega) (by omega) (by omega) (by omega) (by omega))
  have hc1 : Dcl S1 (mix A T) E V M nd st t n vo ti le pc cs td co wp wz vb mt mu md od w := hc.kw pa kw
  refine r_write hr1 hd (fun S2 f2 rp => ?_)
  rw [if_pos rfl]
  have k2 : Keep (fun j => jAs j || jPr j) rPr S1 S2 := (Keep.rf.sI rfl).tr (rp.1.mono (fun j h => by cases hj : jPr j; rfl; rw [hj, Bool.or_true] at h; cases h) (fun _ h => h))
  have s0 := hs 0 (by omega) (by omega) (by omega) (by omega) (by omega)
  have s8 := hs 8 (by omega) (by omega) (by omega) (by omega) (by omega)
  have s9 := hs 9 (by omega) (by omega) (by omega) (by omega) (by omega)
  have s39 := hs 39 (by omega) (by omega) (by omega) (by omega) (by omega)
  have s40 := hs 40 (by omega) (by omega) (by omega) (by omega) (by omega)
  have wt1 : Wtg S1 A n' := by unfold Wtg; rw [s8.fI, s9.fI, s39.aI, s40.aI]; exact wt
  refine hK S2 ⟨cr1.se k2.1, ⟨n', wt1.kp k2 rfl rfl rfl rfl⟩, ?_, ⟨E, V, M, nd, st, t, n, vo, ti, le, pc, cs, td, co, wp, wz, vb, mt, mu, md, od, w, hd, hc1.se k2.1 (fun j hj => k2.2.1 j ?_) (fun r hr => k2.2.2 r ?_), hr1.kp k2 (fun j a b => ?_) (fun r a b => ?_)⟩, P1, alL E V vo le pc cs td co wp wz vb w, pr3.kp k2 rfl rfl, asc_al hd, hL, rp.2.1, rp.2.2.1⟩
  · rw [(k2.2.1 104 rfl).1, (k2.2.1 0 rfl).1, s9.fI, s0.fI]; exact ft
  · unfold jAs jPr; rw [Bool.or_eq_false_iff, decide_eq_false_iff_not, decide_eq_false_iff_not]; omega
  · unfold rPr; rw [decide_eq_false_iff_not]; omega
  · unfold jAs jPr; rw [Bool.or_eq_false_iff, decide_eq_false_iff_not, decide_eq_false_iff_not]; omega
  · unfold rPr; rw [decide_eq_false_iff_not]; omega
end
