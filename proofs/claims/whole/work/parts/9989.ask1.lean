/-! Events, the walk, what sounds. -/
/-- tied together, from place n on -/
def tcl (v : Nat) (vo le : Nat → Nat) (td : Nat → Bool) : Nat → Nat → Nat
  | 0, _ => 0
  | k + 1, n => if vo n = v then (if td n = true then le n + tcl v vo le td k (n + 1) else le n) else tcl v vo le td k (n + 1)
section
variable {S S1 Sr Sr1 : PS} {A : Nat → Nat}
variable {E V M nd st t n : Nat} {vo ti le pc : Nat → Nat} {cs : Nat → Nat → Nat} {td co : Nat → Bool} {wp wz : Nat → Nat → Nat} {vb mt mu md : Nat → Nat} {od w : Nat → Int32}
theorem c_tied {Q : Int64 → PS → Prop} {i : Nat} (hc : Dcl S A E V M nd st t n vo ti le pc cs td co wp wz vb mt mu md od w) (hd : Dok E V M nd st t n vo ti le pc cs td co wp wz vb mt mu md od w) (hi : i < E) (hQ : Q (if co i = true then 0 else lN (tcl (vo i) vo le td (E - i) i)) S) : wp_X8_tiedLength (A 7) (nI i) S Q := by
  have hl := hc.1
  have hE := hd.1.1
  have h70 := hc.2.1.1
  have ci : (nI i).toNatClampNeg = i := nI_clamp (by omega)
  unfold wp_X8_tiedLength
  refine s_eholds h70 hi hE ?_
  rw [if_neg (by decide)]
  have vi : ∀ {r k : Nat}, r = 300 → k < E → vp_in (nI k) r := fun h hk => by rw [h]; exact vp_in_nI (by omega) (by omega)
  refine ⟨_, hl.f76, vi hl.n33 hi, ?_⟩
  rw [ci, (hc.2.2.1 i hi).2.2.2.2.2.1]
  by_cases z : co i = true
  · rw [if_pos z] at hQ
    rw [if_neg (by rw [bI_z, z]; decide)]
    exact hQ
  · rw [if_neg z] at hQ
    rw [if_pos (by rw [bI_z]; exact Bool.eq_false_iff.mpr z)]
    intro P hP
    have key : ∀ j m a, m + j = E → a + tcl (vo i) vo le td j m = tcl (vo i) vo le td (E - i) i → P (lN a) (nI m) S := by
      intro j
      induction j with
      | zero =>
        intro m a hm ha
        apply hP
        rw [h70, if_pos (nI_le (by omega) (by omega))]
        rw [tcl, Nat.add_zero] at ha
        rw [ha]; exact hQ
      | succ j ih =>
        intro m a hm ha
        apply hP
        have cm : (nI m).toNatClampNeg = m := nI_clamp (by omega)
        have dm := hc.2.2.1 m (by omega)
        have vm := (hd.2.1 m (by omega)).1.1
        have vi' := (hd.2.1 i hi).1.1
        have hV := hd.1.2.2.1
        rw [h70, if_neg (nI_ge (by omega) (by omega))]
        refine ⟨_, hl.f71, vi hl.n28 (by omega), _, hl.f71, vi hl.n28 hi, ?_⟩
        intro K hK
        rw [cm, dm.1, (hc.2.2.1 i hi).1]
        rw [tcl] at ha
        by_cases c : vo m = vo i
        · rw [if_pos c] at ha
          rw [if_pos (by rw [c])]
          refine ⟨_, hl.f73, vi hl.n30 (by omega), ?_⟩
          rintro _ rfl
          refine ⟨_, hl.f75, vi hl.n32 (by omega), ?_⟩
          rw [dm.2.2.2.2.1, dm.2.2.1, lN_add]
          by_cases d : td m = true
          · rw [if_pos d] at ha
            rw [if_neg (by rw [bI_z, d]; decide)]
            apply hK
            rintro _ rfl
            rw [nI_1]
            exact ih (m + 1) (a + le m) (by omega) (by omega)
          · rw [if_neg d] at ha
            rw [if_pos (by rw [bI_z]; exact Bool.eq_false_iff.mpr d), ha]
            exact hQ
        · rw [if_neg c] at ha
          rw [if_neg (by rw [nI_eq (by omega) (by omega)]; exact c)]
          apply hK
          rintro _ rfl
          rw [nI_1]
          exact ih (m + 1) a (by omega) ha
    exact key (E - i) i 0 (by omega) (by omega)
theorem r_behind {Q : Int32 → PS → Prop} {e : Nat} (hr : Drf Sr A E V M nd st t n vo ti le pc cs td co wp wz vb mt mu md od w) (hd : Dok E V M nd st t n vo ti le pc cs td co wp wz vb mt mu md od w) (he : e < E) (h0 : td e = false → Q (-1) Sr)
    (h1 : td e = true → ∀ o, e < o → o < E → vo o = vo e → tcl (vo e) vo le td (E - (e + 1)) (e + 1) = tcl (vo e) vo le td (E - o) o → Q (nI o) Sr) : wp_X12_behind (A 9) (nI e) Sr Q := by
  have lm := hr.1
  have hE := hd.1.1
  have ce : (nI e).toNatClampNeg = e := nI_clamp (by omega)
  have vi : ∀ {r k : Nat}, r = 300 → k < E → vp_in (nI k) r := fun h hk => by rw [h]; exact vp_in_nI (by omega) (by omega)
  have de := (hr.2.2.1 e he).1
  unfold wp_X12_behind
  rintro _ rfl
  intro P hP
  by_cases d : td e = true
  · have nz : ¬ aI Sr 104 (A 104) e = 0 := by rw [de.2.2.1, bI_z, d]; decide
    have fin : ∀ o, (Q (nI o) Sr) → (∃ b8, fR Sr 192 (A 9) = some b8 ∧ (vp_in (nI e) (aN Sr b8) ∧ (if aI Sr 104 b8 (nI e).toNatClampNeg = 0 then Q (-1) Sr else Q (nI o) Sr))) := fun o ho => by
      refine ⟨_, lm.f192, vi lm.n104 he, ?_⟩
      rw [ce, if_neg nz]; exact ho
    have key : ∀ j o1, o1 + j = E → e < o1 → (∃ o, o1 ≤ o ∧ o < E ∧ vo o = vo e) → tcl (vo e) vo le td (E - (e + 1)) (e + 1) = tcl (vo e) vo le td (E - o1) o1 → P (nI o1) Sr := by
      intro j
      induction j with
      | zero =>
        intro o1 ho h2 h3
        obtain ⟨o, a1, a2, _⟩ := h3
        omega
      | succ j ih =>
        intro o1 ho h2 h3 h4
        apply hP
        refine ⟨_, lm.f192, vi lm.n104 he, ?_⟩
        intro K hK
        rw [ce, if_neg nz, hr.2.1.1, if_neg (nI_ge (by omega) (by omega))]
        refine ⟨_, lm.f190, vi lm.n102 (by omega), _, lm.f190, vi lm.n102 he, ?_⟩
        have vo1 := (hd.2.1 o1 (by omega)).1.1
        have voe := (hd.2.1 e he).1.1
        have hV := hd.1.2.2.1
        rw [nI_clamp (by omega), (hr.2.2.1 o1 (by omega)).1.1, de.1]
        by_cases c : vo o1 = vo e
        · rw [if_pos (by rw [c])]
          apply hK
          exact fin o1 (h1 d o1 h2 (by omega) c h4)
        · rw [if_neg (by rw [nI_eq (by omega) (by omega)]; exact c)]
          rintro _ rfl
          rw [nI_1]
          refine ih (o1 + 1) (by omega) (by omega) ?_ ?_
          · obtain ⟨o, a1, a2, a3⟩ := h3
            refine ⟨o, ?_, a2, a3⟩
            rcases Nat.lt_or_ge o1 o with z | z
            · omega
            · exact absurd (by rw [show o1 = o by omega]; exact a3) c
          · rw [h4, show E - o1 = (E - (o1 + 1)) + 1 by omega, tcl, if_neg c]
    obtain ⟨o, a1, a2, a3⟩ := (hd.2.1 e he).2.2.1 d
    rw [nI_1]
    exact key (E - (e + 1)) (e + 1) (by omega) (by omega) ⟨o, by omega, a2, a3⟩ rfl
  · have d' : td e = false := Bool.eq_false_iff.mpr d
    have z : aI Sr 104 (A 104) e = 0 := by rw [de.2.2.1, bI_z]; exact d'
    apply hP
    refine ⟨_, lm.f192, vi lm.n104 he, ?_⟩
    intro K hK
    rw [ce, if_pos z]
    apply hK
    refine ⟨_, lm.f192, vi lm.n104 he, ?_⟩
    rw [ce, if_pos z]
    exact h0 d'
def eAn (E : Nat) (vo ti le pc : Nat → Nat) (td co : Nat → Bool) (i k : Nat) : Int64 := if k = 0 then (nI (vo i)).toInt64 else if k = 1 then (nI (pc i)).toInt64 else if k = 2 then (if td i = true then 1 else 0) else if k = 3 then (if co i = true then 1 else 0) else if k = 4 then lN (ti i) else if k = 5 then lN (le i) else if co i = true then 0 else lN (tcl (vo i) vo le td (E - i) i)
theorem bI_if {b : Bool} {α : Type} {x y : α} : (if bI b = 0 then x else y) = (if b = true then y else x) := by cases b <;> rfl
theorem c_event {Q : Int64 → PS → Prop} {QX : String → PS → Prop} {p p2 : Int32} (hc : Dcl S A E V M nd st t n vo ti le pc cs td co wp wz vb mt mu md od w) (hd : Dok E V M nd st t n vo ti le pc cs td co wp wz vb mt mu md od w) (h94 : fR S 94 (A 8) = some (A 7)) (h1 : ∀ i k, p = nI i → i < E → p2 = nI k → k ≤ 6 → Q (eAn E vo ti le pc td co i k) S) (h0 : (∀ i, i < E → p ≠ nI i) → QX "java/lang/IndexOutOfBoundsException" S) (h2 : ∀ i, p = nI i → i < E → (∀ k, k ≤ 6 → p2 ≠ nI k) → QX "java/lang/IllegalArgumentException" S) : wp_X11_event (A 8) p p2 S Q QX := by
  have hl := hc.1
  have hE := hd.1.1
  unfold wp_X11_event
  refine c_req hc h94 hE (fun i hp hi => ?_) h0
  subst hp
  have vi : ∀ {r : Nat}, r = 300 → vp_in (nI i) r := fun h => by rw [h]; exact vp_in_nI (by omega) (by omega)
  have ci : (nI i).toNatClampNeg = i := nI_clamp (by omega)
  have di := hc.2.2.1 i hi
  by_cases e0 : p2 = 0
  · rw [if_pos e0]; refine ⟨_, h94, _, hl.f71, vi hl.n28, ?_⟩; rw [ci, di.1]; exact h1 i 0 rfl hi e0 (by omega)
  rw [if_neg e0]
  by_cases e1 : p2 = 1
  · rw [if_pos e1]; refine ⟨_, h94, ?_⟩; exact c_pin hc hd hi (h1 i 1 rfl hi e1 (by omega))
  rw [if_neg e1]
  by_cases e2 : p2 = 2
  · rw [if_pos e2]; refine ⟨_, h94, _, hl.f75, vi hl.n32, ?_⟩
    rw [ci, di.2.2.2.2.1, bI_if]
    have := h1 i 2 rfl hi e2 (by omega)
    unfold eAn at this
    rw [if_neg (by decide), if_neg (by decide), if_pos rfl] at this
    by_cases z : td i = true
    · rw [if_pos z] at this ⊢; exact this
    · rw [if_neg z] at this ⊢; exact this
  rw [if_neg e2]
  by_cases e3 : p2 = 3
  · rw [if_pos e3]; refine ⟨_, h94, _, hl.f76, vi hl.n33, ?_⟩
    rw [ci, di.2.2.2.2.2.1, bI_if]
    have := h1 i 3 rfl hi e3 (by omega)
    unfold eAn at this
    rw [if_neg (by decide), if_neg (by decide), if_neg (by decide), if_pos rfl] at this
    by_cases z : co i = true
    · rw [if_pos z] at this ⊢; exact this
    · rw [if_neg z] at this ⊢; exact this
  rw [if_neg e3]
  by_cases e4 : p2 = 4
  · rw [if_pos e4]; refine ⟨_, h94, _, hl.f72, vi hl.n29, ?_⟩; rw [ci, di.2.1]; exact h1 i 4 rfl hi e4 (by omega)
  rw [if_neg e4]
  by_cases e5 : p2 = 5
  · rw [if_pos e5]; refine ⟨_, h94, _, hl.f73, vi hl.n30, ?_⟩; rw [ci, di.2.2.1]; exact h1 i 5 rfl hi e5 (by omega)
  rw [if_neg e5]
  by_cases e6 : p2 = 6
  · rw [if_pos e6]; refine ⟨_, h94, ?_⟩; exact c_tied hc hd hi (h1 i 6 rfl hi e6 (by omega))
  rw [if_neg e6]
  refine h2 i rfl hi (fun k hk e => ?_)
  have hh : k = 0 ∨ k = 1 ∨ k = 2 ∨ k = 3 ∨ k = 4 ∨ k = 5 ∨ k = 6 := by omega
  rcases hh with rfl | rfl | rfl | rfl | rfl | rfl | rfl
  · exact e0 e
  · exact e1 e
  · exact e2 e
  · exact e3 e
  · exact e4 e
  · exact e5 e
  · exact e6 e
theorem r_event6 {Q : Int64 → PS → Prop} {p p2 : Int32} (hr0 : Drf Sr A E V M nd st t n vo ti le pc cs td co wp wz vb mt mu md od w) (hd : Dok E V M nd st t n vo ti le pc cs td co wp wz vb mt mu md od w) (h1 : ∀ i k, p = nI i → i < E → p2 = nI k → k ≤ 6 → Q (eAn E vo ti le pc td co i k) (sI Sr 96 (A 9) 0)) (h0 : (∀ i, i < E → p ≠ nI i) → Q 0 (sI Sr 96 (A 9) 1)) (h2 : ∀ i, p = nI i → i < E → (∀ k, k ≤ 6 → p2 ≠ nI k) → Q 0 (sI Sr 96 (A 9) 2)) : wp_X12_event_ (A 9) p p2 Sr Q := by
  have hE := hd.1.1
  unfold wp_X12_event_
  refine r_isEv hr0 hE (fun i hp hi => ?_) (fun hn => ?_)
  · subst hp
    intro K hK
    rw [if_neg (by decide)]
    refine in_n (a := 0) (b := 6) rfl rfl (by omega) (by omega) (fun k hp2 _ hk => ?_) (fun hn => ?_)
    · rw [if_neg (by decide)]
      apply hK
      rintro _ rfl
      have hr := hr0.s96 (v := 0)
      have lm := hr.1
      have h1' := h1 i k rfl hi hp2 hk
      rw [fI_s, if_pos (by decide)]
      generalize sI Sr 96 (A 9) 0 = S7 at *
      clear hK
      have vi : ∀ {r k : Nat}, r = 300 → k < E → vp_in (nI k) r := fun h hk => by rw [h]; exact vp_in_nI (by omega) (by omega)
      have ci : (nI i).toNatClampNeg = i := nI_clamp (by omega)
      have di := (hr.2.2.1 i hi).1
      unfold eAn at h1'
      have pk : ∀ {a : Nat}, a ≤ 6 → p2 = nI a → k = a := fun ha e => by rw [hp2] at e; exact (nI_eq (by omega) (by omega)).mp e
      by_cases e6 : p2 = 6
      · rw [if_pos e6]
        have := pk (a := 6) (by omega) e6
        subst this
        rw [if_neg (by decide), if_neg (by decide), if_neg (by decide), if_neg (by decide), if_neg (by decide), if_neg (by decide)] at h1'
        refine ⟨_, lm.f193, vi lm.n105 hi, ?_⟩
        intro K2 hK2
        rw [ci, di.2.2.2.1, bI_if]
        by_cases z : co i = true
        · rw [if_pos z] at h1' ⊢
          apply hK2
          intro P hP
          apply hP
          rw [if_pos rfl]; exact h1'
        · rw [if_neg z] at h1' ⊢
          apply hK2
          intro P hP
          have key : ∀ j m a, E - m ≤ j → m < E → vo m = vo i → a + tcl (vo i) vo le td (E - m) m = tcl (vo i) vo le td (E - i) i → P (lN a) (nI m) S7 := by
            intro j
            induction j with
            | zero => intro m a hm h2; omega
            | succ j ih =>
              intro m a hm h2 h3 h4
              apply hP
              rw [if_neg (nI_ne_neg (by omega))]
              refine ⟨_, lm.f195, vi lm.n107 h2, ?_⟩
              rintro _ rfl
              rw [nI_clamp (by omega), (hr.2.2.1 m h2).1.2.2.2.2.2, lN_add]
              rw [show E - m = (E - (m + 1)) + 1 by omega, tcl, if_pos h3] at h4
              refine r_behind hr hd h2 (fun d => ?_) (fun d o o1 o2 o3 o4 => ?_)
              · rw [d, if_neg (by decide)] at h4
                apply hP
                rw [if_pos rfl, h4]; exact h1'
              · rw [if_pos d] at h4
                rw [h3] at o4
                exact ih o (a + le m) (by omega) o2 (o3.trans h3) (by omega)
          exact key (E - i) i 0 (by omega) hi rfl (by omega)
      rw [if_neg e6]
      by_cases e0 : p2 = 0
      · rw [if_pos e0]
        have := pk (a := 0) (by omega) e0
        subst this
        refine ⟨_, lm.f190, vi lm.n102 hi, ?_⟩
        rw [ci, di.1]; exact h1'
      rw [if_neg e0]
      by_cases e1 : p2 = 1
      · rw [if_pos e1]
        have := pk (a := 1) (by omega) e1
        subst this
        refine ⟨_, lm.f191, vi lm.n103 hi, ?_⟩
        rw [ci, di.2.1]; exact h1'
      rw [if_neg e1]
      by_cases e2 : p2 = 2
      · rw [if_pos e2]
        have := pk (a := 2) (by omega) e2
        subst this
        rw [if_neg (by decide), if_neg (by decide), if_pos rfl] at h1'
        refine ⟨_, lm.f192, vi lm.n104 hi, ?_⟩
        rw [ci, di.2.2.1, bI_if]
        by_cases z : td i = true
        · rw [if_pos z] at h1' ⊢; exact h1'
        · rw [if_neg z] at h1' ⊢; exact h1'
      rw [if_neg e2]
      by_cases e3 : p2 = 3
      · rw [if_pos e3]
        have := pk (a := 3) (by omega) e3
        subst this
        rw [if_neg (by decide), if_neg (by decide), if_neg (by decide), if_pos rfl] at h1'
        refine ⟨_, lm.f193, vi lm.n105 hi, ?_⟩
        rw [ci, di.2.2.2.1, bI_if]
        by_cases z : co i = true
        · rw [if_pos z] at h1' ⊢; exact h1'
        · rw [if_neg z] at h1' ⊢; exact h1'
      rw [if_neg e3]
      by_cases e4 : p2 = 4
      · rw [if_pos e4]
        have := pk (a := 4) (by omega) e4
        subst this
        refine ⟨_, lm.f194, vi lm.n106 hi, ?_⟩
        rw [ci, di.2.2.2.2.1]; exact h1'
      rw [if_neg e4]
      have ek : k = 5 := by
        have hh : k = 0 ∨ k = 1 ∨ k = 2 ∨ k = 3 ∨ k = 4 ∨ k = 5 ∨ k = 6 := by omega
        rcases hh with rfl | rfl | rfl | rfl | rfl | rfl | rfl
        · exact absurd hp2 e0
        · exact absurd hp2 e1
        · exact absurd hp2 e2
        · exact absurd hp2 e3
        · exact absurd hp2 e4
        · rfl
        · exact absurd hp2 e6
      subst ek
      refine ⟨_, lm.f195, vi lm.n107 hi, ?_⟩
      rw [ci, di.2.2.2.2.2]; exact h1'
    · rw [if_pos rfl]
      apply hK
      rintro _ rfl
      rw [fI_s, if_neg (by decide)]
      exact h2 i rfl hi (fun k hk => hn k (by omega) hk)
  · intro K hK
    rw [if_pos rfl]
    apply hK
    rintro _ rfl
    rw [fI_s, if_neg (by decide)]
    exact h0 hn
/-! the walk -/
theorem c_walk {Q : Int32 → PS → Prop} {QX : String → PS → Prop} {p : Int32} (hc : Dcl S A E V M nd st t n vo ti le pc cs td co wp wz vb mt mu md od w) (hd : Dok E V M nd st t n vo ti le pc cs td co wp wz vb mt mu md od w) (h94 : fR S 94 (A 8) = some (A 7)) (h1 : ∀ i, p = nI i → i < E → Q (od i) S) (h0 : (∀ i, i < E → p ≠ nI i) → QX "java/lang/IndexOutOfBoundsException" S) : wp_X11_walk (A 8) p S Q QX := by
  have hl := hc.1
  have hE := hd.1.1
  unfold wp_X11_walk
  refine c_req hc h94 hE (fun i hp hi => ?_) h0
  subst hp
  refine ⟨_, h94, _, hl.f78, by rw [hl.n35]; exact vp_in_nI (by omega) (by omega), ?_⟩
  rw [nI_clamp (by omega), hc.2.2.2.2.2.1 i hi]
  exact h1 i rfl hi
theorem r_walk {Q : Int32 → PS → Prop} {p : Int32} (hr0 : Drf Sr A E V M nd st t n vo ti le pc cs td co wp wz vb mt mu md od w) (hd : Dok E V M nd st t n vo ti le pc cs td co wp wz vb mt mu md od w) (h1 : ∀ i, p = nI i → i < E → Q (od i) (sI Sr 96 (A 9) 0)) (h0 : (∀ i, i < E → p ≠ nI i) → Q 0 (sI Sr 96 (A 9) 1)) : wp_X12_walk (A 9) p Sr Q := by
  have hE := hd.1.1
  unfold wp_X12_walk
  refine r_isEv hr0 hE (fun i hp hi => ?_) (fun hn => ?_)
  · subst hp
    intro K hK
    rw [if_neg (by decide)]
    apply hK
    rintro _ rfl
    have hr := hr0.s96 (v := 0)
    have lm := hr.1
    rw [fI_s, if_pos (by decide)]
    refine ⟨_, lm.f201, by rw [lm.n113]; exact vp_in_nI (by omega) (by omega), ?_⟩
    rw [nI_clamp (by omega), hr.2.2.2.2.2.1 i hi]
    exact h1 i rfl hi
  · intro K hK
    rw [if_pos rfl]
    apply hK
    rintro _ rfl
    rw [fI_s, if_neg (by decide)]
    exact h0 hn
/-! what sounds -/
def sdg (vo ti le : Nat → Nat) (p : Int32) (a d : Int64) : Nat → Nat → Int32
  | 0, _ => -1
  | k + 1, e => if nI (vo e) = p ∧ ¬ a < lN (ti e) * d ∧ ¬ (lN (ti e) + lN (le e)) * d ≤ a then nI e else sdg vo ti le p a d k (e + 1)
theorem c_sounding {Q : Int32 → PS → Prop} {p : Int32} {a d : Int64} (hc : Dcl S A E V M nd st t n vo ti le pc cs td co wp wz vb mt mu md od w) (hd : Dok E V M nd st t n vo ti le pc cs td co wp wz vb mt mu md od w) (hQ : Q (sdg vo ti le p a d E 0) S) : wp_X8_sounding (A 7) p a d S Q := by
  have hl := hc.1
  have hE := hd.1.1
  have h70 := hc.2.1.1
  unfold wp_X8_sounding
  intro P hP
  have vi : ∀ {r k : Nat}, r = 300 → k < E → vp_in (nI k) r := fun h hk => by rw [h]; exact vp_in_nI (by omega) (by omega)
  have key : ∀ j m, m + j = E → sdg vo ti le p a d j m = sdg vo ti le p a d E 0 → P (nI m) S := by
    intro j
    induction j with
    | zero =>
      intro m hm hs
      apply hP
      rw [h70, if_pos (nI_le (by omega) (by omega))]
      rw [sdg] at hs
      rw [hs]; exact hQ
    | succ j ih =>
      intro m hm hs
      apply hP
      rw [h70, if_neg (nI_ge (by omega) (by omega))]
      refine ⟨_, hl.f71, vi hl.n28 (by omega), ?_⟩
      have dm := hc.2.2.1 m (by omega)
      intro K hK
      have go : ¬ (nI (vo m) = p ∧ ¬ a < lN (ti m) * d ∧ ¬ (lN (ti m) + lN (le m)) * d ≤ a) → K S := fun z => by
        apply hK
        rintro _ rfl
        rw [nI_1]
        rw [sdg, if_neg z] at hs
        exact ih (m + 1) (by omega) hs
      rw [nI_clamp (by omega), dm.1]
      by_cases c : nI (vo m) = p
      · rw [if_pos c]
        refine ⟨_, hl.f72, vi hl.n29 (by omega), ?_⟩
        rw [dm.2.1]
        by_cases c2 : a < lN (ti m) * d
        · rw [if_pos c2]; exact go (fun z => z.2.1 c2)
        · rw [if_neg c2]
          refine ⟨_, hl.f72, vi hl.n29 (by omega), _, hl.f73, vi hl.n30 (by omega), ?_⟩
          rw [dm.2.1, dm.2.2.1]
          by_cases c3 : (lN (ti m) + lN (le m)) * d ≤ a
          · rw [if_pos c3]; exact go (fun z => z.2.2 c3)
          · rw [if_neg c3]
            rw [sdg, if_pos ⟨c, c2, c3⟩] at hs
            rw [hs]; exact hQ
      · rw [if_neg c]; exact go (fun z => c z.1)
  exact key E 0 (by omega) rfl
theorem c_at {Q : Int32 → PS → Prop} {QX : String → PS → Prop} {p p2 p3 : Int32} (hc : Dcl S A E V M nd st t n vo ti le pc cs td co wp wz vb mt mu md od w) (hd : Dok E V M nd st t n vo ti le pc cs td co wp wz vb mt mu md od w) (h94 : fR S 94 (A 8) = some (A 7)) (h1 : ∀ i, p = nI i → i < V → p3 ≠ 0 → 0 ≤ p3 → Q (sdg vo ti le p (p2.toInt64 * 3870720) p3.toInt64 E 0) S) (h0 : (∀ i, i < V → p ≠ nI i) → QX "java/lang/IndexOutOfBoundsException" S) (h2 : ∀ i, p = nI i → i < V → p3 = 0 → QX "java/lang/ArithmeticException" S) (h3 : ∀ i, p = nI i → i < V → p3 ≠ 0 → ¬ 0 ≤ p3 → QX "java/lang/IllegalArgumentException" S) : wp_X11_at (A 8) p p2 p3 S Q QX := by
  have hE := hd.1
  unfold wp_X11_at
  intro K hK
  by_cases c : p < 0
  · rw [if_pos c]
    exact hK _ (h0 (fun i hi e => nI_pos (n := i) (by omega) (by rw [← e]; exact c)))
  · rw [if_neg c]
    refine ⟨_, h94, ?_⟩
    obtain ⟨i, hi, rfl⟩ := nI_of c
    rw [hc.2.1.2.1]
    by_cases c2 : i < V
    · rw [if_pos (nI_lt c2 (by omega))]
      by_cases z : p3 = 0
      · rw [if_pos z]; exact h2 i rfl c2 z
      · rw [if_neg z]
        by_cases z2 : 0 ≤ p3
        · rw [if_pos z2]
          exact ⟨_, h94, c_sounding hc hd (h1 i rfl c2 z z2)⟩
        · rw [if_neg z2]; exact h3 i rfl c2 z z2
    · rw [if_neg (nI_nlt (by omega) hi)]
      exact hK _ (h0 (fun i' hi' e => by rw [nI_eq hi (by omega)] at e; omega))
theorem r_at {Q : Int32 → PS → Prop} {p p2 p3 : Int32} (hr0 : Drf Sr A E V M nd st t n vo ti le pc cs td co wp wz vb mt mu md od w) (hd : Dok E V M nd st t n vo ti le pc cs td co wp wz vb mt mu md od w) (h1 : ∀ i, p = nI i → i < V → p3 ≠ 0 → 0 ≤ p3 → Q (sdg vo ti le p (p2.toInt64 * 3870720) p3.toInt64 E 0) (sI Sr 96 (A 9) 0)) (h0 : (∀ i, i < V → p ≠ nI i) → Q 0 (sI Sr 96 (A 9) 1)) (h2 : ∀ i, p = nI i → i < V → p3 = 0 → Q 0 (sI Sr 96 (A 9) 2)) (h3 : ∀ i, p = nI i → i < V → p3 ≠ 0 → ¬ 0 ≤ p3 → Q 0 (sI Sr 96 (A 9) 3)) : wp_X12_at (A 9) p p2 p3 Sr Q := by
  have hE := hd.1
  unfold wp_X12_at
  rw [hr0.2.1.2.1]
  refine in_e (E := V) rfl rfl (by omega) (fun i hp hi => ?_) (fun hn => ?_)
  · intro K hK
    rw [if_neg (by decide)]
    by_cases z : p3 = 0
    · rw [if_pos z]
      apply hK
      rintro _ rfl
      rw [fI_s, if_neg (by decide)]
      exact h2 i hp hi z
    · rw [if_neg z]
      by_cases z2 : 0 ≤ p3
      · rw [if_pos z2]
        apply hK
        rintro _ rfl
        have hr := hr0.s96 (v := 0)
        have lm := hr.1
        have hQ := h1 i hp hi z z2
        rw [fI_s, if_pos (by decide)]
        generalize sI Sr 96 (A 9) 0 = S7 at *
        clear hK
        rintro _ rfl _ rfl
        generalize p2.toInt64 * 3870720 = a at *
        generalize p3.toInt64 = d at *
        intro P hP
        have vi : ∀ {r k : Nat}, r = 300 → k < E → vp_in (nI k) r := fun h hk => by rw [h]; exact vp_in_nI (by omega) (by omega)
        have key : ∀ j m, m + j = E → sdg vo ti le p a d j m = sdg vo ti le p a d E 0 → P (nI m) S7 := by
          intro j
          induction j with
          | zero =>
            intro m hm hs
            apply hP
            rw [hr.2.1.1, if_pos (nI_le (by omega) (by omega))]
            rw [sdg] at hs
            rw [hs]; exact hQ
          | succ j ih =>
            intro m hm hs
            apply hP
            rw [hr.2.1.1, if_neg (nI_ge (by omega) (by omega))]
            refine ⟨_, lm.f190, vi lm.n102 (by omega), ?_⟩
            have dm := (hr.2.2.1 m (by omega)).1
            intro K hK
            have go : ¬ (nI (vo m) = p ∧ ¬ a < lN (ti m) * d ∧ ¬ (lN (ti m) + lN (le m)) * d ≤ a) → K S7 := fun z => by
              apply hK
              rintro _ rfl
              rw [nI_1]
              rw [sdg, if_neg z] at hs
              exact ih (m + 1) (by omega) hs
            rw [nI_clamp (by omega), dm.1]
            by_cases c : nI (vo m) = p
            · rw [if_pos c]
              refine ⟨_, lm.f194, vi lm.n106 (by omega), ?_⟩
              rw [dm.2.2.2.2.1]
              by_cases c2 : a < lN (ti m) * d
              · rw [if_pos c2]; exact go (fun z => z.2.1 c2)
              · rw [if_neg c2]
                refine ⟨_, lm.f194, vi lm.n106 (by omega), _, lm.f195, vi lm.n107 (by omega), ?_⟩
                rw [dm.2.2.2.2.1, dm.2.2.2.2.2]
                by_cases c3 : (lN (ti m) + lN (le m)) * d ≤ a
                · rw [if_pos c3]; exact go (fun z => z.2.2 c3)
                · rw [if_neg c3]
                  rw [sdg, if_pos ⟨c, c2, c3⟩] at hs
                  rw [hs]; exact hQ
            · rw [if_neg c]; exact go (fun z => c z.1)
        exact key E 0 (by omega) rfl
      · rw [if_neg z2]
        apply hK
        rintro _ rfl
        rw [fI_s, if_neg (by decide)]
        exact h3 i hp hi z z2
  · intro K hK
    rw [if_pos rfl]
    apply hK
    rintro _ rfl
    rw [fI_s, if_neg (by decide)]
    exact h0 hn
end
