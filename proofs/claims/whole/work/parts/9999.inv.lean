/-! What holds between two calls of the law. -/
def mix (A T : Nat → Nat) (r : Nat) : Nat := if scw r = true then T r else A r
def AdL (S : PS) (A : Nat → Nat) : Prop := ∀ r, r ≤ 119 → r ≠ 1 → r ≠ 14 → Rf S (A r) r
/-- where everything lies; A's score is the one in work, T's the one told of -/
def Cor (S : PS) (A T : Nat → Nat) : Prop := (AdL S A ∧ ∀ r, scw r = true → Rf S (T r) r ∧ T r ≠ A r) ∧ (LayO S A ∧ LayC0 S A ∧ LayS S A ∧ LayM S A) ∧ (fR S 94 (A 8) = some (T 7) ∧ fR S 93 (A 8) = some (A 4) ∧ aN S (A 119) = 1) ∧ ∃ m F, PfA S A 0 m F
/-- the waiting bytes -/
def Wtg (S : PS) (A : Nat → Nat) (n : Nat) : Prop := n ≤ 1500 ∧ fI S 88 (A 8) = nI n ∧ fI S 98 (A 9) = nI n ∧ ∀ q, q < n → aI S 40 (A 40) q = aI S 39 (A 39) q ∧ Byt (aI S 39 (A 39) q)
def Tld (S : PS) (A T : Nat → Nat) : Prop := ∃ E V M nd st t n vo ti le pc cs td co wp wz vb mt mu md od w, Dok E V M nd st t n vo ti le pc cs td co wp wz vb mt mu md od w ∧ Dcl S (mix A T) E V M nd st t n vo ti le pc cs td co wp wz vb mt mu md od w ∧ Drf S A E V M nd st t n vo ti le pc cs td co wp wz vb mt mu md od w
def AscL (l : List Int32) : Prop := ∀ x, x ∈ l → bt x &&& 255 = bt x
/-- what was written last -/
def Prn (S : PS) (A : Nat → Nat) (c : Nat) : Prop := ∃ P l, Pr S A P c l ∧ AscL l ∧ l.length ≤ 40000 ∧ fI S 213 (A 9) = nI l.length ∧ ∀ i, i < l.length → aI S 118 (A 118) i = bt (l.getD i 0)
def Inv (S : PS) (A T : Nat → Nat) (c : Nat) : Prop := Cor S A T ∧ (∃ n, Wtg S A n) ∧ fI S 104 (A 9) = fI S 0 (A 0) ∧ Tld S A T ∧ Prn S A c
section
variable {S S1 : PS} {A T : Nat → Nat} {c n : Nat} {J R : Nat → Bool}
variable {E V M nd st t n : Nat} {vo ti le pc : Nat → Nat} {cs : Nat → Nat → Nat} {td co : Nat → Bool} {wp wz : Nat → Nat → Nat} {vb mt mu md : Nat → Nat} {od w : Nat → Int32}
theorem mix_s {r : Nat} (h : scw r = true) : mix A T r = T r := if_pos h
theorem mix_n {r : Nat} (h : scw r = false) : mix A T r = A r := if_neg (by rw [h]; decide)
theorem Cor.se (h : Cor S A T) (g : St S1 = St S) : Cor S1 A T := by
  obtain ⟨⟨h1, h2⟩, ⟨h3, h4, h5, h6⟩, ⟨h7, h8, h9⟩, m, F, h10⟩ := h
  refine ⟨⟨fun r a b c => ?_, fun r hr => ⟨?_, (h2 r hr).2⟩⟩, ⟨?_, ⟨fun t ht z => ?_, fun t ht => ?_⟩, h5.st g, h6.st g⟩, ⟨?_, ?_, ?_⟩, m, F, h10.st g⟩
  · unfold Rf; rw [St.pL g, St.pK g]; exact h1 r a b c
  · unfold Rf; rw [St.pL g, St.pK g]; exact (h2 r hr).1
  · unfold LayO; rw [St.fR g, St.aN g]; exact h3
  · rw [St.fR g]; exact h4.1 t ht z
  · rw [St.aN g]; exact h4.2 t ht
  · rw [St.fR g]; exact h7
  · rw [St.fR g]; exact h8
  · rw [St.aN g]; exact h9
theorem Dcl.se (h : Dcl S A E V M nd st t n vo ti le pc cs td co wp wz vb mt mu md od w) (g : St S1 = St S) (hi : ∀ j, j < 88 → fI S1 j = fI S j ∧ fL S1 j = fL S j) (ha : ∀ r, r < 39 → aI S1 r = aI S r ∧ aL S1 r = aL S r) : Dcl S1 A E V M nd st t n vo ti le pc cs td co wp wz vb mt mu md od w := by
  unfold Dcl Dce at h ⊢
  rw [(hi 70 (by omega)).1, (hi 79 (by omega)).1, (hi 84 (by omega)).1, (hi 85 (by omega)).1, (hi 86 (by omega)).2, (hi 17 (by omega)).1, (ha 28 (by omega)).1, (ha 29 (by omega)).2, (ha 30 (by omega)).2, (ha 31 (by omega)).2, (ha 32 (by omega)).1, (ha 33 (by omega)).1, (ha 34 (by omega)).1, (ha 36 (by omega)).2, (ha 10 (by omega)).2, (ha 11 (by omega)).1, (ha 12 (by omega)).1, (ha 35 (by omega)).1, (ha 27 (by omega)).1]
  exact ⟨h.1.st g, h.2⟩
theorem Drf.kp (h : Drf S A E V M nd st t n vo ti le pc cs td co wp wz vb mt mu md od w) (k : Keep J R S S1) (hJ : ∀ j, 206 ≤ j → j ≤ 211 → J j = false) (hR : ∀ r, 101 ≤ r → r ≤ 117 → R r = false) : Drf S1 A E V M nd st t n vo ti le pc cs td co wp wz vb mt mu md od w :=
  h.se k.1 (fun j a b => ⟨congrFun (k.2.1 j (hJ j a b)).1 _, congrFun (k.2.1 j (hJ j a b)).2 _⟩) (fun r a b => ⟨congrFun (k.2.2 r (hR r a b)).1 _, congrFun (k.2.2 r (hR r a b)).2 _⟩)
theorem Wtg.kp (h : Wtg S A n) (k : Keep J R S S1) (h1 : J 88 = false) (h2 : J 98 = false) (h3 : R 39 = false) (h4 : R 40 = false) : Wtg S1 A n := by
  unfold Wtg
  rw [(k.2.1 88 h1).1, (k.2.1 98 h2).1, (k.2.2 39 h3).1, (k.2.2 40 h4).1]; exact h
theorem Pr.kp {P : Nat} {l : List Int32} (h : Pr S A P c l) (k : Keep J R S S1) (h1 : J 41 = false) (h3 : R 14 = false) : Pr S1 A P c l := by
  unfold Pr Rf
  rw [(k.2.1 41 h1).1, (k.2.2 14 h3).1, St.fR k.1, St.aN k.1, St.pL k.1, St.pK k.1]; exact h
theorem Prn.kp (h : Prn S A c) (k : Keep J R S S1) (h1 : J 41 = false) (h2 : J 213 = false) (h3 : R 14 = false) (h4 : R 118 = false) : Prn S1 A c := by
  obtain ⟨P, l, a1, a2, a3, a4, a5⟩ := h
  refine ⟨P, l, a1.kp k h1 h3, a2, a3, ?_, ?_⟩
  · rw [(k.2.1 213 h2).1]; exact a4
  · rw [(k.2.2 118 h4).1]; exact a5
theorem Tld.kp (h : Tld S A T) (k : Keep J R S S1) (h1 : ∀ j, j < 88 → J j = false) (h2 : ∀ j, 206 ≤ j → j ≤ 211 → J j = false) (h3 : ∀ r, r < 39 → R r = false) (h4 : ∀ r, 101 ≤ r → r ≤ 117 → R r = false) : Tld S1 A T := by
  obtain ⟨E, V, M, nd, st, t, n, vo, ti, le, pc, cs, td, co, wp, wz, vb, mt, mu, md, od, w, a1, a2, a3⟩ := h
  exact ⟨E, V, M, nd, st, t, n, vo, ti, le, pc, cs, td, co, wp, wz, vb, mt, mu, md, od, w, a1, a2.se k.1 (fun j hj => k.2.1 j (h1 j hj)) (fun r hr => k.2.2 r (h3 r hr)), a3.kp k h2 h4⟩
def jAs (j : Nat) : Bool := decide (j = 96)
def rAs (r : Nat) : Bool := decide (r = 119)
theorem Inv.as (h : Inv S A T c) (k : Keep jAs rAs S S1) : Inv S1 A T c := by
  obtain ⟨h1, ⟨n, h2⟩, h3, h4, h5⟩ := h
  refine ⟨h1.se k.1, ⟨n, h2.kp k rfl rfl rfl rfl⟩, ?_, h4.kp k (fun j hj => ?_) (fun j a b => ?_) (fun r hr => ?_) (fun r a b => ?_), h5.kp k rfl rfl rfl rfl⟩
  · rw [(k.2.1 104 rfl).1, (k.2.1 0 rfl).1]; exact h3
  · unfold jAs; rw [decide_eq_false_iff_not]; omega
  · unfold jAs; rw [decide_eq_false_iff_not]; omega
  · unfold rAs; rw [decide_eq_false_iff_not]; omega
  · unfold rAs; rw [decide_eq_false_iff_not]; omega
/-! the end of a question -/
variable {K : PS → Prop} {y z : Int64}
theorem fin0 (iv : Inv S A T c) (hy : y = z) (hK : ∀ S1, Inv S1 A T c → K S1) : wp_X12_thrown (A 9) (sI (wL S 119 (A 119) 0 y) 96 (A 9) 0) (fun r44 S43 => if r44 = 0 then (if (0 : Int32) = 0 then (vp_in 0 (aN S43 (A 119)) ∧ (if aL S43 119 (A 119) (0 : Int32).toNatClampNeg = z then K S43 else False)) else K S43) else False) := by
  unfold wp_X12_thrown
  rw [fI_s]
  dsimp only
  rw [if_pos rfl, if_pos rfl]
  refine ⟨?_, ?_⟩
  · rw [aN_sI, aN_wL, iv.1.2.2.1.2.2]; exact vp_in_nI (n := 0) (by omega) (by omega)
  · have e : aL (sI (wL S 119 (A 119) 0 y) 96 (A 9) 0) 119 (A 119) 0 = y := by rw [aL_sI, aL_wL, if_pos ⟨rfl, rfl, rfl⟩]
    rw [show (0 : Int32).toNatClampNeg = 0 from rfl, e, if_pos hy]
    exact hK _ (iv.as ((Keep.rf.wL rfl).sI rfl))
theorem finx {k : Int32} {G : PS → Prop} (iv : Inv S A T c) (hk : k ≠ 0) (hK : ∀ S1, Inv S1 A T c → K S1) : wp_X12_thrown (A 9) (sI S 96 (A 9) k) (fun r44 S43 => if r44 = k then (if k = 0 then G S43 else K S43) else False) := by
  unfold wp_X12_thrown
  rw [fI_s]
  dsimp only
  rw [if_pos rfl, if_neg hk]
  exact hK _ (iv.as (Keep.rf.sI rfl))
theorem Inv.v0 (iv : Inv S A T c) : vp_in 0 (aN S (A 119)) := by rw [iv.1.2.2.1.2.2]; exact vp_in_nI (n := 0) (by omega) (by omega)
/-- how a question is compared -/
def Cm (K : PS → Prop) (A : Nat → Nat) (r : Int32) (b : Int64) (S : PS) : Prop := wp_X12_thrown (A 9) S (fun r44 S43 => if r44 = r then (if r = 0 then (vp_in 0 (aN S43 (A 119)) ∧ (if aL S43 119 (A 119) (0 : Int32).toNatClampNeg = b then K S43 else False)) else K S43) else False)
theorem Inv.c8 (iv : Inv S A T c) (h : Dcl S (mix A T) E V M nd st t n vo ti le pc cs td co wp wz vb mt mu md od w) : fR S 94 (mix A T 8) = some (mix A T 7) := by rw [mix_n rfl, mix_s rfl]; exact iv.1.2.2.1.1
theorem Inv.dw (h : Drf S A E V M nd st t n vo ti le pc cs td co wp wz vb mt mu md od w) : Drf (wL S 119 (A 119) 0 y) A E V M nd st t n vo ti le pc cs td co wp wz vb mt mu md od w := h.kp (J := fun _ => false) (R := rAs) (Keep.rf.wL rfl) (fun _ _ _ => rfl) (fun r a b => by unfold rAs; rw [decide_eq_false_iff_not]; omega)
variable {p p2 p3 : Int32} {V1 : Prop → Prop}
theorem a_count (iv : Inv S A T c) (hV : ∀ X, X → V1 X) (hK : ∀ S1, Inv S1 A T c → K S1) : wp_L_count (A 8) p (A 119) S (fun r39 S38 => V1 (wp_X12_count (A 9) p S38 (fun r42 S41 => Cm K A r39 r42.toInt64 S41))) := by
  obtain ⟨E, V, M, nd, st, t, n, vo, ti, le, pc, cs, td, co, wp, wz, vb, mt, mu, md, od, w, hd, hc, hr⟩ := id iv.2.2.2.1
  have h94 := iv.c8 hc
  have e8 : mix A T 8 = A 8 := mix_n rfl
  unfold wp_L_count
  rw [← e8]
  refine c_count hc hd h94 (fun i hp hi => ⟨iv.v0, ?_⟩) (fun hn => ?_)
  · rintro _ rfl
    refine hV _ (r_count (Inv.dw hr) hd (fun i' hp' hi' => ?_) (fun hn => absurd hp (hn i hi)))
    have : i' = i := by rw [hp] at hp'; exact ((nI_eq (by omega) (by omega)).mp hp').symm
    subst this
    exact fin0 iv rfl hK
  · rw [if_pos rfl]
    refine hV _ (r_count hr hd (fun i' hp' hi' => absurd hp' (hn i' hi')) (fun _ => ?_))
    exact finx iv (by decide) hK
theorem a_event (iv : Inv S A T c) (hV : ∀ X, X → V1 X) (hK : ∀ S1, Inv S1 A T c → K S1) : wp_L_event (A 8) p p2 (A 119) S (fun r39 S38 => V1 (wp_X12_event_ (A 9) p p2 S38 (fun r42 S41 => Cm K A r39 r42 S41))) := by
  obtain ⟨E, V, M, nd, st, t, n, vo, ti, le, pc, cs, td, co, wp, wz, vb, mt, mu, md, od, w, hd, hc, hr⟩ := id iv.2.2.2.1
  have h94 := iv.c8 hc
  have hE := hd.1
  have e8 : mix A T 8 = A 8 := mix_n rfl
  unfold wp_L_event
  rw [← e8]
  refine c_event hc hd h94 (fun i k hp hi hp2 hk => ⟨iv.v0, ?_⟩) (fun hn => ?_) (fun i hp hi hn => ?_)
  · rintro _ rfl
    refine hV _ (r_event6 (Inv.dw hr) hd (fun i' k' hp' hi' hp2' hk' => ?_) (fun hn => absurd hp (hn i hi)) (fun _ _ _ hn => absurd hp2 (hn k hk)))
    have : i' = i := by rw [hp] at hp'; exact ((nI_eq (by omega) (by omega)).mp hp').symm
    subst this
    have : k' = k := by rw [hp2] at hp2'; exact ((nI_eq (by omega) (by omega)).mp hp2').symm
    subst this
    exact fin0 iv rfl hK
  · rw [if_pos rfl]
    refine hV _ (r_event6 hr hd (fun i' k' hp' hi' _ _ => absurd hp' (hn i' hi')) (fun _ => ?_) (fun i' hp' hi' _ => absurd hp' (hn i' hi')))
    exact finx iv (by decide) hK
  · rw [if_neg (by decide), if_pos rfl]
    refine hV _ (r_event6 hr hd (fun i' k' hp' hi' hp2' hk' => absurd hp2' (hn k' hk')) (fun hn' => absurd hp (hn' i hi)) (fun _ _ _ _ => ?_))
    exact finx iv (by decide) hK
theorem a_pitch (iv : Inv S A T c) (hV : ∀ X, X → V1 X) (hK : ∀ S1, Inv S1 A T c → K S1) : wp_L_pitch (A 8) p p2 p3 (A 119) S (fun r39 S38 => V1 (wp_X12_pitch (A 9) p p2 p3 S38 (fun r42 S41 => Cm K A r39 r42.toInt64 S41))) := by
  obtain ⟨E, V, M, nd, st, t, n, vo, ti, le, pc, cs, td, co, wp, wz, vb, mt, mu, md, od, w, hd, hc, hr⟩ := id iv.2.2.2.1
  have h94 := iv.c8 hc
  have hE := hd.1
  have e8 : mix A T 8 = A 8 := mix_n rfl
  unfold wp_L_pitch
  rw [← e8]
  have ui : ∀ {i i' : Nat}, p = nI i → i < E → p = nI i' → i' < E → i' = i := fun h1 a1 h2 a2 => by rw [h1] at h2; exact ((nI_eq (by omega) (by omega)).mp h2).symm
  have uk : ∀ {i k k' : Nat}, i < E → p2 = nI k → k < pc i → p2 = nI k' → k' < pc i → k' = k := fun hi h1 a1 h2 a2 => by have := (hd.2.1 _ hi).2.1.1; rw [h1] at h2; exact ((nI_eq (by omega) (by omega)).mp h2).symm
  refine c_pitch hc hd h94 (fun i k q hp hi hp2 hk hp3 hq => ⟨iv.v0, ?_⟩) (fun hn => ?_) (fun i hp hi hn => ?_) (fun i k hp hi hp2 hk hn => ?_)
  · rintro _ rfl
    refine hV _ (r_pitch (Inv.dw hr) hd (fun i' k' q' hp' hi' hp2' hk' hp3' hq' => ?_) (fun hn => absurd hp (hn i hi)) (fun i' hp' hi' hn => ?_) (fun i' k' _ _ _ _ hn => absurd hp3 (hn q hq)))
    · have := ui hp hi hp' hi'
      subst this
      have := uk hi hp2 hk hp2' hk'
      subst this
      have : q' = q := by rw [hp3] at hp3'; exact ((nI_eq (by omega) (by omega)).mp hp3').symm
      subst this
      exact fin0 iv rfl hK
    · have := ui hp hi hp' hi'
      subst this
      exact absurd hp2 (hn k hk)
  · rw [if_pos rfl]
    refine hV _ (r_pitch hr hd (fun i' k' q' hp' hi' _ _ _ _ => absurd hp' (hn i' hi')) (fun _ => finx iv (by decide) hK) (fun i' hp' hi' _ => absurd hp' (hn i' hi')) (fun i' k' hp' hi' _ _ _ => absurd hp' (hn i' hi')))
  · rw [if_pos rfl]
    refine hV _ (r_pitch hr hd (fun i' k' q' hp' hi' hp2' hk' _ _ => ?_) (fun _ => finx iv (by decide) hK) (fun _ _ _ _ => finx iv (by decide) hK) (fun i' k' hp' hi' hp2' hk' _ => ?_))
    · have := ui hp hi hp' hi'
      subst this
      exact absurd hp2' (hn k' hk')
    · have := ui hp hi hp' hi'
      subst this
      exact absurd hp2' (hn k' hk')
  · rw [if_neg (by decide), if_pos rfl]
    refine hV _ (r_pitch hr hd (fun i' k' q' _ _ _ _ hp3' hq' => absurd hp3' (hn q' hq')) (fun hn' => absurd hp (hn' i hi)) (fun i' hp' hi' hn' => ?_) (fun _ _ _ _ _ _ _ => finx iv (by decide) hK))
    have := ui hp hi hp' hi'
    subst this
    exact absurd hp2 (hn' k hk)
theorem a_word (iv : Inv S A T c) (hV : ∀ X, X → V1 X) (hK : ∀ S1, Inv S1 A T c → K S1) : wp_L_word (A 8) p p2 p3 (A 119) S (fun r39 S38 => V1 (wp_X12_word (A 9) p p2 p3 S38 (fun r42 S41 => Cm K A r39 r42.toInt64 S41))) := by
  obtain ⟨E, V, M, nd, st, t, n, vo, ti, le, pc, cs, td, co, wp, wz, vb, mt, mu, md, od, w, hd, hc, hr⟩ := id iv.2.2.2.1
  have h94 := iv.c8 hc
  have hE := hd.1
  have e8 : mix A T 8 = A 8 := mix_n rfl
  unfold wp_L_word
  rw [← e8]
  have ui : ∀ {i i' : Nat}, p = nI i → i < E → p = nI i' → i' < E → i' = i := fun h1 a1 h2 a2 => by rw [h1] at h2; exact ((nI_eq (by omega) (by omega)).mp h2).symm
  have uj : ∀ {j j' : Nat}, p2 = nI (j + 1) → j < 3 → p2 = nI (j' + 1) → j' < 3 → j' = j := fun h1 a1 h2 a2 => by rw [h1] at h2; have := (nI_eq (by omega) (by omega)).mp h2; omega
  refine c_word hc hd h94 (fun i j k hp hi hp2 hj hp3 hk => ⟨iv.v0, ?_⟩) (fun i j hp hi hp2 hj hn => ⟨iv.v0, ?_⟩) (fun hn => ?_) (fun i hp hi hn => ?_)
  · rintro _ rfl
    refine hV _ (r_word (Inv.dw hr) hd (fun i' j' k' hp' hi' hp2' hj' hp3' hk' => ?_) (fun i' j' hp' hi' hp2' hj' hn => ?_) (fun hn => absurd hp (hn i hi)) (fun _ _ _ hn => absurd hp2 (hn (j + 1) (by omega) (by omega))))
    · have := ui hp hi hp' hi'
      subst this
      have := uj hp2 hj hp2' hj'
      subst this
      have wb := ((hd.2.1 _ hi).2.2.2 _ hj).1.1
      have : k' = k := by rw [hp3] at hp3'; exact ((nI_eq (by omega) (by omega)).mp hp3').symm
      subst this
      exact fin0 iv rfl hK
    · have := ui hp hi hp' hi'
      subst this
      have := uj hp2 hj hp2' hj'
      subst this
      exact absurd hp3 (hn k hk)
  · rintro _ rfl
    refine hV _ (r_word (Inv.dw hr) hd (fun i' j' k' hp' hi' hp2' hj' hp3' hk' => ?_) (fun i' j' hp' hi' hp2' hj' _ => fin0 iv rfl hK) (fun hn => absurd hp (hn i hi)) (fun _ _ _ hn => absurd hp2 (hn (j + 1) (by omega) (by omega))))
    have := ui hp hi hp' hi'
    subst this
    have := uj hp2 hj hp2' hj'
    subst this
    exact absurd hp3' (hn k' hk')
  · rw [if_pos rfl]
    exact hV _ (r_word hr hd (fun i' j' k' hp' hi' _ _ _ _ => absurd hp' (hn i' hi')) (fun i' j' hp' hi' _ _ _ => absurd hp' (hn i' hi')) (fun _ => finx iv (by decide) hK) (fun i' hp' hi' _ => absurd hp' (hn i' hi')))
  · rw [if_neg (by decide), if_pos rfl]
    exact hV _ (r_word hr hd (fun i' j' k' _ _ hp2' hj' _ _ => absurd hp2' (hn (j' + 1) (by omega) (by omega))) (fun i' j' _ _ hp2' hj' _ => absurd hp2' (hn (j' + 1) (by omega) (by omega))) (fun hn' => absurd hp (hn' i hi)) (fun _ _ _ _ => finx iv (by decide) hK))
theorem a_walk (iv : Inv S A T c) (hV : ∀ X, X → V1 X) (hK : ∀ S1, Inv S1 A T c → K S1) : wp_L_walk (A 8) p (A 119) S (fun r39 S38 => V1 (wp_X12_walk (A 9) p S38 (fun r42 S41 => Cm K A r39 r42.toInt64 S41))) := by
  obtain ⟨E, V, M, nd, st, t, n, vo, ti, le, pc, cs, td, co, wp, wz, vb, mt, mu, md, od, w, hd, hc, hr⟩ := id iv.2.2.2.1
  have h94 := iv.c8 hc
  have hE := hd.1
  have e8 : mix A T 8 = A 8 := mix_n rfl
  unfold wp_L_walk
  rw [← e8]
  refine c_walk hc hd h94 (fun i hp hi => ⟨iv.v0, ?_⟩) (fun hn => ?_)
  · rintro _ rfl
    refine hV _ (r_walk (Inv.dw hr) hd (fun i' hp' hi' => ?_) (fun hn => absurd hp (hn i hi)))
    have : i' = i := by rw [hp] at hp'; exact ((nI_eq (by omega) (by omega)).mp hp').symm
    subst this
    exact fin0 iv rfl hK
  · rw [if_pos rfl]
    exact hV _ (r_walk hr hd (fun i' hp' hi' => absurd hp' (hn i' hi')) (fun _ => finx iv (by decide) hK))
theorem a_bar (iv : Inv S A T c) (hV : ∀ X, X → V1 X) (hK : ∀ S1, Inv S1 A T c → K S1) : wp_L_bar (A 8) p p2 (A 119) S (fun r39 S38 => V1 (wp_X12_bar (A 9) p p2 S38 (fun r42 S41 => Cm K A r39 r42 S41))) := by
  obtain ⟨E, V, M, nd, st, t, n, vo, ti, le, pc, cs, td, co, wp, wz, vb, mt, mu, md, od, w, hd, hc, hr⟩ := id iv.2.2.2.1
  have h94 := iv.c8 hc
  have e8 : mix A T 8 = A 8 := mix_n rfl
  unfold wp_L_bar
  rw [← e8]
  have ub : ∀ {b b' : Nat}, p = nI b → b < 2 ^ 31 → p = nI b' → b' < 2 ^ 31 → b' = b := fun h1 a1 h2 a2 => by rw [h1] at h2; exact ((nI_eq a1 a2).mp h2).symm
  have um : ∀ {b m m' : Nat}, Mob M t mt mu md b m → Mob M t mt mu md b m' → m' = m := fun {b m m'} h1 h2 => by
    rcases Nat.lt_trichotomy m m' with z | z | z
    · have := h2.ahead z
      have h3 := h1.2.2
      rw [bsm] at h3
      omega
    · exact z.symm
    · have := h1.ahead z
      have h3 := h2.2.2
      rw [bsm] at h3
      omega
  refine c_bar hc hd h94 (fun b m k hp hb hm hp2 hk => ⟨iv.v0, ?_⟩) (fun hn => ?_) (fun b m hp hb hm hn => ?_)
  · rintro _ rfl
    refine hV _ (r_bar (Inv.dw hr) hd (fun b' m' k' hp' hb' hm' hp2' hk' => ?_) (fun hn => absurd hm.all (hn b hb hp)) (fun _ _ _ _ _ hn => absurd hp2 (hn k hk)))
    have := ub hp hb hp' hb'
    subst this
    have := um hm hm'
    subst this
    have : k' = k := by rw [hp2] at hp2'; exact ((nI_eq (by omega) (by omega)).mp hp2').symm
    subst this
    exact fin0 iv rfl hK
  · rw [if_pos rfl]
    exact hV _ (r_bar hr hd (fun b' m' k' hp' hb' hm' _ _ => absurd hm'.all (hn b' hb' hp')) (fun _ => finx iv (by decide) hK) (fun b' m' hp' hb' hm' _ => absurd hm'.all (hn b' hb' hp')))
  · rw [if_neg (by decide), if_pos rfl]
    exact hV _ (r_bar hr hd (fun b' m' k' _ _ _ hp2' hk' => absurd hp2' (hn k' hk')) (fun hn' => absurd hm.all (hn' b hb hp)) (fun _ _ _ _ _ _ => finx iv (by decide) hK))
theorem a_at (iv : Inv S A T c) (hV : ∀ X, X → V1 X) (hK : ∀ S1, Inv S1 A T c → K S1) : wp_L_at (A 8) p p2 p3 (A 119) S (fun r39 S38 => V1 (wp_X12_at (A 9) p p2 p3 S38 (fun r42 S41 => Cm K A r39 r42.toInt64 S41))) := by
  obtain ⟨E, V, M, nd, st, t, n, vo, ti, le, pc, cs, td, co, wp, wz, vb, mt, mu, md, od, w, hd, hc, hr⟩ := id iv.2.2.2.1
  have h94 := iv.c8 hc
  have e8 : mix A T 8 = A 8 := mix_n rfl
  unfold wp_L_at
  rw [← e8]
  refine c_at hc hd h94 (fun i hp hi z1 z2 => ⟨iv.v0, ?_⟩) (fun hn => ?_) (fun i hp hi z1 => ?_) (fun i hp hi z1 z2 => ?_)
  · rintro _ rfl
    exact hV _ (r_at (Inv.dw hr) hd (fun _ _ _ _ _ => fin0 iv rfl hK) (fun hn => absurd hp (hn i hi)) (fun _ _ _ y => absurd y z1) (fun _ _ _ _ y => absurd z2 y))
  · rw [if_pos rfl]
    exact hV _ (r_at hr hd (fun i' hp' hi' _ _ => absurd hp' (hn i' hi')) (fun _ => finx iv (by decide) hK) (fun i' hp' hi' _ => absurd hp' (hn i' hi')) (fun i' hp' hi' _ _ => absurd hp' (hn i' hi')))
  · rw [if_neg (by decide), if_pos rfl]
    exact hV _ (r_at hr hd (fun _ _ _ y _ => absurd z1 y) (fun hn => absurd hp (hn i hi)) (fun _ _ _ _ => finx iv (by decide) hK) (fun _ _ _ y _ => absurd z1 y))
  · rw [if_neg (by decide), if_neg (by decide), if_pos rfl]
    exact hV _ (r_at hr hd (fun _ _ _ _ y => absurd y z2) (fun hn => absurd hp (hn i hi)) (fun _ _ _ y => absurd y z1) (fun _ _ _ _ _ => finx iv (by decide) hK))
end
