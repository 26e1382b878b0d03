/-! Performing: an event more, of both. -/
section
variable {S S1 S2 S0 Sr Sr1 Sr2 R0 : PS} {A : Nat → Nat} {B : Nat → Int32} {n N nd pc : Nat} {bh par ks lv g ow : Nat → Nat}
variable {D m st E V M t ln sy x v tm k pl c : Nat} {lp : Int} {X Y C H F VF TB cs : Nat → Nat} {w : Int64} {td ld : Int32}
def jEc (j : Nat) : Bool := decide (j = 70 ∨ j = 28)
def rEc (r : Nat) : Bool := decide (28 ≤ r ∧ r ≤ 38)
/-- the class has an event more -/
def AddC (S S1 : PS) (A : Nat → Nat) (E v tm k : Nat) (w : Int64) (ld td : Int32) (pl : Nat) : Prop :=
  Keep jEc rEc S S1 ∧ fI S1 70 (A 7) = nI (E + 1) ∧ aI S1 28 (A 28) = uq (aI S 28 (A 28)) E (nI v) ∧ aL S1 29 (A 29) = uq (aL S 29 (A 29)) E (lN tm) ∧ aL S1 30 (A 30) = uq (aL S 30 (A 30)) E (lN k) ∧ aL S1 31 (A 31) = uq (aL S 31 (A 31)) E w ∧ aI S1 32 (A 32) = uq (aI S 32 (A 32)) E td ∧ aI S1 33 (A 33) = uq (aI S 33 (A 33)) E ld ∧ (∀ i, i < 3 * E → aI S1 34 (A 34) i = aI S 34 (A 34) i) ∧ (∀ j, j < 3 → aI S1 34 (A 34) (3 * E + j) = -1) ∧ aI S1 37 (A 37) = uq (aI S 37 (A 37)) v (nI E) ∧ aI S1 38 (A 38) = uq (aI S 38 (A 38)) v (if td = 0 then -1 else nI pl) ∧ aL S1 36 (A 36) = aL S 36 (A 36) ∧ fL S1 28 (A 3) = lN (tm + k)
def jEr (j : Nat) : Bool := decide (j = 146 ∨ j = 156)
def rEr (r : Nat) : Bool := decide (65 ≤ r ∧ r ≤ 77)
def AddR (Sr Sr1 : PS) (A : Nat → Nat) (E v tm k c : Nat) (cs : Nat → Nat) (ld td : Int32) (pl : Nat) : Prop :=
  Keep jEr rEr Sr Sr1 ∧ fI Sr1 146 (A 9) = nI (E + 1) ∧ aI Sr1 65 (A 65) = uq (aI Sr 65 (A 65)) E (nI v) ∧ aI Sr1 66 (A 66) = uq (aI Sr 66 (A 66)) E (nI c) ∧ aI Sr1 67 (A 67) = uq (aI Sr 67 (A 67)) E td ∧ aI Sr1 68 (A 68) = uq (aI Sr 68 (A 68)) E ld ∧ aL Sr1 69 (A 69) = uq (aL Sr 69 (A 69)) E (lN tm) ∧ aL Sr1 70 (A 70) = uq (aL Sr 70 (A 70)) E (lN k) ∧ aI Sr1 71 (A 71) = uq (aI Sr 71 (A 71)) E (nI pl) ∧ (∀ r i, 72 ≤ r → r ≤ 74 → i < 6 * E → aI Sr1 r (A r) i = aI Sr r (A r) i) ∧ PcR Sr1 A E c cs ∧ (∀ i, i < 3 * E → aI Sr1 75 (A 75) i = aI Sr 75 (A 75) i) ∧ (∀ j, j < 3 → aI Sr1 75 (A 75) (3 * E + j) = -1) ∧ aL Sr1 76 (A 76) = aL Sr 76 (A 76) ∧ aI Sr1 77 (A 77) = uq (aI Sr 77 (A 77)) v (if td = 0 then -1 else nI E) ∧ fL Sr1 156 (A 9) = lN (tm + k)
theorem PfE.add (h : PfE S A B n D E V VF) (a : AddC S S1 A E v tm k w ld td pl) (hE : E < 300) (hv : v < V) (hk : 1 ≤ k) (ht : tm + k ≤ 3870720000) (hw : Pch c cs w) (hld : ld = 0 ∨ ld = 1) (htd : td = 0 ∨ td = 1) (hc : td = 1 → w ≠ 0) (hpl : pl ≤ n) (hn : n ≤ 1500) (hvf : ∃ i, i < D ∧ v = VF i) : PfE S1 A B n D (E + 1) V VF := by
  obtain ⟨⟨h1, h2, h3, h4, h5⟩, he, hvo⟩ := h
  obtain ⟨a1, a2, a3, a4, a5, a6, a7, a8, a9, a10, a11, a12, a13, a14⟩ := a
  refine ⟨⟨a2, by omega, by rw [(a1.2.1 79 rfl).1]; exact h3, h4, h5⟩, fun e hl => ?_, fun u hu => ?_⟩
  · unfold EvC
    rw [a3, a4, a5, a6, a7, a8, a11, a12]
    by_cases q : e = E
    · subst q
      simp only [uq_at]
      refine ⟨⟨v, hv, rfl⟩, ⟨tm, k, hk, ht, rfl, rfl⟩, ⟨c, cs, hw⟩, htd, hld, fun j hj => Or.inl (a10 j hj), fun z => Or.inl ⟨v, hv, rfl, ?_, uq_at⟩⟩
      rw [uq_at, z, if_neg (by decide)]; exact nI_ne_neg (by omega)
    · rw [uq_ne q, uq_ne q, uq_ne q, uq_ne q, uq_ne q, uq_ne q]
      obtain ⟨b1, b2, b3, b4, b5, b6, b7⟩ := he e (by omega)
      refine ⟨b1, b2, b3, b4, b5, fun j hj => by rw [a9 _ (by omega)]; exact b6 j hj, fun z => ?_⟩
      rcases b7 z with ⟨u, u1, u2, u3, u4⟩ | ⟨o, o1, o2, o3⟩
      · by_cases y : u = v
        · subst y
          exact Or.inr ⟨E, by omega, by omega, by rw [uq_at]; exact u2.symm⟩
        · exact Or.inl ⟨u, u1, u2, by rw [uq_ne y]; exact u3, by rw [uq_ne y]; exact u4⟩
      · exact Or.inr ⟨o, o1, by omega, by rw [uq_ne (by omega)]; exact o3⟩
  · unfold VoC
    rw [a3, a6, a11, a12, a13]
    obtain ⟨b1, b2, b3⟩ := hvo u hu
    by_cases q : u = v
    · subst q
      simp only [uq_at]
      refine ⟨b1, Or.inr ⟨E, by omega, rfl⟩, ?_⟩
      rcases htd with z | z
      · rw [z, if_pos rfl]; exact Or.inl rfl
      · rw [z, if_neg (by decide)]
        exact Or.inr ⟨⟨pl, hpl, rfl⟩, ⟨E, by omega, rfl, uq_at, by rw [uq_at]; exact hc z⟩, hvf⟩
    · rw [uq_ne q, uq_ne q]
      refine ⟨b1, b2.imp id (fun ⟨e, e1, e2⟩ => ⟨e, by omega, e2⟩), b3.imp id (fun ⟨y1, ⟨e, e1, e2, e3, e4⟩, y3⟩ => ⟨y1, ⟨e, by omega, e2, ?_, ?_⟩, y3⟩)⟩
      · rw [uq_ne (by omega)]; exact e3
      · rw [uq_ne (by omega)]; exact e4
theorem RpN.add (h : RpN S Sr R0 A B n sy E V M) (a : AddC S S1 A E v tm k w ld td pl) (b : AddR Sr Sr1 A E v tm k c cs ld td pl) (hw : Pch c cs w) (hE : E < 300) (hv : v < V) (htd : td = 0 ∨ td = 1) (hpl : pl < 2 ^ 31) : RpN S1 Sr1 R0 A B n sy (E + 1) V M := by
  obtain ⟨⟨h1, h2, h3⟩, he, ho, hm⟩ := h
  obtain ⟨a1, a2, a3, a4, a5, a6, a7, a8, a9, a10, a11, a12, a13, a14⟩ := a
  obtain ⟨b1, b2, b3, b4, b5, b6, b7, b8, b9, b10, b11, b12, b13, b14, b15, b16⟩ := b
  refine ⟨⟨b2, by rw [(b1.2.1 149 rfl).1]; exact h2, by rw [(b1.2.1 153 rfl).1]; exact h3⟩, fun e hl => ?_, fun u hu => ?_, fun i hi => ?_⟩
  · by_cases q : e = E
    · subst q
      unfold RpE
      rw [a3, a4, a5, a6, a7, a8, b3, b5, b6, b7, b8]
      simp only [uq_at]
      exact ⟨trivial, ⟨c, cs, hw, b11⟩, trivial, trivial, trivial, trivial, fun j hj => by rw [a10 j hj, b13 j hj]; exact Or.inl ⟨rfl, rfl⟩⟩
    · unfold RpE
      rw [a3, a4, a5, a6, a7, a8, b3, b5, b6, b7, b8]
      rw [uq_ne q, uq_ne q, uq_ne q, uq_ne q, uq_ne q, uq_ne q, uq_ne q, uq_ne q, uq_ne q, uq_ne q, uq_ne q]
      obtain ⟨c1, ⟨c', cs', c2, c3⟩, c4, c5, c6, c7, c8⟩ := he e (by omega)
      have lc : c' ≤ 6 := c2.1
      refine ⟨c1, ⟨c', cs', c2, ?_, fun i hi => ?_⟩, c4, c5, c6, c7, fun j hj => by rw [a9 _ (by omega), b12 _ (by omega)]; exact c8 j hj⟩
      · rw [b4, uq_ne q]; exact c3.1
      · rw [b10 72 _ (by omega) (by omega) (by omega), b10 73 _ (by omega) (by omega) (by omega), b10 74 _ (by omega) (by omega) (by omega)]; exact c3.2 i hi
  · unfold RpO
    rw [a11, a12, a13, b14, b15, b9]
    obtain ⟨c1, c2⟩ := ho u hu
    refine ⟨c1, ?_⟩
    by_cases q : u = v
    · subst q
      simp only [uq_at]
      rcases htd with z | z
      · rw [z, if_pos rfl, if_pos rfl]; exact Or.inl ⟨rfl, rfl⟩
      · rw [z, if_neg (by decide), if_neg (by decide)]
        exact Or.inr ⟨nI_ne_neg hpl, E, by omega, rfl, rfl, uq_at⟩
    · rw [uq_ne q, uq_ne q, uq_ne q]
      refine c2.imp id (fun ⟨y, e, e1, e2, e3, e4⟩ => ⟨y, e, by omega, e2, e3, ?_⟩)
      rw [uq_ne (by omega)]; exact e4
  · unfold RpM
    rw [(a1.2.2 10 rfl).2, (a1.2.2 11 rfl).1, (a1.2.2 12 rfl).1, (b1.2.2 78 rfl).2, (b1.2.2 79 rfl).1, (b1.2.2 80 rfl).1]
    exact hm i hi
/-! the class -/
theorem s_hasVoice {Q : Int32 → PS → Prop} (h79 : fI S 79 (A 7) = nI V) (hv : v < V) (hV : V ≤ 12) (hQ : Q 1 S) : wp_X8_hasVoice (A 7) (nI v) S Q := by
  unfold wp_X8_hasVoice
  rw [if_neg (nI_pos (by omega)), h79, if_neg (nI_ge hv (by omega)), show (12 : Int32) = nI 12 from rfl, if_neg (nI_ge (by omega) (by omega))]
  exact hQ
theorem s_eholds {Q : Int32 → PS → Prop} {e : Nat} (h70 : fI S 70 (A 7) = nI E) (he : e < E) (hE : E ≤ 300) (hQ : Q 1 S) : wp_X8_holds (A 7) (nI e) S Q := by
  unfold wp_X8_holds
  rw [if_neg (nI_pos (by omega)), h70, if_neg (nI_ge he (by omega)), show (300 : Int32) = nI 300 from rfl, if_neg (nI_ge (by omega) (by omega))]
  exact hQ
theorem s_eholds_no {Q : Int32 → PS → Prop} (hQ : Q 0 S) : wp_X8_holds (A 7) (-1) S Q := by
  unfold wp_X8_holds
  rw [if_pos (by decide)]; exact hQ
theorem s_tiePlace {Q : Int32 → PS → Prop} (hl : LayS S A) (h79 : fI S 79 (A 7) = nI V) (hv : v < V) (hV : V ≤ 12) (hQ : Q (aI S 38 (A 38) v) S) : wp_X8_tiePlace (A 7) (nI v) S Q := by
  unfold wp_X8_tiePlace
  refine s_hasVoice h79 hv hV ?_
  rw [if_neg (by decide)]
  refine ⟨_, hl.f82, by rw [hl.n38]; exact vp_in_nI (by omega) (by omega), ?_⟩
  rw [nI_clamp (by omega)]; exact hQ
theorem s_latestP {Q : Int64 → PS → Prop} {e : Nat} (hl : LayS S A) (h79 : fI S 79 (A 7) = nI V) (hv : v < V) (hV : V ≤ 12) (h70 : fI S 70 (A 7) = nI E) (hE : E ≤ 300) (he : e < E) (h37 : aI S 37 (A 37) v = nI e) (hQ : Q (aL S 31 (A 31) e) S) : wp_X8_latestPitches (A 7) (nI v) S Q := by
  unfold wp_X8_latestPitches
  refine s_hasVoice h79 hv hV ?_
  intro K hK
  rw [if_neg (by decide)]
  refine ⟨_, hl.f81, by rw [hl.n37]; exact vp_in_nI (by omega) (by omega), ?_⟩
  rw [nI_clamp (by omega), h37]
  apply hK
  refine s_eholds h70 he hE ?_
  rw [if_neg (by decide)]
  refine ⟨_, hl.f74, by rw [hl.n31]; exact vp_in_nI (by omega) (by omega), ?_⟩
  rw [nI_clamp (by omega)]; exact hQ
theorem nar0 : vp_nar .boolean 0 = 0 := by decide
theorem nar1 : vp_nar .boolean 1 = 1 := by decide
theorem slt (E j : Nat) : (nI E * 3) + nI (j + 1) - 1 = nI (3 * E + j) := by
  rw [show (3 : Int32) = nI 3 from rfl, show nI E * nI 3 = nI (E * 3) from (Int32.ofNat_mul E 3).symm, nI_add, show E * 3 + (j + 1) = 3 * E + j + 1 by omega, nI_pred]
theorem s_addEvent {Q : PS → Prop} (hl : LayS S A) (h79 : fI S 79 (A 7) = nI V) (hv : v < V) (hV : V ≤ 12) (h70 : fI S 70 (A 7) = nI E) (hE : E < 300)
    (hQ : ∀ S1, (∀ q, AddC S (sL S1 28 (A 3) (lN (tm + k))) A E v tm k w (if aI S 38 (A 38) v = -1 then 0 else 1) 0 q) → St S1 = St S → fL S1 28 (A 3) = fL S 28 (A 3) → (∀ j a, j ≠ 70 → fI S1 j a = fI S j a) → (∀ j a, fL S1 j a = fL S j a) → (∀ S0, Kws (PW A S0) S0 S → Kws (PW A S0) S0 S1) → Q S1) : wp_X8_addEvent (A 7) (nI v) (lN tm) (lN k) w S Q := by
  unfold wp_X8_addEvent
  refine s_hasVoice h79 hv hV ?_
  rw [if_neg (by decide), h70, show (300 : Int32) = nI 300 from rfl, if_pos (nI_lt hE (by omega))]
  rintro _ rfl _ rfl
  rw [nI_1]
  have cv : (nI v).toNatClampNeg = v := nI_clamp (by omega)
  have vE : ∀ {r : Nat}, r = 300 → vp_in (nI E) r := fun h => by rw [h]; exact vp_in_nI hE (by omega)
  have vv : ∀ {r : Nat}, r = 12 → vp_in (nI v) r := fun h => by rw [h]; exact vp_in_nI (by omega) (by omega)
  refine ⟨_, hl.f71, vE hl.n28, ?_⟩
  rintro _ rfl
  refine ⟨_, hl.f72, vE hl.n29, ?_⟩
  rintro _ rfl
  refine ⟨_, hl.f73, vE hl.n30, ?_⟩
  rintro _ rfl
  refine ⟨_, hl.f74, vE hl.n31, ?_⟩
  rintro _ rfl
  refine ⟨_, hl.f75, vE hl.n32, ?_⟩
  rintro _ rfl
  refine ⟨_, hl.f76, _, hl.f82, vv hl.n38, ?_⟩
  intro K hK
  rw [nI_clamp (by omega), nI_clamp (by omega), nar0]
  simp only [fI_s, fI_sn, fL_s, fL_sn, aI_w, aI_wn, aL_w, aL_wn, fI_sL, fI_wI, fI_wL, fL_sI, fL_wI, fL_wL, aI_sI, aI_sL, aI_wL, aL_sI, aL_sL, aL_wI, fR_sI, fR_sL, fR_wI, fR_wL, aN_sI, aN_sL, aN_wI, aN_wL, ne_eq, Nat.reduceEqDiff, not_false_eq_true]
  generalize hS5 : wI (wL (wL (wL (wI (sI S 70 (A 7) (nI (E + 1))) 28 (A 28) E (nI v)) 29 (A 29) E (lN tm)) 30 (A 30) E (lN k)) 31 (A 31) E w) 32 (A 32) E 0 = S5
  have st5 : St S5 = St S := by rw [← hS5]; rfl
  have hl5 := hl.st st5
  -- behind the flag
  have fin : ∀ ld : Int32, ld = (if aI S 38 (A 38) v = -1 then 0 else 1) → K (A 33) (nI E) ld S5 := by
    intro ld hld
    apply hK
    refine ⟨vE hl5.n33, ?_⟩
    rintro _ rfl
    have cE : (nI E).toNatClampNeg = E := nI_clamp (by omega)
    rw [cE]
    have hn : vp_nar .boolean ld = ld := by rw [hld]; split; exact nar0; exact nar1
    rw [hn]
    intro P hP
    have hl6 : LayS (wI S5 33 (A 33) E ld) A := hl5.st rfl
    have key : ∀ f i S6, f + i = 3 → St S6 = St S → (∀ j a, fI S6 j a = fI S5 j a) → (∀ j a, fL S6 j a = fL S5 j a) → (∀ r, r ≠ 34 → aI S6 r = aI (wI S5 33 (A 33) E ld) r) → (∀ r, aL S6 r = aL S5 r) → (∀ q, q < 3 * E → aI S6 34 (A 34) q = aI S5 34 (A 34) q) → (∀ j, j < i → aI S6 34 (A 34) (3 * E + j) = -1) → (∀ S0, Kws (PW A S0) S0 S → Kws (PW A S0) S0 S6) → P (nI (i + 1)) S6 := by
      intro f
      induction f with
      | zero =>
        intro i S6 i1 s6 e1 e2 e3 e4 e5 e6 e7
        have i3 : i = 3 := by omega
        subst i3
        have hl7 := hl.st s6
        apply hP
        rw [if_pos (by decide)]
        refine ⟨_, hl7.f81, vv hl7.n37, ?_⟩
        rintro _ rfl
        refine ⟨_, hl7.f82, vv hl7.n38, ?_⟩
        rintro _ rfl
        try rw [cv]
        refine hQ _ (fun q => ?_) s6 (by simp only [fI_s, fI_sn, fL_s, fL_sn, aI_w, aI_wn, aL_w, aL_wn, fI_sL, fI_wI, fI_wL, fL_sI, fL_wI, fL_wL, aI_sI, aI_sL, aI_wL, aL_sI, aL_sL, aL_wI, fR_sI, fR_sL, fR_wI, fR_wL, aN_sI, aN_sL, aN_wI, aN_wL, ne_eq, Nat.reduceEqDiff, not_false_eq_true]; rw [e2, ← hS5]; rfl) (fun j a hj => by simp only [fI_s, fI_sn, fL_s, fL_sn, aI_w, aI_wn, aL_w, aL_wn, fI_sL, fI_wI, fI_wL, fL_sI, fL_wI, fL_wL, aI_sI, aI_sL, aI_wL, aL_sI, aL_sL, aL_wI, fR_sI, fR_sL, fR_wI, fR_wL, aN_sI, aN_sL, aN_wI, aN_wL, ne_eq, Nat.reduceEqDiff, not_false_eq_true]; rw [e1, ← hS5]; simp only [fI_s, fI_sn, fL_s, fL_sn, aI_w, aI_wn, aL_w, aL_wn, fI_sL, fI_wI, fI_wL, fL_sI, fL_wI, fL_wL, aI_sI, aI_sL, aI_wL, aL_sI, aL_sL, aL_wI, fR_sI, fR_sL, fR_wI, fR_wL, aN_sI, aN_sL, aN_wI, aN_wL, ne_eq, Nat.reduceEqDiff, not_false_eq_true]; rw [fI_sn _ _ _ _ _ hj]) (fun j a => by simp only [fI_s, fI_sn, fL_s, fL_sn, aI_w, aI_wn, aL_w, aL_wn, fI_sL, fI_wI, fI_wL, fL_sI, fL_wI, fL_wL, aI_sI, aI_sL, aI_wL, aL_sI, aL_sL, aL_wI, fR_sI, fR_sL, fR_wI, fR_wL, aN_sI, aN_sL, aN_wI, aN_wL, ne_eq, Nat.reduceEqDiff, not_false_eq_true]; rw [e2, ← hS5]; rfl) (fun S0 h => ((e7 S0 h).wI (PW.at rfl)).wI (PW.at rfl))
        have ki : ∀ j, jEc j = false → fI S6 j = fI S j := fun j hj => by
          funext a; rw [e1, ← hS5]; simp only [fI_s, fI_sn, fL_s, fL_sn, aI_w, aI_wn, aL_w, aL_wn, fI_sL, fI_wI, fI_wL, fL_sI, fL_wI, fL_wL, aI_sI, aI_sL, aI_wL, aL_sI, aL_sL, aL_wI, fR_sI, fR_sL, fR_wI, fR_wL, aN_sI, aN_sL, aN_wI, aN_wL, ne_eq, Nat.reduceEqDiff, not_false_eq_true]; rw [fI_sn _ _ _ _ _ (by unfold jEc at hj; simp only [decide_eq_false_iff_not] at hj; omega)]
        have kl : ∀ j, fL S6 j = fL S j := fun j => by funext a; rw [e2, ← hS5]; rfl
        refine ⟨⟨s6, fun j hj => ⟨?_, ?_⟩, fun r hr => ⟨?_, ?_⟩⟩, ?_, ?_, ?_, ?_, ?_, ?_, ?_, fun i hi => ?_, fun j hj => ?_, ?_, ?_, ?_, ?_⟩
        · simp only [fI_s, fI_sn, fL_s, fL_sn, aI_w, aI_wn, aL_w, aL_wn, fI_sL, fI_wI, fI_wL, fL_sI, fL_wI, fL_wL, aI_sI, aI_sL, aI_wL, aL_sI, aL_sL, aL_wI, fR_sI, fR_sL, fR_wI, fR_wL, aN_sI, aN_sL, aN_wI, aN_wL, ne_eq, Nat.reduceEqDiff, not_false_eq_true]; exact ki j hj
        · rw [fL_sn _ _ _ _ _ (by unfold jEc at hj; simp only [decide_eq_false_iff_not] at hj; omega)]; simp only [fI_s, fI_sn, fL_s, fL_sn, aI_w, aI_wn, aL_w, aL_wn, fI_sL, fI_wI, fI_wL, fL_sI, fL_wI, fL_wL, aI_sI, aI_sL, aI_wL, aL_sI, aL_sL, aL_wI, fR_sI, fR_sL, fR_wI, fR_wL, aN_sI, aN_sL, aN_wI, aN_wL, ne_eq, Nat.reduceEqDiff, not_false_eq_true]; exact kl j
        · have : r ≠ 28 ∧ r ≠ 32 ∧ r ≠ 33 ∧ r ≠ 34 ∧ r ≠ 37 ∧ r ≠ 38 := by unfold rEc at hr; simp only [decide_eq_false_iff_not] at hr; omega
          rw [aI_sL, aI_wn _ _ _ _ _ _ this.2.2.2.2.2, aI_wn _ _ _ _ _ _ this.2.2.2.2.1, e3 r this.2.2.2.1, aI_wn _ _ _ _ _ _ this.2.2.1, ← hS5, aI_wn _ _ _ _ _ _ this.2.1, aI_wL, aI_wL, aI_wL, aI_wn _ _ _ _ _ _ this.1]; rfl
        · have : r ≠ 29 ∧ r ≠ 30 ∧ r ≠ 31 := by unfold rEc at hr; simp only [decide_eq_false_iff_not] at hr; omega
          rw [aL_sL, aL_wI, aL_wI, e4 r, ← hS5, aL_wI, aL_wn _ _ _ _ _ _ this.2.2, aL_wn _ _ _ _ _ _ this.2.1, aL_wn _ _ _ _ _ _ this.1]; rfl
        · simp only [fI_s, fI_sn, fL_s, fL_sn, aI_w, aI_wn, aL_w, aL_wn, fI_sL, fI_wI, fI_wL, fL_sI, fL_wI, fL_wL, aI_sI, aI_sL, aI_wL, aL_sI, aL_sL, aL_wI, fR_sI, fR_sL, fR_wI, fR_wL, aN_sI, aN_sL, aN_wI, aN_wL, ne_eq, Nat.reduceEqDiff, not_false_eq_true]; rw [e1, ← hS5]; simp only [fI_s, fI_sn, fL_s, fL_sn, aI_w, aI_wn, aL_w, aL_wn, fI_sL, fI_wI, fI_wL, fL_sI, fL_wI, fL_wL, aI_sI, aI_sL, aI_wL, aL_sI, aL_sL, aL_wI, fR_sI, fR_sL, fR_wI, fR_wL, aN_sI, aN_sL, aN_wI, aN_wL, ne_eq, Nat.reduceEqDiff, not_false_eq_true]
        · simp only [fI_s, fI_sn, fL_s, fL_sn, aI_w, aI_wn, aL_w, aL_wn, fI_sL, fI_wI, fI_wL, fL_sI, fL_wI, fL_wL, aI_sI, aI_sL, aI_wL, aL_sI, aL_sL, aL_wI, fR_sI, fR_sL, fR_wI, fR_wL, aN_sI, aN_sL, aN_wI, aN_wL, ne_eq, Nat.reduceEqDiff, not_false_eq_true]; rw [e3 28 (by decide), ← hS5]; simp only [fI_s, fI_sn, fL_s, fL_sn, aI_w, aI_wn, aL_w, aL_wn, fI_sL, fI_wI, fI_wL, fL_sI, fL_wI, fL_wL, aI_sI, aI_sL, aI_wL, aL_sI, aL_sL, aL_wI, fR_sI, fR_sL, fR_wI, fR_wL, aN_sI, aN_sL, aN_wI, aN_wL, ne_eq, Nat.reduceEqDiff, not_false_eq_true]
        · simp only [fI_s, fI_sn, fL_s, fL_sn, aI_w, aI_wn, aL_w, aL_wn, fI_sL, fI_wI, fI_wL, fL_sI, fL_wI, fL_wL, aI_sI, aI_sL, aI_wL, aL_sI, aL_sL, aL_wI, fR_sI, fR_sL, fR_wI, fR_wL, aN_sI, aN_sL, aN_wI, aN_wL, ne_eq, Nat.reduceEqDiff, not_false_eq_true]; rw [e4, ← hS5]; simp only [fI_s, fI_sn, fL_s, fL_sn, aI_w, aI_wn, aL_w, aL_wn, fI_sL, fI_wI, fI_wL, fL_sI, fL_wI, fL_wL, aI_sI, aI_sL, aI_wL, aL_sI, aL_sL, aL_wI, fR_sI, fR_sL, fR_wI, fR_wL, aN_sI, aN_sL, aN_wI, aN_wL, ne_eq, Nat.reduceEqDiff, not_false_eq_true]
        · simp only [fI_s, fI_sn, fL_s, fL_sn, aI_w, aI_wn, aL_w, aL_wn, fI_sL, fI_wI, fI_wL, fL_sI, fL_wI, fL_wL, aI_sI, aI_sL, aI_wL, aL_sI, aL_sL, aL_wI, fR_sI, fR_sL, fR_wI, fR_wL, aN_sI, aN_sL, aN_wI, aN_wL, ne_eq, Nat.reduceEqDiff, not_false_eq_true]; rw [e4, ← hS5]; simp only [fI_s, fI_sn, fL_s, fL_sn, aI_w, aI_wn, aL_w, aL_wn, fI_sL, fI_wI, fI_wL, fL_sI, fL_wI, fL_wL, aI_sI, aI_sL, aI_wL, aL_sI, aL_sL, aL_wI, fR_sI, fR_sL, fR_wI, fR_wL, aN_sI, aN_sL, aN_wI, aN_wL, ne_eq, Nat.reduceEqDiff, not_false_eq_true]
        · simp only [fI_s, fI_sn, fL_s, fL_sn, aI_w, aI_wn, aL_w, aL_wn, fI_sL, fI_wI, fI_wL, fL_sI, fL_wI, fL_wL, aI_sI, aI_sL, aI_wL, aL_sI, aL_sL, aL_wI, fR_sI, fR_sL, fR_wI, fR_wL, aN_sI, aN_sL, aN_wI, aN_wL, ne_eq, Nat.reduceEqDiff, not_false_eq_true]; rw [e4, ← hS5]; simp only [fI_s, fI_sn, fL_s, fL_sn, aI_w, aI_wn, aL_w, aL_wn, fI_sL, fI_wI, fI_wL, fL_sI, fL_wI, fL_wL, aI_sI, aI_sL, aI_wL, aL_sI, aL_sL, aL_wI, fR_sI, fR_sL, fR_wI, fR_wL, aN_sI, aN_sL, aN_wI, aN_wL, ne_eq, Nat.reduceEqDiff, not_false_eq_true]
        · simp only [fI_s, fI_sn, fL_s, fL_sn, aI_w, aI_wn, aL_w, aL_wn, fI_sL, fI_wI, fI_wL, fL_sI, fL_wI, fL_wL, aI_sI, aI_sL, aI_wL, aL_sI, aL_sL, aL_wI, fR_sI, fR_sL, fR_wI, fR_wL, aN_sI, aN_sL, aN_wI, aN_wL, ne_eq, Nat.reduceEqDiff, not_false_eq_true]; rw [e3 32 (by decide), ← hS5]; simp only [fI_s, fI_sn, fL_s, fL_sn, aI_w, aI_wn, aL_w, aL_wn, fI_sL, fI_wI, fI_wL, fL_sI, fL_wI, fL_wL, aI_sI, aI_sL, aI_wL, aL_sI, aL_sL, aL_wI, fR_sI, fR_sL, fR_wI, fR_wL, aN_sI, aN_sL, aN_wI, aN_wL, ne_eq, Nat.reduceEqDiff, not_false_eq_true]
        · simp only [fI_s, fI_sn, fL_s, fL_sn, aI_w, aI_wn, aL_w, aL_wn, fI_sL, fI_wI, fI_wL, fL_sI, fL_wI, fL_wL, aI_sI, aI_sL, aI_wL, aL_sI, aL_sL, aL_wI, fR_sI, fR_sL, fR_wI, fR_wL, aN_sI, aN_sL, aN_wI, aN_wL, ne_eq, Nat.reduceEqDiff, not_false_eq_true]; rw [e3 33 (by decide), ← hS5, ← hld]; simp only [fI_s, fI_sn, fL_s, fL_sn, aI_w, aI_wn, aL_w, aL_wn, fI_sL, fI_wI, fI_wL, fL_sI, fL_wI, fL_wL, aI_sI, aI_sL, aI_wL, aL_sI, aL_sL, aL_wI, fR_sI, fR_sL, fR_wI, fR_wL, aN_sI, aN_sL, aN_wI, aN_wL, ne_eq, Nat.reduceEqDiff, not_false_eq_true]
        · simp only [fI_s, fI_sn, fL_s, fL_sn, aI_w, aI_wn, aL_w, aL_wn, fI_sL, fI_wI, fI_wL, fL_sI, fL_wI, fL_wL, aI_sI, aI_sL, aI_wL, aL_sI, aL_sL, aL_wI, fR_sI, fR_sL, fR_wI, fR_wL, aN_sI, aN_sL, aN_wI, aN_wL, ne_eq, Nat.reduceEqDiff, not_false_eq_true]; rw [e5 i hi, ← hS5]; simp only [fI_s, fI_sn, fL_s, fL_sn, aI_w, aI_wn, aL_w, aL_wn, fI_sL, fI_wI, fI_wL, fL_sI, fL_wI, fL_wL, aI_sI, aI_sL, aI_wL, aL_sI, aL_sL, aL_wI, fR_sI, fR_sL, fR_wI, fR_wL, aN_sI, aN_sL, aN_wI, aN_wL, ne_eq, Nat.reduceEqDiff, not_false_eq_true]
        · simp only [fI_s, fI_sn, fL_s, fL_sn, aI_w, aI_wn, aL_w, aL_wn, fI_sL, fI_wI, fI_wL, fL_sI, fL_wI, fL_wL, aI_sI, aI_sL, aI_wL, aL_sI, aL_sL, aL_wI, fR_sI, fR_sL, fR_wI, fR_wL, aN_sI, aN_sL, aN_wI, aN_wL, ne_eq, Nat.reduceEqDiff, not_false_eq_true]; exact e6 j hj
        · simp only [fI_s, fI_sn, fL_s, fL_sn, aI_w, aI_wn, aL_w, aL_wn, fI_sL, fI_wI, fI_wL, fL_sI, fL_wI, fL_wL, aI_sI, aI_sL, aI_wL, aL_sI, aL_sL, aL_wI, fR_sI, fR_sL, fR_wI, fR_wL, aN_sI, aN_sL, aN_wI, aN_wL, ne_eq, Nat.reduceEqDiff, not_false_eq_true]; rw [e3 37 (by decide), ← hS5]; simp only [fI_s, fI_sn, fL_s, fL_sn, aI_w, aI_wn, aL_w, aL_wn, fI_sL, fI_wI, fI_wL, fL_sI, fL_wI, fL_wL, aI_sI, aI_sL, aI_wL, aL_sI, aL_sL, aL_wI, fR_sI, fR_sL, fR_wI, fR_wL, aN_sI, aN_sL, aN_wI, aN_wL, ne_eq, Nat.reduceEqDiff, not_false_eq_true]
        · simp only [fI_s, fI_sn, fL_s, fL_sn, aI_w, aI_wn, aL_w, aL_wn, fI_sL, fI_wI, fI_wL, fL_sI, fL_wI, fL_wL, aI_sI, aI_sL, aI_wL, aL_sI, aL_sL, aL_wI, fR_sI, fR_sL, fR_wI, fR_wL, aN_sI, aN_sL, aN_wI, aN_wL, ne_eq, Nat.reduceEqDiff, not_false_eq_true]; rw [e3 38 (by decide), ← hS5]; simp only [fI_s, fI_sn, fL_s, fL_sn, aI_w, aI_wn, aL_w, aL_wn, fI_sL, fI_wI, fI_wL, fL_sI, fL_wI, fL_wL, aI_sI, aI_sL, aI_wL, aL_sI, aL_sL, aL_wI, fR_sI, fR_sL, fR_wI, fR_wL, aN_sI, aN_sL, aN_wI, aN_wL, ne_eq, Nat.reduceEqDiff, not_false_eq_true, if_true]
        · simp only [fI_s, fI_sn, fL_s, fL_sn, aI_w, aI_wn, aL_w, aL_wn, fI_sL, fI_wI, fI_wL, fL_sI, fL_wI, fL_wL, aI_sI, aI_sL, aI_wL, aL_sI, aL_sL, aL_wI, fR_sI, fR_sL, fR_wI, fR_wL, aN_sI, aN_sL, aN_wI, aN_wL, ne_eq, Nat.reduceEqDiff, not_false_eq_true]; rw [e4, ← hS5]; simp only [fI_s, fI_sn, fL_s, fL_sn, aI_w, aI_wn, aL_w, aL_wn, fI_sL, fI_wI, fI_wL, fL_sI, fL_wI, fL_wL, aI_sI, aI_sL, aI_wL, aL_sI, aL_sL, aL_wI, fR_sI, fR_sL, fR_wI, fR_wL, aN_sI, aN_sL, aN_wI, aN_wL, ne_eq, Nat.reduceEqDiff, not_false_eq_true]
        · simp only [fI_s, fI_sn, fL_s, fL_sn, aI_w, aI_wn, aL_w, aL_wn, fI_sL, fI_wI, fI_wL, fL_sI, fL_wI, fL_wL, aI_sI, aI_sL, aI_wL, aL_sI, aL_sL, aL_wI, fR_sI, fR_sL, fR_wI, fR_wL, aN_sI, aN_sL, aN_wI, aN_wL, ne_eq, Nat.reduceEqDiff, not_false_eq_true]
      | succ f ih =>
        intro i S6 i1 s6 e1 e2 e3 e4 e5 e6 e7
        have hl7 := hl.st s6
        apply hP
        rw [show (3 : Int32) = nI 3 from rfl, if_neg (nI_nlt (by omega) (by omega))]
        refine ⟨_, hl7.f77, ?_⟩
        unfold wp_X8_slot
        rw [slt]
        refine ⟨by rw [hl7.n34]; exact vp_in_nI (by omega) (by omega), ?_⟩
        rintro _ rfl _ rfl
        rw [nI_clamp (by omega), nI_1]
        refine ih (i + 1) _ (by omega) s6 e1 e2 (fun r hr => by rw [aI_wn _ _ _ _ _ _ hr]; exact e3 r hr) e4 (fun q hq => ?_) (fun j hj => ?_) ?_
        · simp only [fI_s, fI_sn, fL_s, fL_sn, aI_w, aI_wn, aL_w, aL_wn, fI_sL, fI_wI, fI_wL, fL_sI, fL_wI, fL_wL, aI_sI, aI_sL, aI_wL, aL_sI, aL_sL, aL_wI, fR_sI, fR_sL, fR_wI, fR_wL, aN_sI, aN_sL, aN_wI, aN_wL, ne_eq, Nat.reduceEqDiff, not_false_eq_true]; rw [uq_ne (by omega)]; exact e5 q hq
        · simp only [fI_s, fI_sn, fL_s, fL_sn, aI_w, aI_wn, aL_w, aL_wn, fI_sL, fI_wI, fI_wL, fL_sI, fL_wI, fL_wL, aI_sI, aI_sL, aI_wL, aL_sI, aL_sL, aL_wI, fR_sI, fR_sL, fR_wI, fR_wL, aN_sI, aN_sL, aN_wI, aN_wL, ne_eq, Nat.reduceEqDiff, not_false_eq_true]
          by_cases z : j = i
          · rw [z, uq_at]
          · rw [uq_ne (by omega)]; exact e6 j (by omega)
        · exact fun S0 h => (e7 S0 h).wI (PW.at rfl)
    exact key 3 0 _ rfl (by rw [← st5]; rfl) (fun _ _ => rfl) (fun _ _ => rfl) (fun _ _ => rfl) (fun _ => rfl) (fun q _ => by simp only [fI_s, fI_sn, fL_s, fL_sn, aI_w, aI_wn, aL_w, aL_wn, fI_sL, fI_wI, fI_wL, fL_sI, fL_wI, fL_wL, aI_sI, aI_sL, aI_wL, aL_sI, aL_sL, aL_wI, fR_sI, fR_sL, fR_wI, fR_wL, aN_sI, aN_sL, aN_wI, aN_wL, ne_eq, Nat.reduceEqDiff, not_false_eq_true]) (fun j hj => by omega) (fun S0 h => by rw [← hS5]; exact ((((((h.sI (PW.at rfl)).wI (PW.at rfl)).wL (PW.at rfl)).wL (PW.at rfl)).wL (PW.at rfl)).wI (PW.at rfl)).wI (PW.at rfl))
  by_cases z : aI S 38 (A 38) v = -1
  · rw [if_pos z]; exact fin 0 (by rw [if_pos z])
  · rw [if_neg z]; exact fin 1 (by rw [if_neg z])
end
