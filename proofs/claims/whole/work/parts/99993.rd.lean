/-! The law's calls: read. -/
section
variable {S S1 S2 S9 : PS} {A T : Nat → Nat} {c b r n : Nat}
variable {E V M nd st t n : Nat} {vo ti le pc : Nat → Nat} {cs : Nat → Nat → Nat} {td co : Nat → Bool} {wp wz : Nat → Nat → Nat} {vb mt mu md : Nat → Nat} {od w : Nat → Int32}
theorem Frd.ext (h : Frd S9 S2 A) : Ext S9 S2 := by
  obtain ⟨S1, k1, kw⟩ := h
  have e : Ext S9 S1 := fun a ha => ⟨by rw [St.pL k1.1]; exact ha, by rw [St.pK k1.1], by rw [St.aN k1.1]⟩
  exact e.tr kw.1
theorem kne {q : Nat} (hb : Rf S b r) (hq : Rf S (A q) q) (h : r ≠ q) : b ≠ A q := fun e => h (by rw [← hb.2, e, hq.2])
/-- what a reading leaves of a cell -/
def Lft (S S2 : PS) (b : Nat) : Prop := (∀ j, jCr j = false → fI S2 j b = fI S j b ∧ fL S2 j b = fL S j b) ∧ (∀ j, fR S2 j b = fR S j b) ∧ ∀ q, rCr q = false → aI S2 q b = aI S q b ∧ aL S2 q b = aL S q b
theorem rd_fr (kw : Kws (SW2 A) S S9) (fr : Frd S9 S2 A) (hb : Rf S b r) (h1 : r ≠ 1) (hs : ∀ q, scw q = true → b ≠ A q) (h5 : b ≠ A 5) (h8 : b ≠ A 8) (hp : ∀ q, pwr q = true ∨ q = 0 → b ≠ A q) : Lft S S2 b := by
  have sm := SW2.at kw hb.1 hs h5 h8
  obtain ⟨f1, f2, f3⟩ := fr.at (hb.tr kw.1) hp h1
  refine ⟨fun j hj => ⟨(f1 j hj).1.trans sm.fI, (f1 j hj).2.trans sm.fL⟩, fun j => (f2 j).trans sm.fR, fun q hq => ⟨?_, ?_⟩⟩
  · funext i; rw [(f3 q i hq).1, sm.aI]
  · funext i; rw [(f3 q i hq).2, sm.aL]
theorem scw_le (h : scw r = true) : r ≤ 119 ∧ r ≠ 1 ∧ r ≠ 14 ∧ r ≠ 5 ∧ r ≠ 8 := by
  unfold scw at h; rw [decide_eq_true_iff] at h; omega
theorem pwr_le (h : pwr r = true ∨ r = 0) : r ≤ 119 ∧ r ≠ 1 ∧ r ≠ 14 ∧ r ≠ 5 ∧ r ≠ 8 := by
  rcases h with h | h
  · unfold pwr at h; rw [decide_eq_true_iff] at h; omega
  · omega
/-- a cell of another kind -/
theorem lft_k (hA : AdL S A) (kw : Kws (SW2 A) S S9) (fr : Frd S9 S2 A) (hb : Rf S b r) (h1 : r ≠ 1) (hs : scw r = false) (hp : pwr r = false) (h0 : r ≠ 0) (h5 : r ≠ 5) (h8 : r ≠ 8) : Lft S S2 b := by
  have ne : ∀ q, q ≤ 119 → q ≠ 1 → q ≠ 14 → r ≠ q → b ≠ A q := fun q a1 a2 a3 h => kne hb (hA q a1 a2 a3) h
  refine rd_fr kw fr hb h1 (fun q hq => ?_) (ne 5 (by omega) (by omega) (by omega) h5) (ne 8 (by omega) (by omega) (by omega) h8) (fun q hq => ?_)
  · obtain ⟨a1, a2, a3, _⟩ := scw_le hq
    exact ne q a1 a2 a3 (fun e => by rw [← e, hs] at hq; cases hq)
  · obtain ⟨a1, a2, a3, _⟩ := pwr_le hq
    refine ne q a1 a2 a3 (fun e => ?_)
    rcases hq with hq | hq
    · rw [← e, hp] at hq; cases hq
    · omega
/-- a cell of the score told of -/
theorem lft_t (hA : AdL S A) (kw : Kws (SW2 A) S S9) (fr : Frd S9 S2 A) (hr : scw r = true) (hb : Rf S (T r) r) (hne : T r ≠ A r) : Lft S S2 (T r) := by
  obtain ⟨a1, a2, a3, a5, a8⟩ := scw_le hr
  have ne : ∀ q, q ≤ 119 → q ≠ 1 → q ≠ 14 → T r ≠ A q := fun q b1 b2 b3 => by
    by_cases e : r = q
    · rw [← e]; exact hne
    · exact kne hb (hA q b1 b2 b3) e
  refine rd_fr kw fr hb a2 (fun q hq => ?_) (ne 5 (by omega) (by omega) (by omega)) (ne 8 (by omega) (by omega) (by omega)) (fun q hq => ?_)
  · obtain ⟨b1, b2, b3, _⟩ := scw_le hq
    exact ne q b1 b2 b3
  · obtain ⟨b1, b2, b3, _⟩ := pwr_le hq
    exact ne q b1 b2 b3
theorem Dcl.fr {B : Nat → Nat} (h : Dcl S B E V M nd st t n vo ti le pc cs td co wp wz vb mt mu md od w) (ex : Ext S S2) (hB : ∀ r, scw r = true → Rf S (B r) r) (hf : ∀ r, scw r = true → Lft S S2 (B r)) : Dcl S2 B E V M nd st t n vo ti le pc cs td co wp wz vb mt mu md od w := by
  have f := fun r j (hr : scw r = true) (hj : jCr j = false) => ((hf r hr).1 j hj)
  have a := fun r (hr : scw r = true) (hq : rCr r = false) => ((hf r hr).2.2 r hq)
  unfold Dcl Dce at h ⊢
  rw [(f 7 70 rfl rfl).1, (f 7 79 rfl rfl).1, (f 7 84 rfl rfl).1, (f 7 85 rfl rfl).1, (f 7 86 rfl rfl).2, (f 2 17 rfl rfl).1, (a 28 rfl rfl).1, (a 29 rfl rfl).2, (a 30 rfl rfl).2, (a 31 rfl rfl).2, (a 32 rfl rfl).1, (a 33 rfl rfl).1, (a 34 rfl rfl).1, (a 36 rfl rfl).2, (a 10 rfl rfl).2, (a 11 rfl rfl).1, (a 12 rfl rfl).1, (a 35 rfl rfl).1, (a 27 rfl rfl).1]
  refine ⟨⟨fun t ht => ?_, fun t ht => ?_⟩, h.2⟩
  · have h2 : ∀ t, t ∈ LaySf → scw t.2.1 = true := by decide
    rw [(hf t.2.1 (h2 t ht)).2.1]; exact h.1.1 t ht
  · have h2 : ∀ t, t ∈ LaySn → scw t.1 = true := by decide
    rw [(ex _ (hB t.1 (h2 t ht)).1).2.2]; exact h.1.2 t ht
theorem Drf.fr (h : Drf S A E V M nd st t n vo ti le pc cs td co wp wz vb mt mu md od w) (lm : LayM S2 A) (s9 : Lft S S2 (A 9)) (hs : ∀ r, 101 ≤ r → r ≤ 117 → Lft S S2 (A r)) : Drf S2 A E V M nd st t n vo ti le pc cs td co wp wz vb mt mu md od w := by
  have f := fun j (hj : jCr j = false) => s9.1 j hj
  have a := fun r (h1 : 101 ≤ r) (h2 : r ≤ 117) => (hs r h1 h2).2.2 r (by unfold rCr; rw [decide_eq_false_iff_not]; omega)
  unfold Drf Dre at h ⊢
  rw [(f 206 rfl).1, (f 207 rfl).1, (f 208 rfl).1, (f 209 rfl).1, (f 210 rfl).1, (f 211 rfl).2, (a 101 (by omega) (by omega)).1, (a 102 (by omega) (by omega)).1, (a 103 (by omega) (by omega)).1, (a 104 (by omega) (by omega)).1, (a 105 (by omega) (by omega)).1, (a 106 (by omega) (by omega)).2, (a 107 (by omega) (by omega)).2, (a 108 (by omega) (by omega)).1, (a 109 (by omega) (by omega)).1, (a 110 (by omega) (by omega)).1, (a 111 (by omega) (by omega)).1, (a 112 (by omega) (by omega)).1, (a 113 (by omega) (by omega)).1, (a 114 (by omega) (by omega)).2, (a 115 (by omega) (by omega)).2, (a 116 (by omega) (by omega)).1, (a 117 (by omega) (by omega)).1]
  exact ⟨lm, h.2⟩
/-- all that a reading leaves -/
def Rdl (S S2 : PS) (A T : Nat → Nat) (c : Nat) : Prop := (Ext S S2 ∧ LayM S2 A ∧ LayC0 S2 A ∧ (∀ j, j ≠ 43 → fR S2 j (A 8) = fR S j (A 8)) ∧ fI S2 88 (A 8) = 0 ∧ fI S2 98 (A 9) = fI S 98 (A 9) ∧ fI S2 104 (A 9) = fI S 104 (A 9) ∧ ∀ q, aI S2 40 (A 40) q = aI S 40 (A 40) q) ∧ (∀ r, scw r = true → Lft S S2 (T r)) ∧ Prn S2 A c ∧ Lft S S2 (A 9) ∧ ∀ r, 101 ≤ r → r ≤ 117 → Lft S S2 (A r)
theorem rd_left (iv : Inv S A T c) (kw : Kws (SW2 A) S S9) (fr9 : ∀ j b, ¬ (j = 43 ∧ b = A 5) → fR S9 j b = fR S j b) (z88 : fI S9 88 (A 8) = 0) (frd : Frd S9 S2 A) (pl : Pl3 S2 A) : Rdl S S2 A T c := by
  obtain ⟨cr, ⟨n, wt⟩, ft, tl, pn⟩ := iv
  obtain ⟨⟨hA, hT⟩, ⟨lo, lc, ls, lm⟩, ⟨h94, h93, h119⟩, m, F, pa⟩ := cr
  have ex : Ext S S2 := kw.1.tr frd.ext
  have ad : Ad S A := fun r hr => by
    have h := hr
    unfold adr at h
    rw [decide_eq_true_iff] at h
    exact hA r (by omega) (by omega) (by omega)
  have ad9 : Ad S9 A := ad.ext kw.1
  have lk : ∀ r, r ≤ 119 → r ≠ 1 → r ≠ 14 → scw r = false → pwr r = false → r ≠ 0 → r ≠ 5 → r ≠ 8 → Lft S S2 (A r) := fun r a1 a2 a3 b1 b2 b3 b4 b5 => lft_k hA kw frd (hA r a1 a2 a3) a2 b1 b2 b3 b4 b5
  have big : ∀ r, 39 ≤ r → r ≤ 119 → Lft S S2 (A r) := fun r a1 a2 => lk r a2 (by omega) (by omega) (by unfold scw; rw [decide_eq_false_iff_not]; omega) (by unfold pwr; rw [decide_eq_false_iff_not]; omega) (by omega) (by omega) (by omega)
  have l9 : Lft S S2 (A 9) := lk 9 (by omega) (by omega) (by omega) rfl rfl (by omega) (by omega) (by omega)
  have l4 : Lft S S2 (A 4) := lk 4 (by omega) (by omega) (by omega) rfl rfl (by omega) (by omega) (by omega)
  have h8 := hA 8 (by omega) (by omega) (by omega)
  have h5 := hA 5 (by omega) (by omega) (by omega)
  have h6 := hA 6 (by omega) (by omega) (by omega)
  have fr8 := frd.at (h8.tr kw.1) (ad_ne ad9 (h8.tr kw.1) rfl (by omega)) (by omega)
  have fr5 := frd.at (h5.tr kw.1) (ad_ne ad9 (h5.tr kw.1) rfl (by omega)) (by omega)
  have fr6 := frd.at (h6.tr kw.1) (ad_ne ad9 (h6.tr kw.1) rfl (by omega)) (by omega)
  refine ⟨⟨ex, ⟨fun t ht => ?_, fun t ht => ?_⟩, ⟨fun t ht z => ?_, fun t ht => ?_⟩, fun j hj => ?_, ?_, (l9.1 98 rfl).1, (l9.1 104 rfl).1, fun q => ?_⟩, fun r hr => lft_t hA kw frd hr (hT r hr).1 (hT r hr).2, ?_, l9, fun r a b => big r (by omega) (by omega)⟩
  · have q : ∀ t, t ∈ LayMf → t.2.1 = 9 := by decide
    have q1 := q t ht
    have g := lm.1 t ht
    rw [q1] at g ⊢
    rw [l9.2.1]; exact g
  · have q : ∀ t, t ∈ LayMn → t.1 ≤ 119 ∧ t.1 ≠ 1 ∧ t.1 ≠ 14 := by decide
    obtain ⟨a, b, d⟩ := q t ht
    rw [(ex _ (hA t.1 a b d).1).2.2]; exact lm.2 t ht
  · have q : ∀ t, t ∈ LayCf → t.1 ≠ 43 → t.2.1 = 5 ∨ t.2.1 = 6 ∨ t = (21, 3, 5) ∨ t = (22, 3, 0) ∨ t = (23, 3, 13) := by decide
    have g := lc.1 t ht z
    rcases q t ht z with e | e | e | e | e
    · rw [e] at g ⊢; rw [fr5.2.1, fr9 _ _ (fun y => z y.1)]; exact g
    · rw [e] at g ⊢; rw [fr6.2.1, fr9 _ _ (fun y => z y.1)]; exact g
    · rw [e]; exact pl.1
    · rw [e]; exact pl.2.1
    · rw [e]; exact pl.2.2.1
  · have q : ∀ t, t ∈ LayCn → t.1 ≤ 119 ∧ t.1 ≠ 1 ∧ t.1 ≠ 14 := by decide
    obtain ⟨a, b, d⟩ := q t ht
    rw [(ex _ (hA t.1 a b d).1).2.2]; exact lc.2 t ht
  · rw [fr8.2.1, fr9 _ _ (fun y => hj y.1)]
  · rw [(fr8.1 88 rfl).1]; exact z88
  · rw [((big 40 (by omega) (by omega)).2.2 40 rfl).1]
  · obtain ⟨P, l, ⟨⟨p1, p2, p3⟩, ⟨p4, p5, p6⟩, p7, p8, p9, p10⟩, asc, hl, h213, h118⟩ := pn
    have lp : Lft S S2 P := lft_k hA kw frd p2 (by omega) rfl rfl (by omega) (by omega) (by omega)
    refine ⟨P, l, ⟨⟨by rw [l4.2.1]; exact p1, p2.tr ex, by rw [(ex _ p2.1).2.2]; exact p3⟩, ⟨by rw [(l4.1 41 rfl).1]; exact p4, p5, p6⟩, by rw [(lp.2.2 14 rfl).1]; exact p7, by rw [(lp.2.2 14 rfl).1]; exact p8, by rw [l4.2.1]; exact p9, ?_⟩, asc, hl, by rw [(l9.1 213 rfl).1]; exact h213, by rw [((big 118 (by omega) (by omega)).2.2 118 rfl).1]; exact h118⟩
    rw [(ex _ (hA 15 (by omega) (by omega) (by omega)).1).2.2]; exact p10
theorem mix_mix : mix (mix A T) A = A := by
  funext r
  unfold mix
  by_cases h : scw r = true
  · rw [if_pos h]
  · rw [if_neg h, if_neg h]
set_option maxHeartbeats 4000000 in
theorem a_read {K : PS → Prop} (iv : Inv S A T c) (hK : ∀ S1 A' T', Inv S1 A' T' c → A' 8 = A 8 → A' 9 = A 9 → A' 119 = A 119 → K S1) : wp_X11_read (A 8) (201, 3015) S (fun r28 S27 => wp_X12_read (A 9) S27 (fun r31 S30 => if r28 = r31 then K S30 else False)) := by
  have iv' := iv
  obtain ⟨cr, ⟨n, hn, h88, h98, hby⟩, ft, tl, pn⟩ := iv'
  obtain ⟨⟨hA, hT⟩, ⟨lo, lc, ls, lm⟩, ⟨h94, h93, h119⟩, m, F, pa⟩ := cr
  have ad : Ad S A := fun r hr => by
    have h := hr
    unfold adr at h
    rw [decide_eq_true_iff] at h
    exact hA r (by omega) (by omega) (by omega)
  have hex : ∃ Sr, RT Sr A (Bof (aI S 39 (A 39)) n) n ∧ fI Sr 102 (A 9) = 0 := by
    have g := Bof.rt (S := sI (sI (wW S 41 (A 41) (aI S 39 (A 39))) 100 (A 9) (nI n)) 102 (A 9) 0) (A := A) (w := aI S 39 (A 39)) (n := n) (lm.st rfl) (by rw [fI_sn _ _ _ _ _ (by decide), fI_s]) hn (fun q hq => (hby q hq).2) (fun q hq => by rw [aI_sI, aI_sI, aI_wW, if_pos ⟨rfl, rfl⟩])
    exact ⟨_, g.1, fI_s _ _ _ _⟩
  refine s_read11 lo lc ls ad (hA 8 (by omega) (by omega) (by omega)) pa h88 hn (fun q hq => (hby q hq).2) h94 ⟨by show 201 ≤ 201 + m; omega, by show 3015 ≤ 3015 + 15 * m; omega⟩ hex ?_ ?_
  · intro S9 kw fr9 z88 ct S2 e m' F' ke e0 e1 pa2 frd pl hrd
    obtain ⟨⟨ex, lm2, lc2, f8, z2, g98, g104, g40⟩, lt, pn2, l9, l101⟩ := rd_left iv kw fr9 z88 frd pl
    refine r_fail (w := aI S 39 (A 39)) lm2 (by rw [g98]; exact h98) hn (fun q hq => (hby q hq).2) (fun q hq => by rw [g40]; exact (hby q hq).1) ke hrd (fun S3 k3 g => ?_)
    rw [if_pos rfl]
    have cr2 : Cor S2 A T := by
      refine ⟨⟨fun r a b d => (hA r a b d).tr ex, fun r hr => ⟨(hT r hr).1.tr ex, (hT r hr).2⟩⟩, ⟨?_, lc2, pl.2.2.2, lm2⟩, ⟨by rw [f8 _ (by decide)]; exact h94, by rw [f8 _ (by decide)]; exact h93, by rw [(ex _ (hA 119 (by omega) (by omega) (by omega)).1).2.2]; exact h119⟩, m', F', pa2⟩
      unfold LayO
      rw [f8 _ (by decide), f8 _ (by decide), f8 _ (by decide), f8 _ (by decide), f8 _ (by decide), f8 _ (by decide), (ex _ (hA 39 (by omega) (by omega) (by omega)).1).2.2]
      exact lo
    refine hK S3 A T ⟨cr2.se k3.1, ⟨0, Nat.zero_le _, ?_, g.2.1, fun q hq => absurd hq (Nat.not_lt_zero _)⟩, ?_, ?_, pn2.kp k3 rfl rfl rfl rfl⟩ rfl rfl rfl
    · rw [(k3.2.1 88 rfl).1]; exact z2
    · rw [g.2.2.1, (k3.2.1 0 rfl).1, e0]
    · obtain ⟨E, V, M, nd, st, t, n1, vo, ti, le, pc, cs, td, co, wp, wz, vb, mt, mu, md, od, w, d1, d2, d3⟩ := tl
      refine ⟨E, V, M, nd, st, t, n1, vo, ti, le, pc, cs, td, co, wp, wz, vb, mt, mu, md, od, w, d1, (d2.fr ex (fun r hr => by rw [mix_s hr]; exact (hT r hr).1) (fun r hr => by rw [mix_s hr]; exact lt r hr)).se k3.1 (fun j hj => k3.2.1 j ?_) (fun r hr => k3.2.2 r ?_), (d3.fr lm2 l9 l101).kp k3 (fun j a b => ?_) (fun r a b => ?_)⟩
      · unfold jRh; rw [decide_eq_false_iff_not]; omega
      · unfold rRf; rw [decide_eq_false_iff_not]; omega
      · unfold jRh; rw [decide_eq_false_iff_not]; omega
      · unfold rRf; rw [decide_eq_false_iff_not]; omega
  · intro S9 kw fr9 z88 ct S1 S2 m' F' N nd bh par ks E V M st t s v pa2 frd pl g0 hrd hst hpl h54 so
    obtain ⟨⟨ex, lm2, lc2, f8, z2, g98, g104, g40⟩, lt, pn2, l9, l101⟩ := rd_left iv kw fr9 z88 frd pl
    generalize hS3 : sR (sR S2 94 (A 8) (some (A 7))) 95 (A 8) (some (T 7)) = S3
    have fr3 : ∀ j b, j ≠ 94 → j ≠ 95 → fR S3 j b = fR S2 j b := fun j b a1 a2 => by rw [← hS3, fR_sR, if_neg (fun y => a2 y.1), fR_sR, if_neg (fun y => a1 y.1)]
    have f94 : fR S3 94 (A 8) = some (A 7) := by rw [← hS3, fR_sR, if_neg (fun y => absurd y.1 (by decide)), fR_sR, if_pos ⟨rfl, rfl⟩]
    have f95 : fR S3 95 (A 8) = some (T 7) := by rw [← hS3, fR_sR, if_pos ⟨rfl, rfl⟩]
    have i3 : fI S3 = fI S2 := by rw [← hS3]; rfl
    have L3 : fL S3 = fL S2 := by rw [← hS3]; rfl
    have ai3 : aI S3 = aI S2 := by rw [← hS3]; rfl
    have aL3 : aL S3 = aL S2 := by rw [← hS3]; rfl
    have an3 : aN S3 = aN S2 := by rw [← hS3]; rfl
    have ar3 : aR S3 = aR S2 := by rw [← hS3]; rfl
    have pl3 : pL S3 = pL S2 := by rw [← hS3]; rfl
    have pk3 : pK S3 = pK S2 := by rw [← hS3]; rfl
    clear hS3
    have ex3 : Ext S S3 := fun a ha => ⟨by rw [pl3]; exact (ex a ha).1, by rw [pk3]; exact (ex a ha).2.1, by rw [an3]; exact (ex a ha).2.2⟩
    have lm3 : LayM S3 A := by
      have q : ∀ t, t ∈ LayMf → t.1 ≠ 94 ∧ t.1 ≠ 95 := by decide
      exact ⟨fun t ht => by rw [fr3 _ _ (q t ht).1 (q t ht).2]; exact lm2.1 t ht, fun t ht => by rw [an3]; exact lm2.2 t ht⟩
    have qs : ∀ t, t ∈ LaySf → t.1 ≠ 94 ∧ t.1 ≠ 95 := by decide
    have qc : ∀ t, t ∈ LayCf → t.1 ≠ 94 ∧ t.1 ≠ 95 := by decide
    have ls3 : LayS S3 A := ⟨fun t ht => by rw [fr3 _ _ (qs t ht).1 (qs t ht).2]; exact pl.2.2.2.1 t ht, fun t ht => by rw [an3]; exact pl.2.2.2.2 t ht⟩
    refine r_good (w := aI S 39 (A 39)) (S1 := S1) (S2 := S2) lm3 (by rw [i3, g98]; exact h98) hn (fun q hq => (hby q hq).2) (fun q hq => by rw [ai3, g40]; exact (hby q hq).1) hrd hst hpl h54 so (fun S4 k4 z4 tol h101 => ?_)
    rw [if_pos rfl]
    -- the score told of from now on
    have h27 : ∀ q, q < n → aI S2 27 (A 27) q &&& 255 = aI S 39 (A 39) q &&& 255 := by
      intro q hq
      have h27k := hA 27 (by omega) (by omega) (by omega)
      have f27 := frd.at (h27k.tr kw.1) (ad_ne (ad.ext kw.1) (h27k.tr kw.1) rfl (by omega)) (by omega)
      rw [(f27.2.2 27 q rfl).1, ct.2.2.2 q hq, Bof.at hq]
    have lm4 : LayM S4 A := lm3.st k4.1
    obtain ⟨vo, ti, le, pc, cs, td, co, wp, wz, vb, mt, mu, md, od, d1, d2, d3⟩ := told_of pl.2.2.2 lm4 so tol (fun q hq => (hby q hq).2) hn h27 h101
    have hj : ∀ j, j < 88 → jRg j = false := fun j hj => by unfold jRg; rw [decide_eq_false_iff_not]; omega
    have hr : ∀ r, r < 39 → rRg r = false := fun r hr => by unfold rRg; rw [decide_eq_false_iff_not]; omega
    have d2' : Dcl S3 A E V M nd st t n vo ti le pc cs td co wp wz vb mt mu md od (aI S 39 (A 39)) := by
      have h := d2
      unfold Dcl Dce at h ⊢
      rw [i3, L3, ai3, aL3]
      exact ⟨ls3, h.2⟩
    have d4 := d2'.se k4.1 (fun j h => k4.2.1 j (hj j h)) (fun r h => k4.2.2 r (hr r h))
    -- the score in work from now on
    have lsT : LayS S3 (mix A T) := by
      obtain ⟨E', V', M', nd', st', t', n', vo', ti', le', pc', cs', td', co', wp', wz', vb', mt', mu', md', od', w', _, x2, _⟩ := tl
      have y := (x2.fr ex (fun r hr => by rw [mix_s hr]; exact (hT r hr).1) (fun r hr => by rw [mix_s hr]; exact lt r hr)).1
      exact ⟨fun t ht => by rw [fr3 _ _ (qs t ht).1 (qs t ht).2]; exact y.1 t ht, fun t ht => by rw [an3]; exact y.2 t ht⟩
    have cr3 : Cor S3 (mix A T) A := by
      refine ⟨⟨fun r a b d => ?_, fun r hr => ⟨?_, ?_⟩⟩, ⟨?_, ⟨fun t ht z => ?_, fun t ht => ?_⟩, lsT, ⟨fun t ht => ?_, fun t ht => ?_⟩⟩, ⟨?_, ?_, ?_⟩, m', F', ?_⟩
      · by_cases h : scw r = true
        · rw [mix_s h]; exact (hT r h).1.tr ex3
        · rw [mix_n (Bool.eq_false_iff.mpr h)]; exact (hA r a b d).tr ex3
      · obtain ⟨a, b, d, _⟩ := scw_le hr
        exact (hA r a b d).tr ex3
      · rw [mix_s hr]; exact fun e => (hT r hr).2 e.symm
      · unfold LayO
        rw [mix_n (r := 8) rfl, mix_n (r := 39) rfl, mix_n (r := 0) rfl, mix_n (r := 5) rfl, mix_n (r := 6) rfl, mix_n (r := 3) rfl, mix_s (r := 7) rfl, fr3 87 _ (by decide) (by decide), fr3 89 _ (by decide) (by decide), fr3 90 _ (by decide) (by decide), fr3 91 _ (by decide) (by decide), fr3 92 _ (by decide) (by decide), f8 _ (by decide), f8 _ (by decide), f8 _ (by decide), f8 _ (by decide), f8 _ (by decide), (ex3 _ (hA 39 (by omega) (by omega) (by omega)).1).2.2]
        exact ⟨lo.1, lo.2.1, lo.2.2.1, lo.2.2.2.1, lo.2.2.2.2.1, f95, lo.2.2.2.2.2.2⟩
      · have q : ∀ t, t ∈ LayCf → t.1 ≠ 43 → scw t.2.1 = false ∧ scw t.2.2 = false := by decide
        rw [mix_n (q t ht z).1, mix_n (q t ht z).2, fr3 _ _ (qc t ht).1 (qc t ht).2]; exact lc2.1 t ht z
      · by_cases h : scw t.1 = true
        · have q : ∀ t, t ∈ LayCn → scw t.1 = true → t = (27, 1500) := by decide
          rw [q t ht h]; exact lsT.2 (27, 1500) (by decide)
        · rw [mix_n (Bool.eq_false_iff.mpr h), an3]; exact lc2.2 t ht
      · have q : ∀ t, t ∈ LayMf → scw t.2.1 = false ∧ scw t.2.2 = false := by decide
        rw [mix_n (q t ht).1, mix_n (q t ht).2]; exact lm3.1 t ht
      · have q : ∀ t, t ∈ LayMn → scw t.1 = false := by decide
        rw [mix_n (q t ht)]; exact lm3.2 t ht
      · rw [mix_n (r := 8) rfl]; exact f94
      · rw [mix_n (r := 8) rfl, mix_n (r := 4) rfl, fr3 93 _ (by decide) (by decide), f8 _ (by decide)]; exact h93
      · rw [mix_n (r := 119) rfl, (ex3 _ (hA 119 (by omega) (by omega) (by omega)).1).2.2]; exact h119
      · unfold PfA Rf
        rw [mix_n (r := 13) rfl, ar3, pl3, pk3]; exact pa2
    have pn3 : Prn S3 A c := by
      obtain ⟨P, l, p1, p2, p3, p4, p5⟩ := pn2
      refine ⟨P, l, ?_, p2, p3, by rw [i3]; exact p4, by rw [ai3]; exact p5⟩
      unfold Pr Rf at p1 ⊢
      rw [fr3 40 _ (by decide) (by decide), fr3 42 _ (by decide) (by decide), pl3, pk3, an3, i3, ai3]; exact p1
    have pn4 := pn3.kp k4 rfl rfl rfl rfl
    refine hK S4 (mix A T) A ⟨cr3.se k4.1, ⟨0, Nat.zero_le _, ?_, ?_, fun q hq => absurd hq (Nat.not_lt_zero _)⟩, ?_, ⟨E, V, M, nd, st, t, n, vo, ti, le, pc, cs, td, co, wp, wz, vb, mt, mu, md, od, aI S 39 (A 39), d1, ?_, ?_⟩, ?_⟩ (mix_n rfl) (mix_n rfl) (mix_n rfl)
    · rw [mix_n (r := 8) rfl, (k4.2.1 88 rfl).1, i3]; exact z2
    · rw [mix_n (r := 9) rfl]; exact z4.2.1
    · rw [mix_n (r := 9) rfl, mix_n (r := 0) rfl, (k4.2.1 104 rfl).1, (k4.2.1 0 rfl).1, i3, g104, g0, ft]
      have h0 := hA 0 (by omega) (by omega) (by omega)
      refine (SW2.at kw h0.1 (fun q hq => ?_) ?_ ?_).fI.symm
      · obtain ⟨a1, a2, a3, _⟩ := scw_le hq
        exact kne h0 (hA q a1 a2 a3) (fun e => by rw [← e] at hq; exact absurd hq (by decide))
      · exact kne h0 (hA 5 (by omega) (by omega) (by omega)) (by decide)
      · exact kne h0 (hA 8 (by omega) (by omega) (by omega)) (by decide)
    · rw [mix_mix]; exact d4
    · have q : ∀ r, scw r = false → mix A T r = A r := fun r h => mix_n h
      unfold Drf Dre LayM at d3 ⊢
      have q1 : ∀ t, t ∈ LayMf → scw t.2.1 = false ∧ scw t.2.2 = false := by decide
      have q2 : ∀ t, t ∈ LayMn → scw t.1 = false := by decide
      rw [q 9 rfl, q 101 rfl, q 102 rfl, q 103 rfl, q 104 rfl, q 105 rfl, q 106 rfl, q 107 rfl, q 108 rfl, q 109 rfl, q 110 rfl, q 111 rfl, q 112 rfl, q 113 rfl, q 114 rfl, q 115 rfl, q 116 rfl, q 117 rfl]
      exact ⟨⟨fun t ht => by rw [q _ (q1 t ht).1, q _ (q1 t ht).2]; exact d3.1.1 t ht, fun t ht => by rw [q _ (q2 t ht)]; exact d3.1.2 t ht⟩, d3.2⟩
    · obtain ⟨P, l, p1, p2, p3, p4, p5⟩ := pn4
      refine ⟨P, l, Pr.mix.mpr p1, p2, p3, by rw [mix_n (r := 9) rfl]; exact p4, by rw [mix_n (r := 118) rfl]; exact p5⟩
end
