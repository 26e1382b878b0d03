/-! The class's read: text and music. -/
section
variable {S S9 S1 S2 : PS} {A F : Nat → Nat} {B : Nat → Int32} {n m T0 : Nat} {k : Nat × Nat}
/-- where things lie behind a reading -/
def Pl3 (S : PS) (A : Nat → Nat) : Prop := fR S 21 (A 3) = some (A 5) ∧ fR S 22 (A 3) = some (A 0) ∧ fR S 23 (A 3) = some (A 13) ∧ LayS S A
/-- what a reading leaves as it was -/
def Frd (S9 S2 : PS) (A : Nat → Nat) : Prop := ∃ S1, KCr S9 S1 ∧ Kws (PWb A S1) S1 S2
theorem pwr_adr {r : Nat} (h : pwr r = true) : adr r = true := by
  unfold pwr at h
  unfold adr
  rw [decide_eq_true_iff] at h ⊢
  omega
theorem no8 (ad : Ad S A) (h8 : Rf S (A 8) 8) : ¬ PWb A S (A 8) := by
  intro z
  rcases z with (⟨r, r1, r2⟩ | z) | z
  · have q := (ad r (pwr_adr r1)).2
    rw [← r2, h8.2] at q
    rw [← q] at r1
    exact absurd r1 (by decide)
  · rw [h8.2] at z; exact absurd z (by decide)
  · have q := (ad 0 rfl).2
    rw [← z, h8.2] at q
    exact absurd q (by decide)
theorem rd_gd {Q : Int32 → PS → Prop} {a b : Nat} {v : Int32} (hg : Gd b v S) (h : wp_X7_readText a S (fun r S1 => (r ≠ 0 → Gd b v S1) → Q r S1)) : wp_X7_readText a S Q := n_X7_readText (b := b) (v := v) hg (fun _ _ hg hR => hR hg) h
theorem s_rd1 {Q : Int32 → PS → Prop} (lo : LayO S9 A) (ls : LayS S9 A) (ad : Ad S9 A) (h8 : Rf S9 (A 8) 8) (pa : PfA S9 A 0 m F) (ct : CT S9 A B n) (cl : Clr S9 A) (z : fI S9 45 (A 5) = 0 ∧ fI S9 53 (A 5) = 0 ∧ fI S9 54 (A 5) = 0) (h94 : fR S9 94 (A 8) = some T0) (hb : 201 ≤ k.1 + m ∧ 3015 ≤ k.2 + 15 * m)
    (hex : ∃ Sr, RT Sr A B n ∧ fI Sr 102 (A 9) = 0)
    (h0 : ∀ S2 e m' F', Kd e → fI S2 0 (A 0) = nI e.1 → fI S2 1 (A 0) = nI e.2 → PfA S2 A 0 m' F' → Frd S9 S2 A → Pl3 S2 A → (∀ Sr, RT Sr A B n → fI Sr 102 (A 9) = 0 → ∀ Q2 : PS → Prop, (∀ Sr1, Keep jRk rRf Sr Sr1 → fI Sr1 102 (A 9) = nI e.1 → fI Sr1 103 (A 9) = nI e.2 → Q2 Sr1) → wp_X12_readText (A 9) Sr Q2) → Q ((-1000) - nI e.2) S2)
    (h1 : ∀ S1 S2 m' F' N nd bh par ks E V M st t s v, PfA S2 A 0 m' F' → Frd S9 S2 A → Pl3 S2 A → fI S2 0 (A 0) = fI S9 0 (A 0) →
      (∀ Sr, RT Sr A B n → fI Sr 102 (A 9) = 0 → ∀ Q2 : PS → Prop, (∀ Sr1, KM Sr Sr1 → fI Sr1 102 (A 9) = 0 → Red S1 Sr1 A B n → PFm (A 9) 0 Sr1 Q2) → wp_X12_readText (A 9) Sr Q2) →
      (∀ Sr', Red S1 Sr' A B n → ∃ pc' T wr sy g ow, RSR S1 Sr' A B n N nd bh par ks pc' T wr sy g ow) →
      (∀ R0 pc T wr sy g ow, RSR S1 R0 A B n N nd bh par ks pc T wr sy g ow → fI R0 102 (A 9) = 0 → ∀ Q2 : PS → Prop, (∀ Sr1, RFin S2 Sr1 R0 A B n sy E V M st t → Q2 Sr1) → PFm (A 9) 0 R0 Q2) →
      fI S1 54 (A 5) = nI nd → Sco S2 A B n nd E V M st t s v → Q (nI E) (sR (sR S2 94 (A 8) (some (A 7))) 95 (A 8) (some T0))) : RdK (A 8) k Q S9 := by
  have lo' := lo
  obtain ⟨o1, o2, o3, o4, o5, o6, o7⟩ := lo
  unfold RdK
  refine ⟨_, o4, ?_⟩
  refine rd_gd (b := A 0) (v := fI S9 0 (A 0)) ⟨(ad 0 rfl).1, rfl⟩ ?_
  refine s_readText ct z.1 z.2.1 z.2.2 hex (fun S1 k1 rdx hrd => ?_) (fun S1 e k1 ke e0 e1 hrd => ?_)
  · intro hg0
    have g0 := (hg0 (by decide)).2
    obtain ⟨Sr1, rd1⟩ := rdx
    have f1 : fR S1 = fR S9 := St.fR k1.1
    have ad1 : Ad S1 A := fun r hr => by
      have q := ad r hr
      exact ⟨by rw [St.pL k1.1]; exact q.1, by rw [St.pK k1.1]; exact q.2⟩
    have h81 : Rf S1 (A 8) 8 := ⟨by rw [St.pL k1.1]; exact h8.1, by rw [St.pK k1.1]; exact h8.2⟩
    have lc := ct.1
    have cl1 : Clr S1 A := cl.eq (EqE.of k1 rfl rfl (fun r r1 r2 => by unfold rCr; rw [decide_eq_false_iff_not]; omega)) (EqM.of k1 rfl (fun r r1 r2 => by unfold rCr; rw [decide_eq_false_iff_not]; omega))
    have ls1 := ls.st k1.1
    have a2 : PfL (sR S1 25 (A 3) (some (A 7))) A := by
      have q : ∀ j b, j ≠ 25 → fR (sR S1 25 (A 3) (some (A 7))) j b = fR S9 j b := fun j b y => by rw [fR_sR, if_neg (fun w => y w.1), f1]
      have no25 : ∀ t, t ∈ LaySf → t.1 ≠ 25 := by decide
      have an0 : aN S1 = aN S9 := St.aN k1.1
      have an : aN (sR S1 25 (A 3) (some (A 7))) = aN S9 := an0
      refine ⟨by rw [q _ _ (by decide)]; exact lc.1 (21, 3, 5) (by decide), by rw [q _ _ (by decide)]; exact lc.1 (22, 3, 0) (by decide), by rw [q _ _ (by decide)]; exact lc.1 (23, 3, 13) (by decide), by rw [fR_sR, if_pos ⟨rfl, rfl⟩], by rw [an]; exact lc.2 (13, 201) (by decide), fun t ht => ?_, fun t ht => ?_⟩
      · rw [q _ _ (no25 t ht)]; exact ls.1 t ht
      · rw [an]; exact ls.2 t ht
    have a40 : PfA S1 A 0 m F := pa.st k1.1
    have a4 : PfA (sR S1 25 (A 3) (some (A 7))) A 0 m F := a40
    obtain ⟨pc, N, nd, bh, par, ks, lv, sc, hst⟩ := rd1.stc ad1
    have n8 := no8 ad1 h81
    intro K hK
    rw [if_neg (by decide)]
    refine ⟨_, by rw [f1]; exact o5, _, by rw [f1]; exact o6, k, ⟨Nat.le_refl _, Nat.le_refl _⟩, ?_⟩
    refine s_play sc a2 a4 cl1 hb (fun S2 m' F' E V M st t s v kw pl pa2 so hpl => ?_) (fun S2 m' F' e cb hpl => ?_)
    · rw [if_neg (by decide)]
      have kw' : Kws (PWb A S1) S1 S2 := kw.mono (fun b z => Or.inl z)
      have sm := kw'.2 (A 8) h81.1 n8
      have s00 : Same S1 S2 (A 0) := kw.at ad1 rfl rfl (by decide)
      have r94 : fR S2 94 (A 8) = some T0 := by rw [(sm.1 94).2.2, f1]; exact h94
      have r95 : fR S2 95 (A 8) = some (A 7) := by rw [(sm.1 95).2.2, f1]; exact o6
      refine ⟨_, r94, _, r95, ?_⟩
      rintro _ rfl _ rfl
      refine ⟨A 7, by rw [fR_sR, if_neg (fun w => absurd w.1 (by decide)), fR_sR, if_pos ⟨rfl, rfl⟩], ?_⟩
      obtain ⟨⟨⟨VF, pe⟩, _⟩, _⟩ := id so
      have e70 : fI (sR (sR S2 94 (A 8) (some (A 7))) 95 (A 8) (some T0)) 70 (A 7) = nI E := pe.1.1
      rw [e70]
      exact h1 S1 S2 m' F' N nd bh par ks E V M st t s v pa2 ⟨S1, k1, kw'⟩ ⟨pl.1, pl.2.1, pl.2.2.1, pl.2.2.2.2.2⟩ (s00.fI.trans g0) hrd hst (fun R0 pc T wr sy g ow hr hz Q2 hq => hpl R0 pc T wr sy g ow hr hz Q2 hq) sc.2.2.1.2.2.2.2.2.2 so
    · rw [if_pos rfl]
      have sm := cb.2.1.2 (A 8) h81.1 n8
      apply hK
      refine ⟨_, by rw [(sm.1 89).2.2, f1]; exact o2, ?_⟩
      rw [cb.2.2.2.2.2]
      exact h0 S2 e m' F' cb.1 cb.2.2.2.2.1 cb.2.2.2.2.2 cb.2.2.2.1 ⟨S1, k1, cb.2.1⟩ ⟨cb.2.2.1.1, cb.2.2.1.2.1, cb.2.2.1.2.2.1, cb.2.2.1.2.2.2.2.2⟩ (fail_pf hrd hst hpl)
  · intro _ K hK
    rw [if_pos rfl]
    apply hK
    refine ⟨_, by rw [St.fR k1.1]; exact o2, ?_⟩
    rw [e1]
    exact h0 S1 e m F ke e0 e1 (pa.st k1.1) ⟨S1, k1, Kws.rf⟩ ⟨by rw [St.fR k1.1]; exact ct.1.1 (21, 3, 5) (by decide), by rw [St.fR k1.1]; exact ct.1.1 (22, 3, 0) (by decide), by rw [St.fR k1.1]; exact ct.1.1 (23, 3, 13) (by decide), ls.st k1.1⟩ (fail_rd hrd)
end
