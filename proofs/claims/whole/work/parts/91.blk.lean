/-! Items with a block: both. -/
section
variable {S S10 S13 Sr : PS} {A : Nat → Nat} {B : Nat → Int32} {n p op N pc nd pq : Nat} {inm : Bool} {stk : List (Nat × Nat × Nat × Nat × Nat)} {G : Int32 → PS → Prop} {Q : PS → Prop}
/-- no item begins here -/
def NoB (B : Nat → Int32) (q : Nat) : Prop := B q = -1 ∨ isBeg (B q) = false
theorem NoB.ne {q : Nat} {c : Int32} (h : NoB B q) (hc : isBeg c = true) : B q ≠ c := fun e => by
  rcases h with z | z
  · rw [e] at z; subst z; exact absurd hc (by decide)
  · rw [e, hc] at z; cases z
theorem NoB.tone {q : Nat} (h : NoB B q) : isTon (B q) = false := by
  rcases h with z | z
  · rw [z]; decide
  · unfold isBeg at z
    simp only [Bool.or_eq_false_iff] at z
    exact z.1.1.1.1.1.1.1.1.1.1.1.1
theorem chn_bad {r9 : Int32} {q : Nat} (h : NoB B q) (hf : fI S 102 (A 9) = 0) (hp : fI S 101 (A 9) = nI (q + 1)) (hQ : ∀ S1, RF S S1 A (1, q) → Q S1) : chn (A 9) (B q) r9 S Q := by
  unfold chn
  rw [if_neg (h.ne (by decide)), if_neg (h.ne (by decide)), if_neg (h.ne (by decide)), if_neg (h.ne (by decide)), if_neg (h.ne (by decide)), if_neg (h.ne (by decide)), if_neg (h.ne (by decide)), if_neg (h.ne (by decide)), if_neg (h.ne (by decide)), if_neg (h.ne (by decide)), hp, nI_pred]
  exact r_bad (k := 1) hf hQ
/-- the end of a music, refused -/
theorem r_endBad {c : Int32} {s q op : Nat} (h : RT S A B n) (hf : fI S 102 (A 9) = 0) (hp : fI S 101 (A 9) = nI q) (ho : fI S 134 (A 9) = nI (op + 1)) (hop : op ≤ 8) (hs : aI S 61 (A 61) op = nI s) (hsb : s < 10) (h1 : s = 2 → c ≠ 93 ∧ c ≠ 47) (h2 : s ≠ 2 → c ≠ 125) (hQ : ∀ S1, RF S S1 A (1, q) → Q S1) : wp_X12_endMusic (A 9) c S Q := by
  unfold wp_X12_endMusic
  intro v1 hv1
  rw [ho, nI_pred] at hv1
  subst hv1
  refine ⟨_, h.1.f131, by rw [h.1.n62]; exact vp_in_nI (by omega) (by omega), ?_⟩
  rintro _ rfl
  refine ⟨_, h.1.f130, by rw [h.1.n61]; exact vp_in_nI (by omega) (by omega), ?_⟩
  rw [nI_clamp (by omega), hs]
  intro K hK
  have bad : ∀ t6 : Int32, c ≠ t6 → (c = 47 → s ≠ 2) → K c t6 S := by
    intro t6 e e2
    apply hK
    intro K2 hK2
    rw [if_neg e]
    intro K3 hK3
    have b : K3 S := by
      apply hK3
      rw [hp]
      exact r_bad (k := 1) hf hQ
    by_cases c47 : c = 47
    · rw [if_pos c47]
      refine ⟨_, h.1.f130, by rw [h.1.n61]; exact vp_in_nI (by omega) (by omega), ?_⟩
      rw [hs, if_neg (ceq_no 2 (by rfl) (e2 c47) (by omega) (by omega))]
      exact b
    · rw [if_neg c47]; exact b
  by_cases c2 : s = 2
  · rw [c2, if_pos (by rfl)]
    exact bad 93 (h1 c2).1 (fun z => absurd z (h1 c2).2)
  · rw [if_neg (ceq_no 2 (by rfl) c2 (by omega) (by omega))]
    exact bad 125 (h2 c2) (fun _ => c2)
/-- the end of a music -/
theorem r_endOk {c i m : Int32} {s q op : Nat} (h : RT S A B n) (hp : fI S 101 (A 9) = nI q) (ho : fI S 134 (A 9) = nI (op + 1)) (hop : op ≤ 8) (hs : aI S 61 (A 61) op = nI s) (hsb : s < 10) (hi : aI S 62 (A 62) op = i) (hm : aI S 63 (A 63) op = m)
    (hc : (s = 2 ∧ c = 93) ∨ (s = 2 ∧ c = 47) ∨ (s ≠ 2 ∧ c = 125))
    (h47 : c = 47 → wp_X12_item (A 9) 11 (nI (q + 1)) (sI (sI S 101 (A 9) (nI (q + 1))) 134 (A 9) (nI op)) (fun r20 S19 => ∃ b21, fR S19 110 (A 9) = some b21 ∧ (vp_in m (aN S19 b21) ∧ ∀ S22, S22 = wI S19 47 b21 m.toNatClampNeg r20 → wp_X12_openMusic (A 9) 2 i r20 S22 (fun S23 => Q S23))))
    (h3 : s = 3 → c ≠ 47 → wp_X12_endNaming (A 9) i m (sI (sI S 101 (A 9) (nI (q + 1))) 134 (A 9) (nI op)) Q)
    (h4 : s = 4 → c ≠ 47 → wp_X12_useBlock (A 9) i m (sI (sI S 101 (A 9) (nI (q + 1))) 134 (A 9) (nI op)) Q)
    (h0 : s ≠ 3 → s ≠ 4 → c ≠ 47 → Q (sI (sI S 101 (A 9) (nI (q + 1))) 134 (A 9) (nI op))) : wp_X12_endMusic (A 9) c S Q := by
  unfold wp_X12_endMusic
  intro v1 hv1
  rw [ho, nI_pred] at hv1
  subst hv1
  refine ⟨_, h.1.f131, by rw [h.1.n62]; exact vp_in_nI (by omega) (by omega), ?_⟩
  rw [nI_clamp (by omega), hi]
  rintro _ rfl
  refine ⟨_, h.1.f130, by rw [h.1.n61]; exact vp_in_nI (by omega) (by omega), ?_⟩
  rw [hs]
  intro K hK
  have go : ∀ t6 : Int32, (c = t6 ∨ c = 47 ∧ s = 2) → K c t6 S := by
    intro t6 e
    apply hK
    intro K2 hK2
    have g2 : K2 S := by
      apply hK2
      rw [hp, nI_1]
      rintro _ rfl
      have h5 := h.pos (v := nI (q + 1))
      refine ⟨_, h5.1.f132, by rw [h5.1.n63]; exact vp_in_nI (by omega) (by omega), ?_⟩
      rw [aI_sI, hm]
      rintro _ rfl
      have eo : fI (sI S 101 (A 9) (nI (q + 1))) 134 (A 9) - 1 = nI op := by rw [fI_sn _ _ _ _ _ (by decide), ho]; exact nI_pred op
      rw [eo]
      rintro _ rfl
      by_cases c47 : c = 47
      · rw [if_pos c47]
        rw [show fI (sI (sI S 101 (A 9) (nI (q + 1))) 134 (A 9) (nI op)) 101 (A 9) = nI (q + 1) by simp only [fI_s, fI_sn, fL_s, fL_sn, aI_w, aI_wn, aL_w, aL_wn, fI_sL, fI_wI, fI_wL, fL_sI, fL_wI, fL_wL, aI_sI, aI_sL, aI_wL, aL_sI, aL_sL, aL_wI, fR_sI, fR_sL, fR_wI, fR_wL, aN_sI, aN_sL, aN_wI, aN_wL, ne_eq, Nat.reduceEqDiff, not_false_eq_true]]
        exact h47 c47
      · rw [if_neg c47]
        refine ⟨_, h5.1.f130, by show vp_in _ (aN S (A 61)); rw [h.1.n61]; exact vp_in_nI (by omega) (by omega), ?_⟩
        rw [aI_sI, aI_sI, hs]
        by_cases c3 : s = 3
        · rw [c3, if_pos (by rfl)]; exact h3 c3 c47
        · rw [if_neg (ceq_no 3 (by rfl) c3 (by omega) (by omega))]
          refine ⟨_, h5.1.f130, by show vp_in _ (aN S (A 61)); rw [h.1.n61]; exact vp_in_nI (by omega) (by omega), ?_⟩
          rw [hs]
          by_cases c4 : s = 4
          · rw [c4, if_pos (by rfl)]; exact h4 c4 c47
          · rw [if_neg (ceq_no 4 (by rfl) c4 (by omega) (by omega))]; exact h0 c3 c4 c47
    by_cases e1 : c = t6
    · rw [if_pos e1]; exact g2
    · rw [if_neg e1]
      intro K3 hK3
      rcases e with e | ⟨e2, e3⟩
      · exact absurd e e1
      · rw [if_pos e2]
        refine ⟨_, h.1.f130, by rw [h.1.n61]; exact vp_in_nI (by omega) (by omega), ?_⟩
        rw [hs, e3, if_pos (by rfl)]; exact g2
  rcases hc with ⟨x, y⟩ | ⟨x, y⟩ | ⟨x, y⟩
  · rw [x, if_pos (by rfl)]; exact go 93 (Or.inl y)
  · rw [x, if_pos (by rfl)]; exact go 93 (Or.inr ⟨y, x⟩)
  · rw [if_neg (ceq_no 2 (by rfl) x (by omega) (by omega))]; exact go 125 (Or.inl y)
/-- no item begins where the text goes on, and no end of this list: both tell it -/
theorem simF_no {s x k : Nat} {w : Nat × Nat} {f1 : Nat × Nat × Nat × Nat × Nat} {r : List (Nat × Nat × Nat × Nat × Nat)} (ci : CIv S A B n p op N pc nd pq inm) (hstk : stk = (s, x, k, w) :: f1 :: r) (hb : NoB B (bl B p)) (h1 : s = 2 → B (bl B p) ≠ 93 ∧ B (bl B p) ≠ 47) (h2 : s ≠ 2 → B (bl B p) ≠ 125) : SimF A B n S p op N pc nd pq inm stk (1, bl B p) := by
  have hB := ci.1.2.2.1
  have hn := hB.1
  have hbn := bl_le hB ci.2.2.1
  intro Sr mm R P hP hg
  obtain ⟨T, wr, sy, g, ow, bh, par, ks, lv, pe, lst, mx⟩ := mm.mx
  have hN : N ≤ 1508 := by have := ci.2.2.2.2.2.2.1; have := ci.2.2.1; have := ci.2.2.2.2.1; omega
  obtain ⟨e1, e2, e3, e4, e5, e6, e7⟩ := mx.pre hN
  have rt := mx.1
  have nu := mx.2.1
  have sk := mx.2.2.2.2.2.2.2.2.2.1
  have hlen := mx.2.2.2.2.2.2.2.2.2.2.1
  rw [hstk] at sk hlen
  have hr : op = r.length + 1 := by simp only [List.length_cons] at hlen; omega
  have s61 : aI Sr 61 (A 61) op = nI s := by rw [hr]; exact sk.2.2.2.2.2.1
  have hs4 : s ≤ 4 := sk.2.1
  have hs1 : 1 ≤ s := sk.1
  have fin : ∀ S2, RF (sI Sr 101 (A 9) (nI (bl B p))) S2 A (1, bl B p) → Nx A P S2 := fun S2 z => ⟨fun y => absurd y (by rw [z.2.1]; exact nI_ne0 (by show 0 < 1; omega) (by show 1 < _; omega)), fun _ => hg S2 (RFM.of (KR.m KR.pos) z.m)⟩
  by_cases c : B (bl B p) = -1 ∨ B (bl B p) = 125 ∨ B (bl B p) = 93 ∨ B (bl B p) = 47
  · refine it_ends rt nu.2.1 ci.2.2.1 c e3 ci.2.2.2.2.1 s61 (by omega) hP (fun z => by omega) (fun _ Q2 hQ2 => ?_)
    exact r_endBad rt.pos (by rw [fI_at2]; exact nu.1) fI_at (by simp only [fI_s, fI_sn, fL_s, fL_sn, aI_w, aI_wn, aL_w, aL_wn, fI_sL, fI_wI, fI_wL, fL_sI, fL_wI, fL_wL, aI_sI, aI_sL, aI_wL, aL_sI, aL_sL, aL_wI, fR_sI, fR_sL, fR_wI, fR_wL, aN_sI, aN_sL, aN_wI, aN_wL, ne_eq, Nat.reduceEqDiff, not_false_eq_true]; exact e3) ci.2.2.2.2.1 s61 (by omega) h1 h2 (fun S1 z => hQ2 S1 (fin S1 z))
  · refine it_item rt nu.2.1 ci.2.2.1 (fun z => c (Or.inl z)) (fun z => c (Or.inr (Or.inl z))) (fun z => c (Or.inr (Or.inr (Or.inl z)))) (fun z => c (Or.inr (Or.inr (Or.inr z)))) hP (fun Q2 hQ2 => ?_)
    have hlt : bl B p < n := by
      rcases Nat.lt_or_ge (bl B p) n with q | q
      · exact q
      · exact absurd (Or.inl (hB.2.1 _ q)) c
    refine r_ri rt.pos fI_at hlt hb.tone (hb.ne (by decide)) (hb.ne (by decide)) (by simp only [fI_s, fI_sn, fL_s, fL_sn, aI_w, aI_wn, aL_w, aL_wn, fI_sL, fI_wI, fI_wL, fL_sI, fL_wI, fL_wL, aI_sI, aI_sL, aI_wL, aL_sI, aL_sL, aL_wI, fR_sI, fR_sL, fR_wI, fR_wL, aN_sI, aN_sL, aN_wI, aN_wL, ne_eq, Nat.reduceEqDiff, not_false_eq_true]; exact e1) (by omega) (by simp only [fI_s, fI_sn, fL_s, fL_sn, aI_w, aI_wn, aL_w, aL_wn, fI_sL, fI_wI, fI_wL, fL_sI, fL_wI, fL_wL, aI_sI, aI_sL, aI_wL, aL_sI, aL_sL, aL_wI, fR_sI, fR_sL, fR_wI, fR_wL, aN_sI, aN_sL, aN_wI, aN_wL, ne_eq, Nat.reduceEqDiff, not_false_eq_true]; exact e3) ci.2.2.2.2.1 e4 e5 e6 e7 (fun Sr1 ia => ?_)
    refine chn_bad hb (by rw [(ia.1.2.1 102 rfl).1, fI_at2]; exact nu.1) ia.2.1 (fun S2 z => hQ2 S2 ⟨fun y => absurd y (by rw [z.2.1]; exact nI_ne0 (by show 0 < 1; omega) (by show 1 < _; omega)), fun _ => hg S2 ?_⟩)
    exact RFM.of (Keep.tr (KR.m KR.pos) ia.km) z.m
/-- an item and its block: what the reference does -/
theorem r_turn4 {P : Int32 → PS → Prop} {R : PS → Prop} {c : Int32} {s T wr sy : Nat} {g ow bh par ks lv : Nat → Nat} {pe : Nat → Bool} {lst : Int32} (ci : CIv S A B n p op N pc nd pq inm) (hcs : c = 76 ∧ s = 3 ∨ c = 82 ∧ s = 4 ∨ c = 84 ∧ s = 5 ∨ c = 88 ∧ s = 6) (hb : B (bl B p) = c) (hN : N ≤ 1508) (mx : MX S Sr A B n p op N pc nd pq inm stk T wr sy g ow bh par ks lv pe lst) (hP : ClR A R P)
    (y1 : ∀ a b q r Sr1 Sr2 Sr3, hdr B c (bl B p) = .ok (a, b, q) → blk B op q = .ok r → IA (sI Sr 101 (A 9) (nI (bl B p))) Sr1 A T op (ow (hdx stk)) (bl B p) lst → HR Sr1 Sr2 A T (nI s) a b q → OB Sr2 Sr3 A (T + 1) op 1 (nI T) (nI (bl B q)) r → Nx A P (wI Sr3 46 (A 46) T (nI (T + 1))))
    (y0 : ∀ e Sr2, (hdr B c (bl B p) = .error e ∨ ∃ a b q, hdr B c (bl B p) = .ok (a, b, q) ∧ blk B op q = .error e) → RFM Sr Sr2 A e → P 0 Sr2) : P 1 Sr := by
  have hB := ci.1.2.2.1
  have hc5 : c = 76 ∨ c = 82 ∨ c = 84 ∨ c = 88 ∨ c = 77 := by
    rcases hcs with ⟨z, _⟩ | ⟨z, _⟩ | ⟨z, _⟩ | ⟨z, _⟩
    · exact Or.inl z
    · exact Or.inr (Or.inl z)
    · exact Or.inr (Or.inr (Or.inl z))
    · exact Or.inr (Or.inr (Or.inr (Or.inl z)))
  have ne : ∀ d : Int32, d ≠ 76 → d ≠ 82 → d ≠ 84 → d ≠ 88 → B (bl B p) ≠ d := fun d a1 a2 a3 a4 e => by
    rw [hb] at e; subst e
    rcases hcs with ⟨z, _⟩ | ⟨z, _⟩ | ⟨z, _⟩ | ⟨z, _⟩
    · exact a1 z
    · exact a2 z
    · exact a3 z
    · exact a4 z
  have hlt : bl B p < n := by
    rcases Nat.lt_or_ge (bl B p) n with q | q
    · exact q
    · exact absurd (hB.2.1 _ q) (ne (-1) (by decide) (by decide) (by decide) (by decide))
  obtain ⟨e1, e2, e3, e4, e5, e6, e7⟩ := mx.pre hN
  have rt := mx.1
  have nu := mx.2.1
  refine it_item rt nu.2.1 ci.2.2.1 (ne _ (by decide) (by decide) (by decide) (by decide)) (ne _ (by decide) (by decide) (by decide) (by decide)) (ne _ (by decide) (by decide) (by decide) (by decide)) (ne _ (by decide) (by decide) (by decide) (by decide)) hP (fun Q2 hQ2 => ?_)
  have hton : isTon (B (bl B p)) = false := by
    rw [hb]
    rcases hcs with ⟨z, _⟩ | ⟨z, _⟩ | ⟨z, _⟩ | ⟨z, _⟩ <;> (rw [z]; decide)
  refine r_ri rt.pos fI_at hlt hton (ne _ (by decide) (by decide) (by decide) (by decide)) (ne _ (by decide) (by decide) (by decide) (by decide)) (by simp only [fI_s, fI_sn, fL_s, fL_sn, aI_w, aI_wn, aL_w, aL_wn, fI_sL, fI_wI, fI_wL, fL_sI, fL_wI, fL_wL, aI_sI, aI_sL, aI_wL, aL_sI, aL_sL, aL_wI, fR_sI, fR_sL, fR_wI, fR_wL, aN_sI, aN_sL, aN_wI, aN_wL, ne_eq, Nat.reduceEqDiff, not_false_eq_true]; exact e1) (by omega) (by simp only [fI_s, fI_sn, fL_s, fL_sn, aI_w, aI_wn, aL_w, aL_wn, fI_sL, fI_wI, fI_wL, fL_sI, fL_wI, fL_wL, aI_sI, aI_sL, aI_wL, aL_sI, aL_sL, aL_wI, fR_sI, fR_sL, fR_wI, fR_wL, aN_sI, aN_sL, aN_wI, aN_wL, ne_eq, Nat.reduceEqDiff, not_false_eq_true]; exact e3) ci.2.2.2.2.1 e4 e5 e6 e7 (fun Sr1 ia => ?_)
  have km : KM Sr Sr1 := Keep.tr (KR.m KR.pos) ia.km
  have rt1 := rt.km km
  have f102 : fI Sr1 102 (A 9) = 0 := by rw [(ia.1.2.1 102 rfl).1, fI_at2]; exact nu.1
  have a44 : aI Sr1 44 (A 44) T = 0 := by rw [ia.2.2.2.2.2.1, uq_at]
  have a45 : aI Sr1 45 (A 45) T = 0 := by rw [ia.2.2.2.2.2.2.1, uq_at]
  have good : ∀ a b q Sr2, hdr B c (bl B p) = .ok (a, b, q) → HR Sr1 Sr2 A T (nI s) a b q → wp_X12_itsBlock (A 9) (nI T) Sr2 Q2 := by
    intro a b q Sr2 z1 hr
    have hq := hdr_ok hB hlt hc5 z1
    have km2 : KM Sr Sr2 := Keep.tr km hr.keep
    refine r_itsBlock (T := T + 1) (op := op) (rt.km km2) (by rw [(hr.1.2.1 102 rfl).1]; exact f102) hr.2.1 hq.2.1 (by rw [(hr.1.2.1 113 rfl).1]; exact ia.2.2.1) (by omega) (by omega) (by rw [(hr.1.2.1 134 rfl).1, (ia.1.2.1 134 rfl).1, fI_sn _ _ _ _ _ (by decide)]; exact e3) ci.2.2.2.2.1 (fun r Sr3 z2 ob => ?_) (fun e Sr3 z2 z3 z4 => ?_)
    · exact hQ2 _ (y1 a b q r Sr1 Sr2 Sr3 z1 z2 ia hr ob)
    · exact hQ2 _ ⟨fun z => absurd z (by rw [z4.2.1]; exact z3.ne), fun _ => y0 e Sr3 (Or.inr ⟨a, b, q, z1, z2⟩) (RFM.of km2 z4.m)⟩
  have bad : ∀ e Sr2, hdr B c (bl B p) = .error e → Kd e → RFM Sr1 Sr2 A e → Q2 Sr2 := fun e Sr2 z1 z2 z3 => hQ2 _ ⟨fun z => absurd z (by rw [z3.2.1]; exact z2.ne), fun _ => y0 e Sr2 (Or.inl z1) (RFM.of km z3)⟩
  rw [hb]
  rcases hcs with ⟨rfl, rfl⟩ | ⟨rfl, rfl⟩ | ⟨rfl, rfl⟩ | ⟨rfl, rfl⟩
  · exact chn_76 rt1 ia.2.1 (by omega) a44 a45 good
  · exact chn_82 rt1 f102 ia.2.1 hlt (by omega) a45 good bad
  · exact chn_84 rt1 f102 ia.2.1 hlt (by omega) good bad
  · exact chn_88 rt1 f102 ia.2.1 hlt (by omega) good bad
end
