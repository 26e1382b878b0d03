/-! Words: both readers. -/
section
variable {S : PS} {A : Nat → Nat} {B : Nat → Int32} {n p T : Nat}
def wds (B : Nat → Int32) : Nat → Nat → Except (Nat × Nat) (List (Nat × Nat) × Nat)
  | 0, p => .error (1, p)
  | k + 1, p => if B (sc isSpc B p) = 34 then .ok ([], sc isSpc B p + 1)
    else if sc isSyl B (sc isSpc B p) = sc isSpc B p then .error (1, sc isSpc B p)
    else if 12 < sc isSyl B (sc isSpc B p) - sc isSpc B p then .error (5, sc isSpc B p)
    else match wds B k (sc isSyl B (sc isSpc B p)) with
      | .ok (l, q) => .ok ((sc isSpc B p, sc isSyl B (sc isSpc B p) - sc isSpc B p) :: l, q)
      | .error e => .error e
theorem wds_ok (hB : Tx B n) : ∀ k p l q, p ≤ n → wds B k p = .ok (l, q) → p + l.length < q ∧ q ≤ n := by
  intro k
  induction k with
  | zero => intro p l q hp h; rw [wds] at h; cases h
  | succ k ih =>
    intro p l q hp h
    have h1 := sc_ge (f := isSpc) (B := B) (p := p)
    have h2 := sc_le (f := isSpc) hB (by decide) hp
    have h3 := sc_ge (f := isSyl) (B := B) (p := sc isSpc B p)
    have h4 := sc_le (f := isSyl) hB (by decide) h2
    rw [wds] at h
    split at h
    · rename_i e
      injection h with h; injection h with h5 h6
      have := hB.lt e (by decide)
      subst h5 h6
      exact ⟨by show p + 0 < _; omega, by omega⟩
    · split at h
      · cases h
      · split at h
        · cases h
        · split at h
          · rename_i l1 q1 e1
            injection h with h; injection h with h5 h6
            have := ih _ _ _ h4 e1
            subst h5 h6
            rw [List.length_cons]; omega
          · cases h
theorem wds_kd : ∀ k p e, wds B k p = .error e → Kd e := by
  intro k
  induction k with
  | zero => intro p e h; rw [wds] at h; injection h with h; rw [← h]; exact kdm (by decide) (by decide)
  | succ k ih =>
    intro p e h
    rw [wds] at h
    split at h
    · cases h
    · split at h
      · injection h with h; rw [← h]; exact kdm (by decide) (by decide)
      · split at h
        · injection h with h; rw [← h]; exact kdm (by decide) (by decide)
        · split at h
          · cases h
          · rename_i e1
            injection h with h; subst h; exact ih _ _ e1
def sco (B : Nat → Int32) (w : Nat × Nat) : Int32 := (nI w.1 <<< (4 &&& 31)) ||| (if w.2 = 1 ∧ B w.1 = 95 then 0 else nI w.2)
theorem isSpc_iff {c : Int32} : isSpc c = true ↔ c = 32 ∨ c = 10 := by unfold isSpc; rw [decide_eq_true_iff]
theorem s_spaces {Q : PS → Prop} (h : CT S A B n) (hp : fI S 60 (A 6) = nI p) (hpn : p ≤ n) (hQ : Q (sI S 60 (A 6) (nI (sc isSpc B p)))) : wp_X7_skipSpaces (A 6) S Q := by
  have hn := h.2.2.1.1
  unfold wp_X7_skipSpaces
  intro P hP
  have key : ∀ k p1, 1500 - p1 = k → p1 ≤ n → sc isSpc B p1 = sc isSpc B p → P (sI S 60 (A 6) (nI p1)) := by
    intro k
    induction k with
    | zero =>
      intro p1 a1 a2 a3
      apply hP
      refine ⟨_, h.pos.1.f58, ?_⟩
      rw [h.pos.2.1, fI_pos, if_pos (nI_le (by omega) (by omega))]
      rw [sc_stop (by rw [h.2.2.1.2.1 p1 (by omega)]; decide)] at a3
      rw [a3]; exact hQ
    | succ k ih =>
      intro p1 a1 a2 a3
      apply hP
      refine ⟨_, h.pos.1.f58, ?_⟩
      rw [h.pos.2.1, fI_pos]
      rcases Nat.lt_or_ge p1 n with hlt | hge
      · rw [if_neg (nI_ge hlt (by omega))]
        refine s_next h.pos fI_pos a2 ?_
        intro K hK
        have go : isSpc (B p1) = true → K (sI S 60 (A 6) (nI p1)) := fun hs => by
          apply hK
          rintro _ rfl
          rw [fI_pos, nI_1, sI_sI]
          exact ih (p1 + 1) (by omega) (by omega) (by rw [← sc_go hs (by omega)]; exact a3)
        by_cases c : B p1 = 32
        · rw [if_pos c]; exact go (isSpc_iff.mpr (Or.inl c))
        · rw [if_neg c]
          refine s_next h.pos fI_pos a2 ?_
          by_cases d : B p1 = 10
          · rw [if_pos d]; exact go (isSpc_iff.mpr (Or.inr d))
          · rw [if_neg d]
            rw [sc_stop (Bool.eq_false_iff.mpr (fun e => by rcases isSpc_iff.mp e with e | e; exact c e; exact d e))] at a3
            rw [a3]; exact hQ
      · rw [if_pos (nI_le hge (by omega))]
        rw [sc_stop (by rw [h.2.2.1.2.1 p1 hge]; decide)] at a3
        rw [a3]; exact hQ
  have := key _ p rfl hpn rfl
  rw [sI_self hp] at this
  exact this
theorem isSyl_iff {c : Int32} : isSyl c = true ↔ 33 ≤ c.toInt ∧ c.toInt ≤ 126 ∧ c ≠ 34 := by
  unfold isSyl; rw [decide_eq_true_iff, Int32.le_iff_toInt_le, Int32.le_iff_toInt_le]; exact Iff.rfl
theorem s_isSyl {Q : Int32 → PS → Prop} {c : Int32} (h1 : isSyl c = true → Q 1 S) (h0 : isSyl c = false → Q 0 S) : wp_X7_isSyllableByte c S Q := by
  unfold wp_X7_isSyllableByte
  have e1 : (33 : Int32).toInt = 33 := by decide
  have e2 : (126 : Int32).toInt = 126 := by decide
  by_cases h : isSyl c = true
  · have h2 := isSyl_iff.mp h
    rw [if_neg, if_neg, if_neg h2.2.2]
    · exact h1 h
    · rw [Int32.lt_iff_toInt_lt]; omega
    · rw [Int32.lt_iff_toInt_lt]; omega
  · have h3 := h0 (Bool.eq_false_iff.mpr h)
    rw [isSyl_iff] at h
    by_cases e : c < 33
    · rw [if_pos e]; exact h3
    · rw [if_neg e]
      by_cases f : 126 < c
      · rw [if_pos f]; exact h3
      · rw [if_neg f]
        by_cases g : c = 34
        · rw [if_pos g]; exact h3
        · exfalso
          rw [Int32.lt_iff_toInt_lt] at e f
          exact h ⟨by omega, by omega, g⟩
theorem s_byteAt {Q : Int32 → PS → Prop} (h : CT S A B n) (hpn : p < n) (hQ : Q (B p) S) : wp_X6_byteAt (A 5) (nI p) S Q := by
  have hn := h.2.2.1.1
  unfold wp_X6_byteAt
  intro K hK
  rw [if_neg (nI_pos (by omega)), h.2.1, if_neg (nI_ge hpn (by omega))]
  refine ⟨_, h.1.f43, ?_⟩
  rw [h.1.n27, if_neg (nI_ge (b := 1500) (by omega) (by omega))]
  apply hK
  rw [if_neg (by decide)]
  refine ⟨_, h.1.f43, by rw [h.1.n27]; exact vp_in_nI (by omega) (by omega), ?_⟩
  rw [nI_clamp (by omega), h.2.2.2 p hpn]; exact hQ
theorem s_syllable {Q : Int32 → PS → Prop} {pc : Nat} (h : CT S A B n) (hp : fI S 60 (A 6) = nI p) (hpn : p ≤ n) (hc : fI S 53 (A 5) = nI pc) (hpc : pc ≤ p)
    (h1 : sc isSyl B p ≠ p → ¬ 12 < sc isSyl B p - p → ∀ S1, KP S S1 → fI S1 60 (A 6) = nI (sc isSyl B p) → fI S1 53 (A 5) = nI (pc + 1) → aI S1 22 (A 22) = uq (aI S 22 (A 22)) pc (sco B (p, sc isSyl B p - p)) → Q 1 S1)
    (h0 : sc isSyl B p = p → ∀ S1, CF S S1 A (1, p) → Q 0 S1) (h5 : sc isSyl B p ≠ p → 12 < sc isSyl B p - p → ∀ S1, CF S S1 A (5, p) → Q 0 S1) : wp_X7_syllable (A 6) S Q := by
  have hB := h.2.2.1
  have hn := hB.1
  unfold wp_X7_syllable
  intro v1 hv1
  rw [hp] at hv1
  subst hv1
  intro P hP
  have hge := sc_ge (f := isSyl) (B := B) (p := p)
  have hle := sc_le (f := isSyl) hB (by decide) hpn
  have key : ∀ k p1, 1500 - p1 = k → p ≤ p1 → p1 ≤ n → sc isSyl B p1 = sc isSyl B p → P (sI S 60 (A 6) (nI p1)) := by
    have fin : ∀ p1, sc isSyl B p = p1 → ∀ K : PS → Prop, (∀ (S5 : PS), (∀ v7, v7 = (fI S5 60 (A 6)) - nI p → (if v7 = 0 then wp_X7_refuse (A 6) S5 (fun (r27 : Int32) (S26 : PS) => Q r27 S26) else (if v7 ≤ 12 then (∀ K97_10 : Int32 → PS → Prop, (∀ (t8 : Int32) (S9 : PS), (∃ b11, fR S9 58 (A 6) = some b11 ∧ (∀ K112_16 : Nat → Int32 → Int32 → PS → Prop, (∀ (t12 : Nat) (t13 : Int32) (t14 : Int32) (S15 : PS), wp_X9_make t13 t14 S15 (fun (r18 : Int32) (S17 : PS) => wp_X6_addPart t12 r18 S17 (fun (S19 : PS) => Q 1 S19)) → K112_16 t12 t13 t14 S15) → (if t8 = 0 then K112_16 b11 (nI p) v7 S9 else K112_16 b11 (nI p) 0 S9))) → K97_10 t8 S9) → (if v7 = 1 then (∃ b20, fR S5 58 (A 6) = some b20 ∧ wp_X6_byteAt b20 (nI p) S5 (fun (r22 : Int32) (S21 : PS) => (if r22 = 95 then K97_10 1 S21 else K97_10 0 S21))) else K97_10 0 S5)) else (∃ b23, fR S5 59 (A 6) = some b23 ∧ wp_X0_tell b23 5 (nI p) S5 (fun (r25 : Int32) (S24 : PS) => Q r25 S24))))) → K S5) → K (sI S 60 (A 6) (nI p1)) := by
      intro p1 e1 K hK
      rw [e1] at h1 h0 h5 hge hle
      apply hK
      rintro _ rfl
      rw [fI_pos, nI_sub hge]
      by_cases c1 : p1 = p
      · rw [c1, Nat.sub_self, if_pos (by decide)]
        exact s_refuse h.pos fI_pos (fun S2 h2 => h0 c1 S2 (CF.of KL.pos h2))
      · rw [if_neg (nI_ne0 (by omega) (by omega))]
        by_cases c2 : 12 < p1 - p
        · rw [if_neg (lec_no 12 (by rfl) c2 (by omega))]
          refine ⟨_, h.pos.1.f59, ?_⟩
          exact s_tell (h5 c1 c2 _ (CF.of KL.pos (CF_tell (k := 5))))
        · rw [if_pos (lec_yes 12 (by rfl) (by omega) (by omega))]
          intro K2 hK2
          have done : ∀ t8 : Int32, (t8 = 0 ↔ ¬ (p1 - p = 1 ∧ B p = 95)) → K2 t8 (sI S 60 (A 6) (nI p1)) := by
            intro t8 ht
            apply hK2
            refine ⟨_, h.pos.1.f58, ?_⟩
            intro K3 hK3
            have add : ∀ v : Int32, (nI p <<< (4 &&& 31)) ||| v = sco B (p, p1 - p) → K3 (A 5) (nI p) v (sI S 60 (A 6) (nI p1)) := by
              intro v hv
              apply hK3
              unfold wp_X9_make
              rw [hv]
              refine s_addPart h.pos (by simp only [fI_s, fI_sn, fL_s, fL_sn, aI_w, aI_wn, aL_w, aL_wn, fI_sL, fI_wI, fI_wL, fL_sI, fL_wI, fL_wL, aI_sI, aI_sL, aI_wL, aL_sI, aL_sL, aL_wI, fR_sI, fR_sL, fR_wI, fR_wL, aN_sI, aN_sL, aN_wI, aN_wL, ne_eq, Nat.reduceEqDiff, not_false_eq_true]; exact hc) (by omega) ?_
              refine h1 c1 c2 _ (((Keep.rf.sI rfl).wI rfl).sI rfl) ?_ ?_ ?_
              all_goals simp only [fI_s, fI_sn, fL_s, fL_sn, aI_w, aI_wn, aL_w, aL_wn, fI_sL, fI_wI, fI_wL, fL_sI, fL_wI, fL_wL, aI_sI, aI_sL, aI_wL, aL_sI, aL_sL, aL_wI, fR_sI, fR_sL, fR_wI, fR_wL, aN_sI, aN_sL, aN_wI, aN_wL, ne_eq, Nat.reduceEqDiff, not_false_eq_true]
            by_cases c3 : p1 - p = 1 ∧ B p = 95
            · rw [if_neg (fun z => ht.mp z c3)]
              refine add 0 ?_
              unfold sco; rw [if_pos c3]
            · rw [if_pos (ht.mpr c3)]
              refine add _ ?_
              unfold sco; rw [if_neg c3]
          by_cases c3 : p1 - p = 1
          · rw [c3, if_pos (by decide)]
            refine ⟨_, h.pos.1.f58, ?_⟩
            refine s_byteAt h.pos (by omega) ?_
            by_cases c4 : B p = 95
            · rw [if_pos c4]
              exact done 1 ⟨fun z => absurd z (by decide), fun z => absurd ⟨c3, c4⟩ z⟩
            · rw [if_neg c4]
              exact done 0 ⟨fun _ z => c4 z.2, fun _ => rfl⟩
          · rw [if_neg (by rw [show (1 : Int32) = nI 1 from rfl, nI_eq (by omega) (by omega)]; exact c3)]
            exact done 0 ⟨fun _ z => c3 z.1, fun _ => rfl⟩
    intro k
    induction k with
    | zero =>
      intro p1 a1 a2 a3 a4
      apply hP
      refine ⟨_, h.pos.1.f58, ?_⟩
      intro K hK
      rw [h.pos.2.1, fI_pos, if_pos (nI_le (by omega) (by omega))]
      exact fin p1 (by rw [← a4]; exact sc_stop (by rw [hB.2.1 p1 (by omega)]; decide)) K hK
    | succ k ih =>
      intro p1 a1 a2 a3 a4
      apply hP
      refine ⟨_, h.pos.1.f58, ?_⟩
      intro K hK
      rw [h.pos.2.1, fI_pos]
      rcases Nat.lt_or_ge p1 n with hlt | hge2
      · rw [if_neg (nI_ge hlt (by omega))]
        refine s_next h.pos fI_pos a3 ?_
        refine s_isSyl (fun hs => ?_) (fun hs => ?_)
        · rw [if_neg (by decide)]
          rintro _ rfl
          rw [fI_pos, nI_1, sI_sI]
          exact ih (p1 + 1) (by omega) (by omega) (by omega) (by rw [← sc_go hs (by omega)]; exact a4)
        · rw [if_pos rfl]
          exact fin p1 (by rw [← a4]; exact sc_stop hs) K hK
      · rw [if_pos (nI_le hge2 (by omega))]
        exact fin p1 (by rw [← a4]; exact sc_stop (by rw [hB.2.1 p1 hge2]; decide)) K hK
  have := key _ p rfl (Nat.le_refl p) hpn rfl
  rw [sI_self hp] at this
  exact this
/-- verse, syllables, end -/
def wor (B : Nat → Int32) (p : Nat) : Except (Nat × Nat) (Nat × List (Nat × Nat) × Nat) := match num B 1 3 (p + 1) with
  | .error e => .error e
  | .ok (v, q) => if B (bl B q) = 34 then (match wds B 1501 (bl B q + 1) with
    | .ok (l, r) => .ok (v, l, r)
    | .error e => .error e) else .error (1, bl B q)
theorem wor_ok {v q : Nat} {l : List (Nat × Nat)} (hB : Tx B n) (hp : p < n) (h : wor B p = .ok (v, l, q)) : p < q ∧ p + l.length < q ∧ q ≤ n ∧ 1 ≤ v ∧ v ≤ 3 := by
  unfold wor at h
  split at h
  · cases h
  · rename_i v1 q1 e
    have a := num_ok hB hp e
    have b := bl_ge (B := B) (p := q1)
    split at h
    · rename_i e2
      have c := hB.lt e2 (by decide)
      split at h
      · rename_i e3
        have d := wds_ok hB _ _ _ _ c e3
        injection h with h; injection h with h1 h2; injection h2 with h2 h3
        subst h1 h2 h3
        omega
      · cases h
    · cases h
theorem s_words {Q : Int32 → PS → Prop} {N x pc : Nat} (h : CT S A B n) (hp : fI S 60 (A 6) = nI p) (hpn : p < n) (hN : fI S 45 (A 5) = nI N) (hx : x < N) (hb : N ≤ 1508) (hc : fI S 53 (A 5) = nI pc) (hpc : pc ≤ p)
    (h1 : ∀ v l q S1, wor B p = .ok (v, l, q) → KT S S1 → fI S1 60 (A 6) = nI q → fI S1 53 (A 5) = nI (pc + l.length) → aI S1 22 (A 22) = apd (sco B) (aI S 22 (A 22)) pc l → aI S1 18 (A 18) = uq (aI S 18 (A 18)) x (nI v) → aI S1 19 (A 19) = uq (aI S 19 (A 19)) x (nI l.length) → aL S1 20 = aL S 20 → Q 1 S1)
    (h0 : ∀ e S1, wor B p = .error e → CFT S S1 A e → Q 0 S1) : wp_X7_words (A 6) (nI x) S Q := by
  have hB := h.2.2.1
  have hn := hB.1
  unfold wp_X7_words
  rintro _ rfl
  rw [hp, nI_1]
  refine s_number (lo := 1) (hi := 3) h.pos fI_pos hpn (by omega) (by omega) (fun v q S1 e1 k1 f1 f2 f3 => ?_) (fun e S1 e1 c1 => ?_)
  · rw [if_neg (by decide)]
    have k2 : KL S S1 := KL.pos.tr k1
    have hw : wor B p = if B (bl B q) = 34 then (match wds B 1501 (bl B q + 1) with
      | .ok (l, r) => .ok (v, l, r)
      | .error e => .error e) else .error (1, bl B q) := by unfold wor; rw [e1]
    have hq := num_ok hB hpn e1
    have hbq := bl_ge (B := B) (p := q)
    rintro _ rfl
    refine ⟨_, (h.kl k2).1.f58, ?_⟩
    rintro v6 hv6
    rw [(k2.2.1 53 rfl).1, hc] at hv6
    subst hv6
    rw [f2, lN_i]
    refine s_mustB (h.kl k2) f1 hq.2.1 (fun e2 => ?_) (fun e2 S2 h2 => ?_)
    · rw [if_neg (by decide)]
      rw [if_pos e2] at hw
      have hlt := hB.lt e2 (by decide)
      intro P hP
      have key : ∀ k p1 pc1 S3, k ≤ 1501 → KP S S3 → fI S3 60 (A 6) = nI p1 → p1 ≤ n → fI S3 53 (A 5) = nI pc1 → pc1 ≤ p1 → pc ≤ pc1 →
          (∀ l q S4, wds B k p1 = .ok (l, q) → KP S S4 → fI S4 60 (A 6) = nI q → fI S4 53 (A 5) = nI (pc1 + l.length) → aI S4 22 (A 22) = apd (sco B) (aI S3 22 (A 22)) pc1 l → ∃ b20, fR S4 58 (A 6) = some b20 ∧ ∃ b21, fR S4 58 (A 6) = some b21 ∧ wp_X6_setNumbers b20 (nI x) (nI v) ((fI S4 53 b21) - nI pc) S4 (fun S22 => Q 1 S22)) →
          (∀ e S4, wds B k p1 = .error e → CFP S S4 A e → Q 0 S4) → P (nI (1501 - k)) S3 := by
        intro k
        induction k with
        | zero =>
          intro p1 pc1 S3 a0 a1 a2 a3 a4 a5 a5' a6 a7
          apply hP
          rw [if_pos (clt_yes 1500 (by rfl) (by omega) (by omega))]
          exact s_refuse (h.kp a1) a2 (fun S4 h4 => a7 _ S4 rfl (CFP.of a1 h4.toP))
        | succ k ih =>
          intro p1 pc1 S3 a0 a1 a2 a3 a4 a5 a5' a6 a7
          have h3 := h.kp a1
          have g1 := sc_ge (f := isSpc) (B := B) (p := p1)
          have g2 := sc_le (f := isSpc) hB (by decide) a3
          have g3 := sc_ge (f := isSyl) (B := B) (p := sc isSpc B p1)
          have g4 := sc_le (f := isSyl) hB (by decide) g2
          rw [wds] at a6 a7
          apply hP
          rw [if_neg (clt_no 1500 (by rfl) (by omega) (by omega))]
          refine s_spaces h3 a2 a3 ?_
          refine s_take h3.pos fI_pos g2 (fun c => ?_) (fun c => ?_)
          · rw [if_neg (by decide), sI_sI]
            rw [if_pos c] at a6
            exact a6 [] _ _ rfl (a1.tr KL.pos.toP) fI_pos (by simp only [fI_s, fI_sn, fL_s, fL_sn, aI_w, aI_wn, aL_w, aL_wn, fI_sL, fI_wI, fI_wL, fL_sI, fL_wI, fL_wL, aI_sI, aI_sL, aI_wL, aL_sI, aL_sL, aL_wI, fR_sI, fR_sL, fR_wI, fR_wL, aN_sI, aN_sL, aN_wI, aN_wL, ne_eq, Nat.reduceEqDiff, not_false_eq_true]; exact a4) (by simp only [fI_s, fI_sn, fL_s, fL_sn, aI_w, aI_wn, aL_w, aL_wn, fI_sL, fI_wI, fI_wL, fL_sI, fL_wI, fL_wL, aI_sI, aI_sL, aI_wL, aL_sI, aL_sL, aL_wI, fR_sI, fR_sL, fR_wI, fR_wL, aN_sI, aN_sL, aN_wI, aN_wL, ne_eq, Nat.reduceEqDiff, not_false_eq_true]; rfl)
          · rw [if_pos rfl]
            rw [if_neg c] at a6 a7
            refine s_syllable h3.pos fI_pos g2 (by simp only [fI_s, fI_sn, fL_s, fL_sn, aI_w, aI_wn, aL_w, aL_wn, fI_sL, fI_wI, fI_wL, fL_sI, fL_wI, fL_wL, aI_sI, aI_sL, aI_wL, aL_sI, aL_sL, aL_wI, fR_sI, fR_sL, fR_wI, fR_wL, aN_sI, aN_sL, aN_wI, aN_wL, ne_eq, Nat.reduceEqDiff, not_false_eq_true]; exact a4) (by omega) (fun c1 c2 S5 k5 f5 g5 w5 => ?_) (fun c1 S5 h5 => ?_) (fun c1 c2 S5 h5 => ?_)
            · rw [if_neg (by decide)]
              rw [if_neg c1, if_neg c2] at a6 a7
              rintro _ rfl
              rw [nI_1]
              have e9 : 1501 - (k + 1) + 1 = 1501 - k := by omega
              rw [e9]
              refine ih _ (pc1 + 1) S5 (by omega) (a1.tr (KL.pos.toP.tr k5)) f5 g4 g5 (by omega) (by omega) (fun l q2 S6 y1 y2 y3 y4 y5 => ?_) (fun e S6 y1 y2 => ?_)
              · rw [y1] at a6
                refine a6 _ q2 S6 rfl y2 y3 ?_ ?_
                · rw [List.length_cons, y4]; congr 1; omega
                · rw [y5, w5]; rfl
              · rw [y1] at a7
                exact a7 e S6 rfl y2
            · rw [if_pos rfl]
              rw [if_pos c1] at a7
              exact a7 _ S5 rfl (CFP.of (a1.tr KL.pos.toP) h5.toP)
            · rw [if_pos rfl]
              rw [if_neg c1, if_pos c2] at a7
              exact a7 _ S5 rfl (CFP.of (a1.tr KL.pos.toP) h5.toP)
      have k3 : KP S (sI S1 60 (A 6) (nI (bl B q + 1))) := KL.toP (Keep.tr k2 KL.pos)
      refine key 1501 (bl B q + 1) pc _ (by omega) k3 fI_pos hlt (by simp only [fI_s, fI_sn, fL_s, fL_sn, aI_w, aI_wn, aL_w, aL_wn, fI_sL, fI_wI, fI_wL, fL_sI, fL_wI, fL_wL, aI_sI, aI_sL, aI_wL, aL_sI, aL_sL, aL_wI, fR_sI, fR_sL, fR_wI, fR_wL, aN_sI, aN_sL, aN_wI, aN_wL, ne_eq, Nat.reduceEqDiff, not_false_eq_true]; rw [(k2.2.1 53 rfl).1]; exact hc) (by omega) (by omega) (fun l r S4 y1 y2 y3 y4 y5 => ?_) (fun e S4 y1 y2 => ?_)
      · rw [y1] at hw
        have h4 := h.kp y2
        refine ⟨_, h4.1.f58, _, h4.1.f58, ?_⟩
        refine s_setNumbers h4 (by rw [(y2.2.1 45 rfl).1]; exact hN) hx hb ?_
        refine h1 v l r _ hw (y2.t.tr ((Keep.rf.wI rfl).wI rfl)) (by simp only [fI_s, fI_sn, fL_s, fL_sn, aI_w, aI_wn, aL_w, aL_wn, fI_sL, fI_wI, fI_wL, fL_sI, fL_wI, fL_wL, aI_sI, aI_sL, aI_wL, aL_sI, aL_sL, aL_wI, fR_sI, fR_sL, fR_wI, fR_wL, aN_sI, aN_sL, aN_wI, aN_wL, ne_eq, Nat.reduceEqDiff, not_false_eq_true]; exact y3) (by simp only [fI_s, fI_sn, fL_s, fL_sn, aI_w, aI_wn, aL_w, aL_wn, fI_sL, fI_wI, fI_wL, fL_sI, fL_wI, fL_wL, aI_sI, aI_sL, aI_wL, aL_sI, aL_sL, aL_wI, fR_sI, fR_sL, fR_wI, fR_wL, aN_sI, aN_sL, aN_wI, aN_wL, ne_eq, Nat.reduceEqDiff, not_false_eq_true]; exact y4) ?_ ?_ ?_ ?_
        · simp only [fI_s, fI_sn, fL_s, fL_sn, aI_w, aI_wn, aL_w, aL_wn, fI_sL, fI_wI, fI_wL, fL_sI, fL_wI, fL_wL, aI_sI, aI_sL, aI_wL, aL_sI, aL_sL, aL_wI, fR_sI, fR_sL, fR_wI, fR_wL, aN_sI, aN_sL, aN_wI, aN_wL, ne_eq, Nat.reduceEqDiff, not_false_eq_true]
          rw [y5, aI_sI, (k2.2.2 22 rfl).1]
        · simp only [fI_s, fI_sn, fL_s, fL_sn, aI_w, aI_wn, aL_w, aL_wn, fI_sL, fI_wI, fI_wL, fL_sI, fL_wI, fL_wL, aI_sI, aI_sL, aI_wL, aL_sI, aL_sL, aL_wI, fR_sI, fR_sL, fR_wI, fR_wL, aN_sI, aN_sL, aN_wI, aN_wL, ne_eq, Nat.reduceEqDiff, not_false_eq_true]; rw [(y2.2.2 18 rfl).1]
        · simp only [fI_s, fI_sn, fL_s, fL_sn, aI_w, aI_wn, aL_w, aL_wn, fI_sL, fI_wI, fI_wL, fL_sI, fL_wI, fL_wL, aI_sI, aI_sL, aI_wL, aL_sI, aL_sL, aL_wI, fR_sI, fR_sL, fR_wI, fR_wL, aN_sI, aN_sL, aN_wI, aN_wL, ne_eq, Nat.reduceEqDiff, not_false_eq_true]; rw [(y2.2.2 19 rfl).1, y4, nI_sub (by omega)]; congr 2; omega
        · simp only [fI_s, fI_sn, fL_s, fL_sn, aI_w, aI_wn, aL_w, aL_wn, fI_sL, fI_wI, fI_wL, fL_sI, fL_wI, fL_wL, aI_sI, aI_sL, aI_wL, aL_sI, aL_sL, aL_wI, fR_sI, fR_sL, fR_wI, fR_wL, aN_sI, aN_sL, aN_wI, aN_wL, ne_eq, Nat.reduceEqDiff, not_false_eq_true]; exact (y2.2.2 20 rfl).2
      · rw [y1] at hw
        exact h0 e S4 hw y2.t
    · rw [if_pos rfl]
      rw [if_neg e2] at hw
      exact h0 _ S2 hw (CFT.of k2.t h2.t)
  · rw [if_pos rfl]
    refine h0 e S1 ?_ (CFT.of KL.pos.t c1.t)
    unfold wor; rw [e1]
end
