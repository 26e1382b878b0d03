/-! Tones: the reference. -/
section
variable {S : PS} {A : Nat → Nat} {B : Nat → Int32} {n p T : Nat}
theorem r_lengthAt_f {Q : PS → Prop} {x : Int32} (hf : ¬ fI S 102 (A 9) ≤ 0) (hQ : Q S) : wp_X12_lengthAt (A 9) x S Q := by
  unfold wp_X12_lengthAt
  rw [if_neg hf]; exact hQ
theorem chd_kd : ∀ k p e, chd B k p = .error e → Kd e := by
  intro k
  induction k with
  | zero =>
    intro p e h
    rw [chd] at h
    split at h
    · injection h with h; rw [← h]; exact kdm (by decide) (by decide)
    · split at h
      · cases h
      · injection h with h; rw [← h]; exact kdm (by decide) (by decide)
  | succ k ih =>
    intro p e h
    rw [chd] at h
    split at h
    · cases h
    · split at h
      · split at h
        · cases h
        · rename_i e1
          injection h with h; subst h; exact ih _ _ e1
      · injection h with h; rw [← h]; exact kdm (by decide) (by decide)
theorem snd_kd {e : Nat × Nat} (h : snd B p = .error e) : Kd e := by
  unfold snd at h
  split at h
  · cases h
  · split at h
    · exact chd_kd _ _ _ h
    · split at h
      · cases h
      · injection h with h; rw [← h]; exact kdm (by decide) (by decide)
theorem snd_nil {l : List Nat} {q : Nat} (h : snd B p = .ok (l, q)) : l.length = 0 ↔ B p = 114 := by
  unfold snd at h
  split at h
  · rename_i e
    injection h with h; injection h with h2 h3
    subst h2; exact ⟨fun _ => e, fun _ => rfl⟩
  · rename_i e
    refine ⟨fun c => ?_, fun c => absurd c e⟩
    exfalso
    split at h
    · rw [chd] at h
      split at h
      · rename_i d; exact d.2 rfl
      · split at h
        · split at h
          · injection h with h; injection h with h2 h3
            subst h2; cases c
          · cases h
        · cases h
    · split at h
      · injection h with h; injection h with h2 h3
        subst h2; cases c
      · cases h
def jN (j : Nat) : Bool := decide (101 ≤ j ∧ j ≤ 103 ∨ j = 113 ∨ j = 117)
def rNt (r : Nat) : Bool := decide (42 ≤ r ∧ r ≤ 52 ∨ r = 64)
def KN (S S1 : PS) : Prop := Keep jN rNt S S1
theorem KN.m {S1 : PS} (h : KN S S1) : KM S S1 := h.mono (fun j => by unfold jM jN; simp only [decide_eq_false_iff_not]; omega) (fun r => by unfold rM rNt; simp only [decide_eq_false_iff_not]; omega)
theorem KW.toN {S1 : PS} (h : KW S S1) : KN S S1 := h.mono (fun j => by unfold jN jW; simp only [decide_eq_false_iff_not]; omega) (fun r => by unfold rW rNt; simp only [decide_eq_false_iff_not]; omega)
theorem KE.toN {S1 : PS} (h : KE S S1) : KN S S1 := h.mono (fun j => by unfold jN jE; simp only [decide_eq_false_iff_not]; omega) (fun r => by unfold rE4 rNt; simp only [decide_eq_false_iff_not]; omega)
theorem KR.toN {S1 : PS} (h : KR S S1) : KN S S1 := h.w.toN
theorem IH.toN {S1 : PS} {op m : Nat} {lst s pl : Int32} (h : IH S S1 A T op m lst s pl) : KN S S1 := h.1.mono (fun j => by unfold jN jIH; simp only [decide_eq_false_iff_not]; omega) (fun r => by unfold rIH rNt; simp only [decide_eq_false_iff_not]; omega)
/-- what reading tones leaves -/
def TN (S S1 : PS) (A : Nat → Nat) (B : Nat → Int32) (T op m wr p : Nat) (lst : Int32) (l : List Nat) (t : Int64) (b : Int32) (q : Nat) : Prop :=
  KN S S1 ∧ fI S1 101 (A 9) = nI q ∧ fI S1 102 (A 9) = 0 ∧ fI S1 113 (A 9) = nI (T + 1) ∧ fI S1 117 (A 9) = nI (wr + l.length) ∧ aI S1 42 (A 42) = uq (aI S 42 (A 42)) T 0 ∧ aI S1 43 (A 43) = uq (aI S 43 (A 43)) T (nI p) ∧ aI S1 44 (A 44) = uq (aI S 44 (A 44)) T (nI wr) ∧ aI S1 45 (A 45) = uq (aI S 45 (A 45)) T (nI l.length) ∧ Lnk T m lst (aI S 46 (A 46)) (aI S 47 (A 47)) (aI S1 46 (A 46)) (aI S1 47 (A 47)) ∧ aL S1 48 (A 48) = uq (aL S 48 (A 48)) T t ∧ aI S1 49 (A 49) = uq (aI S 49 (A 49)) T b ∧ aI S1 50 (A 50) = apd (fun p => pLet (B p)) (aI S 50 (A 50)) wr l ∧ aI S1 51 (A 51) = apd (pA B) (aI S 51 (A 51)) wr l ∧ aI S1 52 (A 52) = apd (pO B) (aI S 52 (A 52)) wr l ∧ aI S1 64 (A 64) = uq (aI S 64 (A 64)) op (nI T)
/-- what pitches leave -/
def PN (S S1 : PS) (A : Nat → Nat) (B : Nat → Int32) (wr : Nat) (l : List Nat) (q : Nat) : Prop :=
  KW S S1 ∧ fI S1 101 (A 9) = nI q ∧ fI S1 102 (A 9) = 0 ∧ fI S1 117 (A 9) = nI (wr + l.length) ∧ aI S1 50 (A 50) = apd (fun p => pLet (B p)) (aI S 50 (A 50)) wr l ∧ aI S1 51 (A 51) = apd (pA B) (aI S 51 (A 51)) wr l ∧ aI S1 52 (A 52) = apd (pO B) (aI S 52 (A 52)) wr l
theorem r_tones {Q : PS → Prop} {op m wr : Nat} {lst : Int32} (h : RT S A B n) (hf : fI S 102 (A 9) = 0) (hp : fI S 101 (A 9) = nI p) (hlt : p < n) (hk : isTon (B p) = true ∨ B p = 114 ∨ B p = 60)
    (hT : fI S 113 (A 9) = nI T) (hb : T < 3100) (ho : fI S 134 (A 9) = nI (op + 1)) (hop : op ≤ 8) (hm : aI S 63 (A 63) op = nI m) (hmT : m < T) (hl : aI S 64 (A 64) op = lst) (hlst : lst = -1 ∨ ∃ l, l < T ∧ lst = nI l) (hw : fI S 117 (A 9) = nI wr) (hwr : wr ≤ p)
    (h1 : ∀ l t b q S1, sou B p = .ok (l, t, b, q) → TN S S1 A B T op m wr p lst l t b q → Q S1)
    (h0 : ∀ e S1, sou B p = .error e → Kd e → RFM S S1 A e → Q S1) : wp_X12_tones (A 9) S Q := by
  have hB := h.2.2.1
  have hn := hB.1
  unfold wp_X12_tones
  rw [hp]
  refine r_new h.1 hT hb ho hop hm hmT hl hlst (fun S3 i3 => ?_)
  have k3 := i3.toN
  have i3k := i3.1
  obtain ⟨-, a1, a2, a3, a4, a5, a6, a7, a8, a9⟩ := i3
  have h3 := h.km k3.m
  refine ⟨_, h3.1.f107, by rw [h3.1.n44]; exact vp_in_nI hb (by omega), ?_⟩
  rw [nI_clamp (by omega), show fI S3 117 (A 9) = nI wr by rw [(i3k.2.1 117 rfl).1]; exact hw]
  rintro _ rfl
  generalize e5 : wI S3 44 (A 44) T (nI wr) = S5
  have k5 : KN S S5 := k3.tr (by rw [← e5]; exact Keep.rf.wI rfl)
  have h5 : RT S5 A B n := h.km k5.m
  have f5 : fI S5 101 (A 9) = nI p := by rw [← e5, fI_wI, (i3k.2.1 101 rfl).1]; exact hp
  have g5 : fI S5 102 (A 9) = 0 := by rw [← e5, fI_wI, (i3k.2.1 102 rfl).1]; exact hf
  have w5 : fI S5 117 (A 9) = nI wr := by rw [← e5, fI_wI, (i3k.2.1 117 rfl).1]; exact hw
  have b44 : aI S5 44 (A 44) = uq (aI S 44 (A 44)) T (nI wr) := by rw [← e5, aI_w, a4, uq_uq]
  have b42 : aI S5 42 = aI S3 42 := by rw [← e5]; exact aI_wn _ _ _ _ _ _ (by decide)
  have b43 : aI S5 43 = aI S3 43 := by rw [← e5]; exact aI_wn _ _ _ _ _ _ (by decide)
  have b45 : aI S5 45 = aI S3 45 := by rw [← e5]; exact aI_wn _ _ _ _ _ _ (by decide)
  have b46 : aI S5 46 = aI S3 46 := by rw [← e5]; exact aI_wn _ _ _ _ _ _ (by decide)
  have b47 : aI S5 47 = aI S3 47 := by rw [← e5]; exact aI_wn _ _ _ _ _ _ (by decide)
  have b48 : aL S5 48 = aL S3 48 := by rw [← e5, aL_wI]
  have b49 : aI S5 49 = aI S3 49 := by rw [← e5]; exact aI_wn _ _ _ _ _ _ (by decide)
  have b50 : aI S5 50 = aI S 50 := by rw [← e5, aI_wn _ _ _ _ _ _ (by decide)]; exact (i3k.2.2 50 rfl).1
  have b51 : aI S5 51 = aI S 51 := by rw [← e5, aI_wn _ _ _ _ _ _ (by decide)]; exact (i3k.2.2 51 rfl).1
  have b52 : aI S5 52 = aI S 52 := by rw [← e5, aI_wn _ _ _ _ _ _ (by decide)]; exact (i3k.2.2 52 rfl).1
  have b64 : aI S5 64 = aI S3 64 := by rw [← e5]; exact aI_wn _ _ _ _ _ _ (by decide)
  have b113 : fI S5 113 (A 9) = nI (T + 1) := by rw [← e5, fI_wI]; exact a1
  clear e5
  refine r_here h5 f5 (by omega) ?_
  refine r_isTone (fun ht => ?_) (fun ht => ?_)
  all_goals
    intro K hK
    have tail : ∀ l q S6, snd B p = .ok (l, q) → PN S5 S6 A B wr l q → K S6 := by
      intro l q S6 c1 c2
      obtain ⟨c2, c3, c4, c5, c6, c7, c8⟩ := c2
      have hq := snd_ok hB (by omega) c1
      have h6 := h5.kw c2
      apply hK
      refine ⟨_, h6.1.f108, _, h6.1.f107, by rw [h6.1.n44]; exact vp_in_nI hb (by omega), by rw [h6.1.n45]; exact vp_in_nI hb (by omega), ?_⟩
      have ev : fI S6 117 (A 9) - aI S6 44 (A 44) T = nI l.length := by
        rw [c5, (c2.2.2 44 rfl).1, b44, uq_at, nI_sub (by omega)]; congr 1; omega
      rw [ev]
      rintro _ rfl
      have h7 : RT (wI S6 45 (A 45) T (nI l.length)) A B n := h6.km (Keep.rf.wI rfl)
      refine r_lengthAt h7 c4 c3 hq.2.2 hb (by rw [aL_wI, (c2.2.2 48 rfl).2, b48, a7]; exact uq_at) (fun t q2 S7 d1 d2 d3 d4 d5 => ?_) (fun e S7 d1 d2 d3 => ?_)
      · rw [if_pos d4]
        have h8 : RT S7 A B n := h7.km d2.m
        have hq2 := len_ok hB hq.2.2 d1
        have v45 : aI S7 45 (A 45) = uq (aI S 45 (A 45)) T (nI l.length) := by
          rw [(d2.2.2 45 rfl).1, aI_w, (c2.2.2 45 rfl).1, b45, a5, uq_uq]
        have fin : ∀ b q3 S8, sou B p = .ok (l, t, b, q3) → KN S7 S8 → (∀ j, j ≠ 101 → fI S8 j = fI S7 j) → (∀ r, r ≠ 49 → aI S8 r = aI S7 r) → aL S8 = aL S7 → fI S8 101 (A 9) = nI q3 → aI S8 49 (A 49) = uq (aI S7 49 (A 49)) T b → Q S8 := by
          intro b q3 S8 g1 g2 g3 g4 g5 g6 g7
          have s6 : ∀ r, rW r = false → r ≠ 45 → r ≠ 49 → r ≠ 48 → aI S8 r = aI S5 r := fun r r1 r2 r3 r4 => by
            rw [g4 r r3, (d2.2.2 r (by unfold rE4; rw [decide_eq_false_iff_not]; exact r4)).1]
            rw [aI_wn _ _ _ _ _ _ r2, (c2.2.2 r r1).1]
          refine h1 l t b q3 S8 g1 ⟨k5.tr (c2.toN.tr ((Keep.rf.wI rfl).tr (d2.toN.tr g2))), g6, ?_, ?_, ?_, ?_, ?_, ?_, ?_, ?_, ?_, ?_, ?_, ?_, ?_, ?_⟩
          · rw [g3 _ (by decide)]; exact d4
          · rw [g3 _ (by decide), (d2.2.1 113 rfl).1, fI_wI, (c2.2.1 113 rfl).1]; exact b113
          · rw [g3 _ (by decide), (d2.2.1 117 rfl).1, fI_wI]; exact c5
          · rw [s6 42 rfl (by decide) (by decide) (by decide), b42]; exact a2
          · rw [s6 43 rfl (by decide) (by decide) (by decide), b43]; exact a3
          · rw [s6 44 rfl (by decide) (by decide) (by decide)]; exact b44
          · rw [g4 _ (by decide)]; exact v45
          · rw [s6 46 rfl (by decide) (by decide) (by decide), b46, s6 47 rfl (by decide) (by decide) (by decide), b47]; exact a6
          · rw [g5, d5, aL_wI, (c2.2.2 48 rfl).2, b48, a7, uq_uq]
          · rw [g7, (d2.2.2 49 rfl).1, aI_wn _ _ _ _ _ _ (by decide), (c2.2.2 49 rfl).1, b49, a8, uq_uq]
          · rw [g4 _ (by decide), (d2.2.2 50 rfl).1, aI_wn _ _ _ _ _ _ (by decide), c6, b50]
          · rw [g4 _ (by decide), (d2.2.2 51 rfl).1, aI_wn _ _ _ _ _ _ (by decide), c7, b51]
          · rw [g4 _ (by decide), (d2.2.2 52 rfl).1, aI_wn _ _ _ _ _ _ (by decide), c8, b52]
          · rw [s6 64 rfl (by decide) (by decide) (by decide), b64]; exact a9
        have v49 : aI S7 49 (A 49) T = 0 := by
          rw [(d2.2.2 49 rfl).1, aI_wn _ _ _ _ _ _ (by decide), (c2.2.2 49 rfl).1, b49, a8]; exact uq_at
        have nb : ¬ (B p ≠ 114 ∧ B q2 = 126) → Q S7 := fun z => by
          refine fin 0 q2 S7 ?_ Keep.rf (fun _ _ => rfl) (fun _ _ => rfl) rfl d3 (uq_self v49).symm
          unfold sou; rw [c1]; simp only []; rw [d1]; simp only []; rw [if_neg z]
        refine ⟨_, h8.1.f108, by rw [h8.1.n45]; exact vp_in_nI hb (by omega), ?_⟩
        rw [v45, uq_at]
        have hnil := snd_nil c1
        by_cases z : l.length = 0
        · rw [z, if_pos (by decide)]
          exact nb (fun y => y.1 (hnil.mp z))
        · rw [if_neg (nI_nle (by omega) (by omega))]
          refine r_isHere h8 d3 hq2.2 (fun y => ?_) (fun y => ?_)
          · rw [if_neg (by decide)]
            refine ⟨_, h8.1.f112, by rw [h8.1.n49]; exact vp_in_nI hb (by omega), ?_⟩
            rintro _ rfl _ rfl
            refine fin 1 (q2 + 1) _ ?_ ((Keep.rf.wI rfl).sI rfl) (fun j hj => by rw [fI_sn _ _ _ _ _ hj, fI_wI]) (fun r hr => by rw [aI_sI, aI_wn _ _ _ _ _ _ hr]) rfl (by rw [fI_s, fI_wI, d3, nI_1]) (by rw [aI_sI, aI_w]; rfl)
            unfold sou; rw [c1]; simp only []; rw [d1]; simp only []; rw [if_pos ⟨fun x => z (hnil.mpr x), y⟩]
          · rw [if_pos rfl]
            exact nb (fun x => y x.2)
      · rw [if_neg (by rw [d3.2.1]; exact d2.ne)]
        refine h0 e S7 ?_ d2 (RFM.of (k5.m.tr (c2.m.tr (Keep.rf.wI rfl))) d3)
        unfold sou; rw [c1]; simp only []; rw [d1]
    have tailF : ∀ e S6, snd B p = .error e → KW S5 S6 → fI S6 102 (A 9) = nI e.1 → fI S6 103 (A 9) = nI e.2 → K S6 := by
      intro e S6 c1 c2 c3 c4
      have hkd := snd_kd c1
      have h6 := h5.kw c2
      apply hK
      refine ⟨_, h6.1.f108, _, h6.1.f107, by rw [h6.1.n44]; exact vp_in_nI hb (by omega), by rw [h6.1.n45]; exact vp_in_nI hb (by omega), ?_⟩
      rintro _ rfl
      refine r_lengthAt_f (by rw [fI_wI, c3]; exact hkd.nle) ?_
      rw [if_neg (by rw [fI_wI, c3]; exact hkd.ne)]
      refine h0 e _ ?_ hkd ⟨k5.m.tr (c2.m.tr (Keep.rf.wI rfl)), c3, c4⟩
      unfold sou; rw [c1]
    first
    | (rw [if_pos rfl]
       rintro _ rfl
       rw [f5, nI_1]
       intro K2 hK2
       have hnt : ¬ isTon (B p) = true := by rw [ht]; decide
       by_cases e60 : B p = 60
       · rw [if_pos e60]
         have hs : snd B p = chd B 6 (p + 1) := (if_neg (by rw [e60]; decide)).trans (if_pos e60)
         apply hK2
         intro P hP
         have key : ∀ k p1 i S6, i + k = 6 → KW S5 S6 → fI S6 101 (A 9) = nI p1 → p1 ≤ n → fI S6 102 (A 9) = 0 → fI S6 117 (A 9) = nI (wr + i) → wr + i ≤ p1 →
             (∀ l q S7, chd B k p1 = .ok (l, q) → PN S6 S7 A B (wr + i) l q → K S7) → (∀ e S7, chd B k p1 = .error e → KW S6 S7 → fI S7 102 (A 9) = nI e.1 → fI S7 103 (A 9) = nI e.2 → K S7) → P 1 S6 := by
           intro k
           induction k with
           | zero =>
             intro p1 i S6 c1 c2 c3 c4 c5 c6 c7 c8 c9
             have h6 := h5.kw c2
             have hb1 := bl_ge (B := B) (p := p1)
             have hbn := bl_le hB c4
             rw [chd] at c8 c9
             apply hP
             rw [if_neg (by decide)]
             refine r_blanks h6 c3 c4 ?_
             refine ⟨_, h6.pos.1.f107, by rw [h6.pos.1.n44]; exact vp_in_nI hb (by omega), ?_⟩
             rw [aI_sI, fI_sn _ _ _ _ _ (by decide), c6, (c2.2.2 44 rfl).1, b44, uq_at, nI_sub (by omega)]
             rintro _ rfl
             have ei : wr + i - wr = 6 := by omega
             rw [ei]
             refine r_here h6.pos fI_at hbn ?_
             have out : ∀ e S7, chd B 0 p1 = .error e → RF (sI S6 101 (A 9) (nI (bl B p1))) S7 A e → P 0 S7 := by
               intro e S7 y1 y2
               apply hP
               rw [if_pos rfl]
               rw [chd] at y1
               exact c9 e S7 y1 (KR.w (Keep.tr KR.pos y2.1)) y2.2.1 y2.2.2
             refine r_isTone (fun h2 => ?_) (fun h2 => ?_)
             all_goals
               intro K3 hK3 K4 hK4
               have stop : ∀ e S7, chd B 0 p1 = .error e → RF (sI S6 101 (A 9) (nI (bl B p1))) S7 A e → K3 1 S7 := by
                 intro e S7 y1 y2
                 apply hK3
                 intro K5 hK5
                 rw [if_neg (by decide), if_neg (by rw [y2.2.1]; exact (chd_kd _ _ _ y1).ne)]
                 apply hK5
                 exact out e S7 y1 y2
               have k4 : K4 (sI S6 101 (A 9) (nI (bl B p1))) := by
                 apply hK4
                 refine r_here h6.pos fI_at hbn ?_
                 refine r_isTone (fun h4 => ?_) (fun h4 => ?_)
                 · rw [if_neg (by decide), fI_at]
                   exact r_bad (k := 5) (fI_at2.trans c5) (fun S7 y => stop _ S7 (by rw [chd, if_pos h4]) y)
                 · rw [if_pos rfl]
                   refine r_isHere h6.pos fI_at hbn (fun y => ?_) (fun y => ?_)
                   · intro K5 hK5
                     rw [if_neg (by decide), if_neg (by decide)]
                     rintro _ rfl
                     rw [fI_at, nI_1, sI_sI]
                     apply hK3
                     intro K6 hK6
                     rw [if_pos rfl]
                     apply hK6
                     apply hP
                     rw [if_pos rfl]
                     rw [if_neg (by rw [h4]; decide), if_pos y] at c8
                     refine c8 _ _ _ rfl ⟨KR.pos.w, fI_at, fI_at2.trans c5, ?_, rfl, rfl, rfl⟩
                     rw [fI_sn _ _ _ _ _ (by decide)]; exact c6
                   · intro K5 hK5
                     rw [if_pos rfl]
                     apply hK5
                     rw [fI_at]
                     exact r_bad (k := 1) (fI_at2.trans c5) (fun S7 z => stop _ S7 (by rw [chd, if_neg (by rw [h4]; decide), if_neg y]) z)
               first
               | (rw [if_neg (by decide), if_pos (by decide)]; exact k4)
               | (rw [if_pos rfl]; exact k4)
           | succ k ih =>
             intro p1 i S6 c1 c2 c3 c4 c5 c6 c7 c8 c9
             have h6 := h5.kw c2
             have hb1 := bl_ge (B := B) (p := p1)
             have hbn := bl_le hB c4
             rw [chd] at c8
             apply hP
             rw [if_neg (by decide)]
             refine r_blanks h6 c3 c4 ?_
             refine ⟨_, h6.pos.1.f107, by rw [h6.pos.1.n44]; exact vp_in_nI hb (by omega), ?_⟩
             rw [aI_sI, fI_sn _ _ _ _ _ (by decide), c6, (c2.2.2 44 rfl).1, b44, uq_at, nI_sub (by omega)]
             rintro _ rfl
             have ei : wr + i - wr = i := by omega
             rw [ei]
             refine r_here h6.pos fI_at hbn ?_
             have out : ∀ e S7, chd B (k + 1) p1 = .error e → RF (sI S6 101 (A 9) (nI (bl B p1))) S7 A e → P 0 S7 := by
               intro e S7 y1 y2
               apply hP
               rw [if_pos rfl]
               exact c9 e S7 y1 (KR.w (Keep.tr KR.pos y2.1)) y2.2.1 y2.2.2
             refine r_isTone (fun h2 => ?_) (fun h2 => ?_)
             · intro K3 hK3 K4 hK4
               rw [if_neg (by decide), if_neg (cle_no 6 (by rfl) (by omega) (by omega))]
               have hbl := isTon_lt hB h2
               have hne : ¬ (B (bl B p1) = 62 ∧ k ≠ 5) := fun z => by rw [z.1] at h2; exact absurd h2 (by decide)
               rw [if_neg hne, if_pos h2] at c8
               have c9' := c9
               rw [chd, if_neg hne, if_pos h2] at c9'
               have hpe := pE_le hB hbl
               refine r_pitchAt h6.pos fI_at hbl (by rw [fI_sn _ _ _ _ _ (by decide)]; exact c6) (by omega) (fun S7 z1 z2 z3 z4 z5 z6 z7 => ?_)
               apply hK3
               intro K5 hK5
               have z3' : fI S7 102 (A 9) = 0 := z3.trans (fI_at2.trans c5)
               rw [if_neg (by decide), if_pos z3']
               apply hK5
               refine ih (pE B (bl B p1)) (i + 1) S7 (by omega) (c2.tr (KR.pos.w.tr z1)) z2 hpe.2 z3' (by rw [z4]; rfl) (by omega) (fun l q S8 y1 y2 => ?_) (fun e S8 y1 y2 y3 y4 => ?_)
               · rw [y1] at c8
                 obtain ⟨y2, y3, y4, y5, y6, y7, y8⟩ := y2
                 refine c8 _ q S8 rfl ⟨KR.pos.w.tr (z1.tr y2), y3, y4, ?_, ?_, ?_, ?_⟩
                 · rw [List.length_cons, y5]; congr 1; omega
                 · rw [y6, z5]; rfl
                 · rw [y7, z6]; rfl
                 · rw [y8, z7]; rfl
               · rw [y1] at c9'
                 exact c9' e S8 rfl (KR.pos.w.tr (z1.tr y2)) y3 y4
             · intro K3 hK3 K4 hK4
               rw [if_pos rfl]
               have stop : ∀ e S7, chd B (k + 1) p1 = .error e → RF (sI S6 101 (A 9) (nI (bl B p1))) S7 A e → K3 1 S7 := by
                 intro e S7 y1 y2
                 apply hK3
                 intro K5 hK5
                 rw [if_neg (by decide), if_neg (by rw [y2.2.1]; exact (chd_kd _ _ _ y1).ne)]
                 apply hK5
                 exact out e S7 y1 y2
               apply hK4
               refine r_here h6.pos fI_at hbn ?_
               refine r_isTone (fun h4 => by rw [h2] at h4; cases h4) (fun h4 => ?_)
               rw [if_pos rfl]
               refine r_isHere h6.pos fI_at hbn (fun y => ?_) (fun y => ?_)
               · intro K5 hK5
                 rw [if_neg (by decide)]
                 by_cases z : k = 5
                 · have i0 : i = 0 := by omega
                   rw [i0, if_pos (by decide)]
                   apply hK5
                   rw [fI_at]
                   exact r_bad (k := 1) (fI_at2.trans c5) (fun S7 x => stop _ S7 (by rw [chd, if_neg (fun w => w.2 z), if_neg (by rw [h4]; decide)]) x)
                 · rw [if_neg (nI_nle (by omega) (by omega))]
                   rintro _ rfl
                   rw [fI_at, nI_1, sI_sI]
                   apply hK3
                   intro K6 hK6
                   rw [if_pos rfl]
                   apply hK6
                   apply hP
                   rw [if_pos rfl]
                   rw [if_pos ⟨y, z⟩] at c8
                   refine c8 _ _ _ rfl ⟨KR.pos.w, fI_at, fI_at2.trans c5, ?_, rfl, rfl, rfl⟩
                   rw [fI_sn _ _ _ _ _ (by decide)]; exact c6
               · intro K5 hK5
                 rw [if_pos rfl]
                 apply hK5
                 rw [fI_at]
                 exact r_bad (k := 1) (fI_at2.trans c5) (fun S7 x => stop _ S7 (by rw [chd, if_neg (fun w => y w.1), if_neg (by rw [h4]; decide)]) x)
         refine key 6 (p + 1) 0 _ rfl KR.pos.w fI_at hlt (fI_at2.trans g5) (by rw [fI_sn _ _ _ _ _ (by decide)]; exact w5) (by omega) (fun l q S7 y1 y2 => ?_) (fun e S7 y1 y2 y3 y4 => ?_)
         · obtain ⟨y2, y3, y4, y5, y6, y7, y8⟩ := y2
           exact tail l q S7 (hs.trans y1) ⟨KR.pos.w.tr y2, y3, y4, y5, y6, y7, y8⟩
         · exact tailF e S7 (hs.trans y1) (KR.pos.w.tr y2) y3 y4
       · rw [if_neg e60]
         have e114 : B p = 114 := by
           rcases hk with z | z | z
           · exact absurd z hnt
           · exact z
           · exact absurd z e60
         have hs : snd B p = .ok ([], p + 1) := if_pos e114
         apply hK2
         intro P hP
         apply hP
         rw [if_pos rfl]
         refine tail [] _ _ hs ⟨KR.pos.w, fI_at, fI_at2.trans g5, ?_, rfl, rfl, rfl⟩
         rw [fI_sn _ _ _ _ _ (by decide)]; exact w5)
    | (rw [if_neg (by decide)]
       have hs : snd B p = .ok ([p], pE B p) := (if_neg (fun z => by rw [z] at ht; exact absurd ht (by decide))).trans ((if_neg (fun z => by rw [z] at ht; exact absurd ht (by decide))).trans (if_pos ht))
       refine r_pitchAt h5 f5 hlt w5 (by omega) (fun S7 z1 z2 z3 z4 z5 z6 z7 => ?_)
       exact tail [p] _ S7 hs ⟨z1, z2, z3.trans g5, z4, z5, z6, z7⟩)
end
