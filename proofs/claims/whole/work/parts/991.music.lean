/-! The whole text: both. -/
def PFm (a : Nat) (r9 : Int32) (S10 : PS) (Q : PS → Prop) : Prop :=
  (∀ S12, S12 = sI S10 146 a 0 → (∀ S13, S13 = sI S12 149 a 1 → (∃ b14, fR S13 147 a = some b14 ∧ (vp_in 0 (aN S13 b14) ∧ ∀ S15, S15 = wL S13 76 b14 (0 : Int32).toNatClampNeg 0 → (∃ b16, fR S15 148 a = some b16 ∧ (vp_in 0 (aN S15 b16) ∧ ∀ S17, S17 = wI S15 77 b16 (0 : Int32).toNatClampNeg (-1) → (∀ S18, S18 = sI S17 153 a 1 → (∃ b19, fR S18 150 a = some b19 ∧ (vp_in 0 (aN S18 b19) ∧ ∀ S20, S20 = wL S18 78 b19 (0 : Int32).toNatClampNeg 0 → (∃ b21, fR S20 151 a = some b21 ∧ (vp_in 0 (aN S20 b21) ∧ ∀ S22, S22 = wI S20 79 b21 (0 : Int32).toNatClampNeg 4 → (∃ b23, fR S22 152 a = some b23 ∧ (vp_in 0 (aN S22 b23) ∧ ∀ S24, S24 = wI S22 80 b23 (0 : Int32).toNatClampNeg 4 → (∀ S25, S25 = sI S24 154 a 0 → (∀ S26, S26 = sI S25 155 a 0 → (∀ S27, S27 = sL S26 156 a 0 → (∀ S28, S28 = sL S27 157 a 967680 → (∀ S29, S29 = sI S28 158 a 28 → (∀ S30, S30 = sI S29 159 a 0 → (∀ S31, S31 = sI S30 160 a 0 → (∀ S32, S32 = sL S31 161 a 1 → (∀ S33, S33 = sL S32 162 a 1 → (∀ S34, S34 = sI S33 163 a 0 → (∀ S35, S35 = sI S34 164 a 0 → (∀ S36, S36 = sI S35 165 a 0 → (∀ S37, S37 = sI S36 166 a 0 → (∀ S38, S38 = sI S37 169 a 0 → wp_X12_performAll a r9 S38 (fun (S39 : PS) => 
 Q S39))))))))))))))))))))))))))))

section
variable {A : Nat → Nat} {B : Nat → Int32} {n : Nat}
theorem IOk.tr {S S1 S13 : PS} {p op N pc nd pq p1 N1 pc1 nd1 : Nat} {inm : Bool} {stk : List (Nat × Nat × Nat × Nat × Nat)} (hp : p ≤ p1) (hN : N ≤ N1) (hg : N1 + p ≤ N + p1) (hn : inm = true → nd1 = nd) (hk : KCr S S1) (hs : Sim A B n S p op N pc nd pq inm stk S1 p1 op N1 pc1 nd1 pq inm stk) (h : IOk A B n S1 p1 op N1 pc1 nd1 pq inm stk S13) : ∃ p2 N2 pc2 nd2, p1 < p2 ∧ N1 < N2 ∧ N2 + p ≤ N + p2 ∧ (inm = true → nd2 = nd) ∧ CIv S13 A B n p2 op N2 pc2 nd2 pq inm ∧ KCr S S13 ∧ Sim A B n S p op N pc nd pq inm stk (wI S13 17 (A 17) N1 (nI N2)) p2 op N2 pc2 nd2 pq inm stk := by
  obtain ⟨p2, N2, pc2, nd2, a1, a2, a3, a4, a5, a6, a7⟩ := h
  exact ⟨p2, N2, pc2, nd2, a1, a2, by omega, fun z => (a4 z).trans (hn z), a5, Keep.tr hk a6, Sim.tr hs a7⟩
theorem smu : ∀ d, SMu A B n d := by
  intro d
  induction d with
  | zero =>
    intro S p op N pc nd pq inm stk Q hd ci
    have := ci.2.2.2.2.1
    omega
  | succ d ihd =>
    intro S p op N pc nd pq inm stk Q hd ci hst hQ1 hQ0
    have hB := ci.1.2.2.1
    have hn := hB.1
    rw [wp_X7_music]
    intro P hP
    have key : ∀ m i p1 N1 pc1 nd1 S1, 1500 - p1 = m → i ≤ p1 → CIv S1 A B n p1 op N1 pc1 nd1 pq inm → p ≤ p1 → N ≤ N1 → N1 + p ≤ N + p1 → (inm = true → nd1 = nd) → KCr S S1 → Sim A B n S p op N pc nd pq inm stk S1 p1 op N1 pc1 nd1 pq inm stk → P (nI i) S1 := by
      intro m
      induction m using Nat.strongRecOn with
      | ind m ihm =>
        intro i p1 N1 pc1 nd1 S1 a1 a2 c0 a4 a5 a6 a7 a8 sm
        have c0' := c0
        obtain ⟨x1, x2, x3, x4, x5, x6, x7, x8, x9, y1, y2, y3, y4, y5, y6⟩ := c0
        have hbn := bl_le hB x3
        have hge := bl_ge (B := B) (p := p1)
        apply hP
        rw [if_neg (clt_no 1500 (by rfl) (by omega) (by omega))]
        refine s_blanks x1 x2 x3 ?_
        refine s_next x1.pos fI_pos hbn ?_
        by_cases e1 : B (bl B p1) = -1
        · rw [if_pos e1]
          exact hQ1 S1 p1 N1 pc1 nd1 c0' a4 a5 a6 a7 a8 (Or.inl e1) sm
        · rw [if_neg e1]
          have hlt : bl B p1 < n := by
            rcases Nat.lt_or_ge (bl B p1) n with q | q
            · exact q
            · exact absurd (hB.2.1 _ q) e1
          have hby := hB.2.2 _ hlt
          refine s_begins hby.1 hby.2 (fun hbeg r8 hr8 => ?_) (fun hbeg => ?_)
          · rw [if_pos hr8]
            refine ⟨_, x1.pos.1.f58, ?_⟩
            rw [fI_pos]
            refine s_open x1.pos.1 (by simp only [fI_s, fI_sn, fL_s, fL_sn, aI_w, aI_wn, aL_w, aL_wn, fI_sL, fI_wI, fI_wL, fL_sI, fL_wI, fL_wL, aI_sI, aI_sL, aI_wL, aL_sI, aL_sL, aL_wI, fR_sI, fR_sL, fR_wI, fR_wL, aN_sI, aN_sL, aN_wI, aN_wL, ne_eq, Nat.reduceEqDiff, not_false_eq_true]; exact x6) (by omega) (by simp only [fI_s, fI_sn, fL_s, fL_sn, aI_w, aI_wn, aL_w, aL_wn, fI_sL, fI_wI, fI_wL, fL_sI, fL_wI, fL_wL, aI_sI, aI_sL, aI_wL, aL_sI, aL_sL, aL_wI, fR_sI, fR_sL, fR_wI, fR_wL, aN_sI, aN_sL, aN_wI, aN_wL, ne_eq, Nat.reduceEqDiff, not_false_eq_true]; exact x8) (fun S10 co => ?_)
            intro K hK
            have good : ∀ S13, IOk A B n S1 p1 op N1 pc1 nd1 pq inm stk S13 → K 1 S13 := by
              intro S13 ok
              obtain ⟨p2, N2, pc2, nd2, b1, b2, b3, b4, b5, b6, b7⟩ := IOk.tr a4 a5 a6 a7 a8 sm ok
              apply hK
              rw [if_neg (by decide)]
              refine ⟨_, b5.1.1.f58, ?_⟩
              refine s_close (N := N2) (x := N1) b5.1.1 b5.2.2.2.2.2.1 b2 (by have := b5.2.2.2.2.2.2.1; have := b5.2.2.1; omega) ?_
              rintro _ rfl
              rw [nI_1]
              have hp2 := b5.2.2.1
              exact ihm (1500 - p2) (by omega) (i + 1) p2 N2 pc2 nd2 _ rfl (by omega) b5.w (by omega) (by omega) b3 b4 (Keep.tr b6 (Keep.rf.wI rfl)) b7
            have bad : ∀ S13, IBad A B n S1 p1 op N1 pc1 nd1 pq inm stk S13 → K 0 S13 := by
              intro S13 b
              obtain ⟨e, w0, w1, w2, w3, w4⟩ := b
              apply hK
              rw [if_pos rfl]
              exact hQ0 S13 ⟨e, w0, Keep.tr a8 w1, w2, w3, Sim.f sm w4⟩
            have oo := c0'.o hlt co
            have N8 : N1 < 1508 := oo.2.2.2.2.2.2.2.2.1
            by_cases c36 : B (bl B p1) = 36
            · rw [if_pos c36]
              exact k_use c0' c36 co ihd (by omega) hst good bad
            rw [if_neg c36]
            by_cases c61 : B (bl B p1) = 61
            · rw [if_pos c61]
              exact k_naming c0' c61 co ihd (by omega) hst good bad
            rw [if_neg c61]
            by_cases c76 : B (bl B p1) = 76
            · rw [if_pos c76]
              refine s_relative (x := N1) oo.1 oo.2.1 (by rw [co.2.2.2.2.1, uq_at]) (by rw [co.2.2.2.2.2.1, uq_at]) (fun a b q S2 z1 z2 => ?_)
              exact k_blk (s := 3) c0' (Or.inl ⟨rfl, rfl⟩) c76 co ihd (by omega) hst z1 z2 good bad
            rw [if_neg c76]
            by_cases c77 : B (bl B p1) = 77
            · rw [if_pos c77]
              exact k_meter c0' c77 co good bad
            rw [if_neg c77]
            by_cases c82 : B (bl B p1) = 82
            · rw [if_pos c82]
              refine s_rounds (x := N1) (N := N1 + 1) oo.1 oo.2.1 hlt oo.2.2.2.1 (by omega) (by omega) (fun a b q S2 z1 z2 => ?_) (fun e S2 z1 z2 => bad S2 (k_hbad (s := 4) c0' (Or.inr (Or.inl ⟨rfl, rfl⟩)) c82 co hlt z1 z2))
              exact k_blk (s := 4) c0' (Or.inr (Or.inl ⟨rfl, rfl⟩)) c82 co ihd (by omega) hst z1 z2 good bad
            rw [if_neg c82]
            by_cases c84 : B (bl B p1) = 84
            · rw [if_pos c84]
              refine s_tuplet (x := N1) (N := N1 + 1) oo.1 oo.2.1 hlt oo.2.2.2.1 (by omega) (by omega) (fun a b q S2 z1 z2 => ?_) (fun e S2 z1 z2 => bad S2 (k_hbad (s := 5) c0' (Or.inr (Or.inr (Or.inl ⟨rfl, rfl⟩))) c84 co hlt z1 z2))
              exact k_blk (s := 5) c0' (Or.inr (Or.inr (Or.inl ⟨rfl, rfl⟩))) c84 co ihd (by omega) hst z1 z2 good bad
            rw [if_neg c84]
            by_cases c87 : B (bl B p1) = 87
            · rw [if_pos c87]
              exact k_words c0' c87 co good bad
            rw [if_neg c87]
            by_cases c88 : B (bl B p1) = 88
            · rw [if_pos c88]
              refine s_moving (x := N1) (N := N1 + 1) oo.1 oo.2.1 hlt oo.2.2.2.1 (by omega) (by omega) (fun a b q S2 z1 z2 => ?_) (fun e S2 z1 z2 => bad S2 (k_hbad (s := 6) c0' (Or.inr (Or.inr (Or.inr ⟨rfl, rfl⟩))) c88 co hlt z1 z2))
              exact k_blk (s := 6) c0' (Or.inr (Or.inr (Or.inr ⟨rfl, rfl⟩))) c88 co ihd (by omega) hst z1 z2 good bad
            rw [if_neg c88]
            by_cases c91 : B (bl B p1) = 91
            · rw [if_pos c91]
              exact k_voices c0' c91 co ihd (by omega) hst good bad
            rw [if_neg c91]
            by_cases c124 : B (bl B p1) = 124
            · rw [if_pos c124]
              exact k_line c0' c124 co good
            rw [if_neg c124]
            refine k_sound c0' ?_ co good bad
            unfold isBeg at hbeg
            simp only [Bool.or_eq_true, beq_iff_eq] at hbeg
            rcases hbeg with (((((((((((z | z) | z) | z) | z) | z) | z) | z) | z) | z) | z) | z) | z
            · exact Or.inl z
            · exact Or.inr (Or.inl z)
            · exact Or.inr (Or.inr z)
            · exact absurd z c124
            · exact absurd z c77
            · exact absurd z c76
            · exact absurd z c82
            · exact absurd z c84
            · exact absurd z c88
            · exact absurd z c91
            · exact absurd z c87
            · exact absurd z c61
            · exact absurd z c36
          · rw [if_neg (by decide)]
            exact hQ1 S1 p1 N1 pc1 nd1 c0' a4 a5 a6 a7 a8 (Or.inr hbeg) sm
    exact key _ 0 p N pc nd S rfl (Nat.zero_le p) ci (Nat.le_refl p) (Nat.le_refl N) (Nat.le_refl _) (fun _ => rfl) Keep.rf Sim.rf
/-! the whole text -/
def root : List (Nat × Nat × Nat × Nat × Nat) := [(0, 0, 0, 0, 0)]
/-- both have read the text to its end, and hold the same music -/
def Red (S Sr : PS) (A : Nat → Nat) (B : Nat → Int32) (n : Nat) : Prop := ∃ p N pc nd, CIv S A B n p 0 N pc nd 0 false ∧ MM S Sr A B n p 0 N pc nd 0 false root
theorem ClR.out {R : PS → Prop} {P : Int32 → PS → Prop} {S : PS} (h : ClR A R P) (hr : R S) : P 0 S := by
  apply h
  unfold RB
  rw [if_pos rfl]; exact hr
/-- the reference begins -/
theorem r_start {S Sr : PS} {Q : Int32 → PS → Prop} (rt : RT Sr A B n) (hf : fI Sr 102 (A 9) = 0) (h101 : fI Sr 101 (A 9) = 0) (h113 : fI Sr 113 (A 9) = 0) (h117 : fI Sr 117 (A 9) = 0) (h120 : fI Sr 120 (A 9) = 0) (h125 : fI Sr 125 (A 9) = 0) (h126 : fI Sr 126 (A 9) = 0)
    (hQ : ∀ Sr4, KM Sr Sr4 → MM S Sr4 A B n 0 0 0 0 0 0 false root → ∀ P, ClR A (fun S7 => Q 0 S7) P → P 1 Sr4) : wp_X12_readAll (A 9) Sr Q := by
  unfold wp_X12_readAll
  refine r_item (T := 0) rt.1 h113 (by omega) (fun Sr1 i1 => ?_)
  obtain ⟨k, a1, a2, a3, a4, a5, a6, a7, a8, a9⟩ := i1
  rintro _ rfl
  have l1 := rt.1.st k.1
  refine r_openMusic (op := 0) (S := sI Sr1 134 (A 9) 0) (l1.st (Keep.rf.sI (J := jO) (R := rN) rfl).1) (by rw [fI_s]; rfl) (by omega) (fun Sr4 om => ?_)
  obtain ⟨k3, b1, b2, b3, b4, b5⟩ := om
  have km : KM Sr Sr4 := Keep.tr (k.mono (J1 := jM) (R1 := rM) (fun j => by unfold jM jJ; simp only [decide_eq_false_iff_not]; omega) (fun r => by unfold rM rJ; simp only [decide_eq_false_iff_not]; omega)) (Keep.tr (Keep.rf.sI rfl) (k3.mono (fun j => by unfold jM jO; simp only [decide_eq_false_iff_not]; omega) (fun r => by unfold rM rO; simp only [decide_eq_false_iff_not]; omega)))
  have f : ∀ j, jO j = false → jJ j = false → j ≠ 134 → fI Sr4 j = fI Sr j := fun j j1 j2 j3 => by rw [(k3.2.1 j j1).1, fI_sn _ _ _ _ _ j3, (k.2.1 j j2).1]
  have e46 : aI Sr4 46 (A 46) 0 = -1 := by rw [(k3.2.2 46 rfl).1, aI_sI, a6, uq_at]
  refine fun P hP => hQ Sr4 km ?_ P hP
  refine ⟨1, 0, 0, fun _ => 0, fun _ => 0, fun _ => 5000, fun _ => 0, fun _ => 0, fun _ => 0, fun _ => false, -1, rt.km km, ⟨by rw [f 102 rfl rfl (by decide)]; exact hf, by rw [f 101 rfl rfl (by decide)]; exact h101, by rw [(k3.2.1 113 rfl).1, fI_sn _ _ _ _ _ (by decide)]; exact a1, by omega, by rw [f 117 rfl rfl (by decide)]; exact h117, by rw [f 120 rfl rfl (by decide)]; exact h120, rfl, b1, by rw [f 125 rfl rfl (by decide)]; exact h125, by rw [f 126 rfl rfl (by decide)]; exact h126, fun z => by cases z⟩, ⟨?_, ?_, ?_, ?_, ?_, ?_, rfl, ?_⟩, ⟨Nat.le_refl 0, rfl, fun z hz _ => hz, ?_, Or.inl ⟨rfl, rfl⟩⟩, by rw [b5, uq_at], ?_, ?_, ?_, ⟨⟨?_, fun z => by cases z⟩, fun x h1 h2 => by omega, fun f hf f4 => by (unfold root at hf; rw [List.mem_singleton.mp hf] at f4; exact absurd f4 (show ¬ (0 : Nat) = 4 by decide)), fun z => by cases z⟩, ⟨rfl, rfl, by rw [b2, uq_at], by rw [b4, uq_at]⟩, rfl, rfl, rfl⟩
  · intro x hx
    exact ⟨Nat.le_refl 0, by show 0 < 1; omega, fun y h1 h2 => by omega⟩
  · intro x hx
    show aI Sr4 46 (A 46) 0 = _
    rw [e46, if_neg (by omega)]
  · intro x h1 h2; omega
  · intro x h1 h2; omega
  · intro x h1 h2; omega
  · intro x h1 h2; omega
  · intro z w h1 h2 h3 h4; omega
  · intro z h1 h2; omega
  · intro z h1 h2; omega
  · intro z h1 h2; omega
  · intro z h1 h2; omega
  · intro k hk; omega
theorem s_readText {S : PS} {Q : Int32 → PS → Prop} (hc : CT S A B n) (h45 : fI S 45 (A 5) = 0) (h53 : fI S 53 (A 5) = 0) (h54 : fI S 54 (A 5) = 0)
    (hex : ∃ Sr, RT Sr A B n ∧ fI Sr 102 (A 9) = 0)
    (h1 : ∀ S1, KCr S S1 → (∃ Sr1, Red S1 Sr1 A B n) → (∀ Sr, RT Sr A B n → fI Sr 102 (A 9) = 0 → ∀ Q2 : PS → Prop, (∀ Sr1, KM Sr Sr1 → fI Sr1 102 (A 9) = 0 → Red S1 Sr1 A B n → PFm (A 9) 0 Sr1 Q2) → wp_X12_readText (A 9) Sr Q2) → Q 1 S1)
    (h0 : ∀ S1 e, KCr S S1 → Kd e → fI S1 0 (A 0) = nI e.1 → fI S1 1 (A 0) = nI e.2 → (∀ Sr, RT Sr A B n → fI Sr 102 (A 9) = 0 → ∀ Q2 : PS → Prop, (∀ Sr1, RFM Sr Sr1 A e → Q2 Sr1) → wp_X12_readText (A 9) Sr Q2) → Q 0 S1) : wp_X7_readText (A 6) S Q := by
  have hB := hc.2.2.1
  have hn := hB.1
  unfold wp_X7_readText
  rintro _ rfl _ rfl _ rfl _ rfl
  generalize hS4 : sI (sI (sI (sI S 60 (A 6) 0) 61 (A 6) 0) 62 (A 6) 0) 64 (A 6) 0 = S4
  have k4 : KCr S S4 := by rw [← hS4]; exact (((Keep.rf.sI rfl).sI rfl).sI rfl).sI rfl
  have ci : CIv S4 A B n 0 0 0 0 0 0 false := ⟨hc.cr k4, by rw [← hS4]; simp only [fI_s, fI_sn, fL_s, fL_sn, aI_w, aI_wn, aL_w, aL_wn, fI_sL, fI_wI, fI_wL, fL_sI, fL_wI, fL_wL, aI_sI, aI_sL, aI_wL, aL_sI, aL_sL, aL_wI, fR_sI, fR_sL, fR_wI, fR_wL, aN_sI, aN_sL, aN_wI, aN_wL, ne_eq, Nat.reduceEqDiff, not_false_eq_true]; rfl, Nat.zero_le n, by rw [← hS4]; simp only [fI_s, fI_sn, fL_s, fL_sn, aI_w, aI_wn, aL_w, aL_wn, fI_sL, fI_wI, fI_wL, fL_sI, fL_wI, fL_wL, aI_sI, aI_sL, aI_wL, aL_sI, aL_sL, aL_wI, fR_sI, fR_sL, fR_wI, fR_wL, aN_sI, aN_sL, aN_wI, aN_wL, ne_eq, Nat.reduceEqDiff, not_false_eq_true]; rfl, by omega, by rw [← hS4]; simp only [fI_s, fI_sn, fL_s, fL_sn, aI_w, aI_wn, aL_w, aL_wn, fI_sL, fI_wI, fI_wL, fL_sI, fL_wI, fL_wL, aI_sI, aI_sL, aI_wL, aL_sI, aL_sL, aL_wI, fR_sI, fR_sL, fR_wI, fR_wL, aN_sI, aN_sL, aN_wI, aN_wL, ne_eq, Nat.reduceEqDiff, not_false_eq_true]; exact h45, by omega, by rw [← hS4]; simp only [fI_s, fI_sn, fL_s, fL_sn, aI_w, aI_wn, aL_w, aL_wn, fI_sL, fI_wI, fI_wL, fL_sI, fL_wI, fL_wL, aI_sI, aI_sL, aI_wL, aL_sI, aL_sL, aL_wI, fR_sI, fR_sL, fR_wI, fR_wL, aN_sI, aN_sL, aN_wI, aN_wL, ne_eq, Nat.reduceEqDiff, not_false_eq_true]; exact h53, by omega, by rw [← hS4]; simp only [fI_s, fI_sn, fL_s, fL_sn, aI_w, aI_wn, aL_w, aL_wn, fI_sL, fI_wI, fI_wL, fL_sI, fL_wI, fL_wL, aI_sI, aI_sL, aI_wL, aL_sI, aL_sL, aL_wI, fR_sI, fR_sL, fR_wI, fR_wL, aN_sI, aN_sL, aN_wI, aN_wL, ne_eq, Nat.reduceEqDiff, not_false_eq_true]; exact h54, by omega, by rw [← hS4]; simp only [fI_s, fI_sn, fL_s, fL_sn, aI_w, aI_wn, aL_w, aL_wn, fI_sL, fI_wI, fI_wL, fL_sI, fL_wI, fL_wL, aI_sI, aI_sL, aI_wL, aL_sI, aL_sL, aL_wI, fR_sI, fR_sL, fR_wI, fR_wL, aN_sI, aN_sL, aN_wI, aN_wL, ne_eq, Nat.reduceEqDiff, not_false_eq_true]; rfl, by rw [← hS4]; simp only [fI_s, fI_sn, fL_s, fL_sn, aI_w, aI_wn, aL_w, aL_wn, fI_sL, fI_wI, fI_wL, fL_sI, fL_wI, fL_wL, aI_sI, aI_sL, aI_wL, aL_sI, aL_sL, aL_wI, fR_sI, fR_sL, fR_wI, fR_wL, aN_sI, aN_sL, aN_wI, aN_wL, ne_eq, Nat.reduceEqDiff, not_false_eq_true]; rfl, by omega, fun _ => rfl⟩
  clear hS4
  -- the reference's own beginning
  have begin_ : ∀ (Sr : PS) (Q2 : PS → Prop), RT Sr A B n → fI Sr 102 (A 9) = 0 →
      (∀ Sr4 P, KM Sr Sr4 → MM S4 Sr4 A B n 0 0 0 0 0 0 false root → ClR A (fun S8 => (∀ K : PS → Prop, (∀ S10, (if fI S10 102 (A 9) ≤ 0 then PFm (A 9) 0 S10 Q2 else Q2 S10) → K S10) → (if fI S8 102 (A 9) = 0 then (if fI S8 100 (A 9) ≤ fI S8 101 (A 9) then K S8 else wp_X12_bad (A 9) 1 (fI S8 101 (A 9)) S8 (fun S40 => K S40)) else K S8))) P → P 1 Sr4) → wp_X12_readText (A 9) Sr Q2 := by
    intro Sr Q2 rt hf hh
    unfold wp_X12_readText
    rintro _ rfl _ rfl _ rfl _ rfl _ rfl _ rfl _ rfl
    have km : KM Sr (sI (sI (sI (sI (sI (sI (sI Sr 101 (A 9) 0) 113 (A 9) 0) 117 (A 9) 0) 120 (A 9) 0) 125 (A 9) 0) 126 (A 9) 0) 129 (A 9) 0) := ((((((Keep.rf.sI rfl).sI rfl).sI rfl).sI rfl).sI rfl).sI rfl).sI rfl
    refine r_start (S := S4) (rt.km km) (by simp only [fI_s, fI_sn, fL_s, fL_sn, aI_w, aI_wn, aL_w, aL_wn, fI_sL, fI_wI, fI_wL, fL_sI, fL_wI, fL_wL, aI_sI, aI_sL, aI_wL, aL_sI, aL_sL, aL_wI, fR_sI, fR_sL, fR_wI, fR_wL, aN_sI, aN_sL, aN_wI, aN_wL, ne_eq, Nat.reduceEqDiff, not_false_eq_true]; exact hf) (by simp only [fI_s, fI_sn, fL_s, fL_sn, aI_w, aI_wn, aL_w, aL_wn, fI_sL, fI_wI, fI_wL, fL_sI, fL_wI, fL_wL, aI_sI, aI_sL, aI_wL, aL_sI, aL_sL, aL_wI, fR_sI, fR_sL, fR_wI, fR_wL, aN_sI, aN_sL, aN_wI, aN_wL, ne_eq, Nat.reduceEqDiff, not_false_eq_true]) (by simp only [fI_s, fI_sn, fL_s, fL_sn, aI_w, aI_wn, aL_w, aL_wn, fI_sL, fI_wI, fI_wL, fL_sI, fL_wI, fL_wL, aI_sI, aI_sL, aI_wL, aL_sI, aL_sL, aL_wI, fR_sI, fR_sL, fR_wI, fR_wL, aN_sI, aN_sL, aN_wI, aN_wL, ne_eq, Nat.reduceEqDiff, not_false_eq_true]) (by simp only [fI_s, fI_sn, fL_s, fL_sn, aI_w, aI_wn, aL_w, aL_wn, fI_sL, fI_wI, fI_wL, fL_sI, fL_wI, fL_wL, aI_sI, aI_sL, aI_wL, aL_sI, aL_sL, aL_wI, fR_sI, fR_sL, fR_wI, fR_wL, aN_sI, aN_sL, aN_wI, aN_wL, ne_eq, Nat.reduceEqDiff, not_false_eq_true]) (by simp only [fI_s, fI_sn, fL_s, fL_sn, aI_w, aI_wn, aL_w, aL_wn, fI_sL, fI_wI, fI_wL, fL_sI, fL_wI, fL_wL, aI_sI, aI_sL, aI_wL, aL_sI, aL_sL, aL_wI, fR_sI, fR_sL, fR_wI, fR_wL, aN_sI, aN_sL, aN_wI, aN_wL, ne_eq, Nat.reduceEqDiff, not_false_eq_true]) (by simp only [fI_s, fI_sn, fL_s, fL_sn, aI_w, aI_wn, aL_w, aL_wn, fI_sL, fI_wI, fI_wL, fL_sI, fL_wI, fL_wL, aI_sI, aI_sL, aI_wL, aL_sI, aL_sL, aL_wI, fR_sI, fR_sL, fR_wI, fR_wL, aN_sI, aN_sL, aN_wI, aN_wL, ne_eq, Nat.reduceEqDiff, not_false_eq_true]) (by simp only [fI_s, fI_sn, fL_s, fL_sn, aI_w, aI_wn, aL_w, aL_wn, fI_sL, fI_wI, fI_wL, fL_sI, fL_wI, fL_wL, aI_sI, aI_sL, aI_wL, aL_sI, aL_sL, aL_wI, fR_sI, fR_sL, fR_wI, fR_wL, aN_sI, aN_sL, aN_wI, aN_wL, ne_eq, Nat.reduceEqDiff, not_false_eq_true]) (fun Sr4 km4 mm P hP => ?_)
    exact hh Sr4 P (Keep.tr km km4) mm hP
  have told : ∀ e, Kd e → SimF A B n S4 0 0 0 0 0 0 false root e → ∀ Sr, RT Sr A B n → fI Sr 102 (A 9) = 0 → ∀ Q2 : PS → Prop, (∀ Sr1, RFM Sr Sr1 A e → Q2 Sr1) → wp_X12_readText (A 9) Sr Q2 := by
    intro e hk sf Sr rt hf Q2 hq
    refine begin_ Sr Q2 rt hf (fun Sr4 P km mm hP => ?_)
    refine sf Sr4 mm _ P hP (fun Sr1 rf => hP.out ?_)
    intro K hK
    rw [if_neg (by rw [rf.2.1]; exact hk.ne)]
    apply hK
    rw [if_neg (by rw [rf.2.1]; exact hk.nle)]
    exact hq Sr1 (RFM.of km rf)
  refine smu 10 S4 0 0 0 0 0 0 false root _ rfl ci (fun _ f hf => ?_) (fun S0 p0 N0 pc0 nd0 c0 _ _ _ _ k0 nb sm => ?_) (fun S1 bad => ?_)
  · unfold root at hf
    rw [List.mem_singleton.mp hf]; show (0 : Nat) ≠ 3; decide
  · rw [if_neg (by decide)]
    have c0' := c0
    obtain ⟨x1, x2, x3, x4, x5, x6, x7, x8, x9, y1, y2, y3, y4, y5, y6⟩ := c0
    have hbn := bl_le hB x3
    have kc0 : KCr S S0 := Keep.tr k4 k0
    refine s_next x1.pos fI_pos hbn ?_
    by_cases e : B (bl B p0) = -1
    · rw [if_pos e]
      have hend : bl B p0 = n := by
        rcases Nat.lt_or_ge (bl B p0) n with z | z
        · have := (hB.2.2 _ z).1
          rw [e] at this; exact absurd this (by decide)
        · omega
      have fin : ∀ Sr5, MM S0 Sr5 A B n p0 0 N0 pc0 nd0 0 false root → Red (sI S0 60 (A 6) (nI (bl B p0))) (sI Sr5 101 (A 9) (nI (bl B p0))) A B n := by
        intro Sr5 mm5
        obtain ⟨T, wr, sy, g, ow, bh, par, ks, lv, pe, lst, mx⟩ := mm5.mx
        have nu := mx.2.1
        have z102 : fI (sI Sr5 101 (A 9) (nI (bl B p0))) 102 (A 9) = 0 := by rw [fI_at2]; exact nu.1
        have km6 : KM Sr5 (sI Sr5 101 (A 9) (nI (bl B p0))) := Keep.rf.sI rfl
        refine ⟨bl B p0, N0, pc0, nd0, ⟨x1.pos, fI_pos, hbn, by simp only [fI_s, fI_sn, fL_s, fL_sn, aI_w, aI_wn, aL_w, aL_wn, fI_sL, fI_wI, fI_wL, fL_sI, fL_wI, fL_wL, aI_sI, aI_sL, aI_wL, aL_sI, aL_sL, aL_wI, fR_sI, fR_sL, fR_wI, fR_wL, aN_sI, aN_sL, aN_wI, aN_wL, ne_eq, Nat.reduceEqDiff, not_false_eq_true]; exact x4, x5, by simp only [fI_s, fI_sn, fL_s, fL_sn, aI_w, aI_wn, aL_w, aL_wn, fI_sL, fI_wI, fI_wL, fL_sI, fL_wI, fL_wL, aI_sI, aI_sL, aI_wL, aL_sI, aL_sL, aL_wI, fR_sI, fR_sL, fR_wI, fR_wL, aN_sI, aN_sL, aN_wI, aN_wL, ne_eq, Nat.reduceEqDiff, not_false_eq_true]; exact x6, by have := bl_ge (B := B) (p := p0); omega, by simp only [fI_s, fI_sn, fL_s, fL_sn, aI_w, aI_wn, aL_w, aL_wn, fI_sL, fI_wI, fI_wL, fL_sI, fL_wI, fL_wL, aI_sI, aI_sL, aI_wL, aL_sI, aL_sL, aL_wI, fR_sI, fR_sL, fR_wI, fR_wL, aN_sI, aN_sL, aN_wI, aN_wL, ne_eq, Nat.reduceEqDiff, not_false_eq_true]; exact x8, by have := bl_ge (B := B) (p := p0); omega, by simp only [fI_s, fI_sn, fL_s, fL_sn, aI_w, aI_wn, aL_w, aL_wn, fI_sL, fI_wI, fI_wL, fL_sI, fL_wI, fL_wL, aI_sI, aI_sL, aI_wL, aL_sI, aL_sL, aL_wI, fR_sI, fR_sL, fR_wI, fR_wL, aN_sI, aN_sL, aN_wI, aN_wL, ne_eq, Nat.reduceEqDiff, not_false_eq_true]; exact y1, y2, by simp only [fI_s, fI_sn, fL_s, fL_sn, aI_w, aI_wn, aL_w, aL_wn, fI_sL, fI_wI, fI_wL, fL_sI, fL_wI, fL_wL, aI_sI, aI_sL, aI_wL, aL_sI, aL_sL, aL_wI, fR_sI, fR_sL, fR_wI, fR_wL, aN_sI, aN_sL, aN_wI, aN_wL, ne_eq, Nat.reduceEqDiff, not_false_eq_true]; exact y3, by simp only [fI_s, fI_sn, fL_s, fL_sn, aI_w, aI_wn, aL_w, aL_wn, fI_sL, fI_wI, fI_wL, fL_sI, fL_wI, fL_wL, aI_sI, aI_sL, aI_wL, aL_sI, aL_sL, aL_wI, fR_sI, fR_sL, fR_wI, fR_wL, aN_sI, aN_sL, aN_wI, aN_wL, ne_eq, Nat.reduceEqDiff, not_false_eq_true]; exact y4, y5, y6⟩, ?_⟩
        obtain ⟨m1, m2, m3, m4, m5, m6, m7, m8, m9, m10, m11, m12, m13⟩ := mx
        obtain ⟨n1, n2, n3, n4, n5, n6, n7, n8, n9, n10, n11⟩ := m2
        exact ⟨T, wr, sy, g, ow, bh, par, ks, lv, pe, lst, m1.km km6, ⟨z102, fI_at, by simp only [fI_s, fI_sn, fL_s, fL_sn, aI_w, aI_wn, aL_w, aL_wn, fI_sL, fI_wI, fI_wL, fL_sI, fL_wI, fL_wL, aI_sI, aI_sL, aI_wL, aL_sI, aL_sL, aL_wI, fR_sI, fR_sL, fR_wI, fR_wL, aN_sI, aN_sL, aN_wI, aN_wL, ne_eq, Nat.reduceEqDiff, not_false_eq_true]; exact n3, n4, by simp only [fI_s, fI_sn, fL_s, fL_sn, aI_w, aI_wn, aL_w, aL_wn, fI_sL, fI_wI, fI_wL, fL_sI, fL_wI, fL_wL, aI_sI, aI_sL, aI_wL, aL_sI, aL_sL, aL_wI, fR_sI, fR_sL, fR_wI, fR_wL, aN_sI, aN_sL, aN_wI, aN_wL, ne_eq, Nat.reduceEqDiff, not_false_eq_true]; exact n5, by simp only [fI_s, fI_sn, fL_s, fL_sn, aI_w, aI_wn, aL_w, aL_wn, fI_sL, fI_wI, fI_wL, fL_sI, fL_wI, fL_wL, aI_sI, aI_sL, aI_wL, aL_sI, aL_sL, aL_wI, fR_sI, fR_sL, fR_wI, fR_wL, aN_sI, aN_sL, aN_wI, aN_wL, ne_eq, Nat.reduceEqDiff, not_false_eq_true]; exact n6, n7, by simp only [fI_s, fI_sn, fL_s, fL_sn, aI_w, aI_wn, aL_w, aL_wn, fI_sL, fI_wI, fI_wL, fL_sI, fL_wI, fL_wL, aI_sI, aI_sL, aI_wL, aL_sI, aL_sL, aL_wI, fR_sI, fR_sL, fR_wI, fR_wL, aN_sI, aN_sL, aN_wI, aN_wL, ne_eq, Nat.reduceEqDiff, not_false_eq_true]; exact n8, by simp only [fI_s, fI_sn, fL_s, fL_sn, aI_w, aI_wn, aL_w, aL_wn, fI_sL, fI_wI, fI_wL, fL_sI, fL_wI, fL_wL, aI_sI, aI_sL, aI_wL, aL_sI, aL_sL, aL_wI, fR_sI, fR_sL, fR_wI, fR_wL, aN_sI, aN_sL, aN_wI, aN_wL, ne_eq, Nat.reduceEqDiff, not_false_eq_true]; exact n9, by simp only [fI_s, fI_sn, fL_s, fL_sn, aI_w, aI_wn, aL_w, aL_wn, fI_sL, fI_wI, fI_wL, fL_sI, fL_wI, fL_wL, aI_sI, aI_sL, aI_wL, aL_sI, aL_sL, aL_wI, fR_sI, fR_sL, fR_wI, fR_wL, aN_sI, aN_sL, aN_wI, aN_wL, ne_eq, Nat.reduceEqDiff, not_false_eq_true]; exact n10, fun z => by cases z⟩, m3, m4, m5, m6, m7, m8, m9, m10, m11, m12, m13⟩
      have ex : ∃ Sr1, Red (sI S0 60 (A 6) (nI (bl B p0))) Sr1 A B n := by
        obtain ⟨Sr, rt, hf⟩ := hex
        have km : KM Sr (sI (sI (sI (sI (sI (sI (sI Sr 101 (A 9) 0) 113 (A 9) 0) 117 (A 9) 0) 120 (A 9) 0) 125 (A 9) 0) 126 (A 9) 0) 129 (A 9) 0) := ((((((Keep.rf.sI rfl).sI rfl).sI rfl).sI rfl).sI rfl).sI rfl).sI rfl
        refine f_X12_readAll (fun _ _ h => h) (r_start (S := S4) (Q := fun _ _ => ∃ Sr1, Red (sI S0 60 (A 6) (nI (bl B p0))) Sr1 A B n) (rt.km km) (by simp only [fI_s, fI_sn, fL_s, fL_sn, aI_w, aI_wn, aL_w, aL_wn, fI_sL, fI_wI, fI_wL, fL_sI, fL_wI, fL_wL, aI_sI, aI_sL, aI_wL, aL_sI, aL_sL, aL_wI, fR_sI, fR_sL, fR_wI, fR_wL, aN_sI, aN_sL, aN_wI, aN_wL, ne_eq, Nat.reduceEqDiff, not_false_eq_true]; exact hf) (by simp only [fI_s, fI_sn, fL_s, fL_sn, aI_w, aI_wn, aL_w, aL_wn, fI_sL, fI_wI, fI_wL, fL_sI, fL_wI, fL_wL, aI_sI, aI_sL, aI_wL, aL_sI, aL_sL, aL_wI, fR_sI, fR_sL, fR_wI, fR_wL, aN_sI, aN_sL, aN_wI, aN_wL, ne_eq, Nat.reduceEqDiff, not_false_eq_true]) (by simp only [fI_s, fI_sn, fL_s, fL_sn, aI_w, aI_wn, aL_w, aL_wn, fI_sL, fI_wI, fI_wL, fL_sI, fL_wI, fL_wL, aI_sI, aI_sL, aI_wL, aL_sI, aL_sL, aL_wI, fR_sI, fR_sL, fR_wI, fR_wL, aN_sI, aN_sL, aN_wI, aN_wL, ne_eq, Nat.reduceEqDiff, not_false_eq_true]) (by simp only [fI_s, fI_sn, fL_s, fL_sn, aI_w, aI_wn, aL_w, aL_wn, fI_sL, fI_wI, fI_wL, fL_sI, fL_wI, fL_wL, aI_sI, aI_sL, aI_wL, aL_sI, aL_sL, aL_wI, fR_sI, fR_sL, fR_wI, fR_wL, aN_sI, aN_sL, aN_wI, aN_wL, ne_eq, Nat.reduceEqDiff, not_false_eq_true]) (by simp only [fI_s, fI_sn, fL_s, fL_sn, aI_w, aI_wn, aL_w, aL_wn, fI_sL, fI_wI, fI_wL, fL_sI, fL_wI, fL_wL, aI_sI, aI_sL, aI_wL, aL_sI, aL_sL, aL_wI, fR_sI, fR_sL, fR_wI, fR_wL, aN_sI, aN_sL, aN_wI, aN_wL, ne_eq, Nat.reduceEqDiff, not_false_eq_true]) (by simp only [fI_s, fI_sn, fL_s, fL_sn, aI_w, aI_wn, aL_w, aL_wn, fI_sL, fI_wI, fI_wL, fL_sI, fL_wI, fL_wL, aI_sI, aI_sL, aI_wL, aL_sI, aL_sL, aL_wI, fR_sI, fR_sL, fR_wI, fR_wL, aN_sI, aN_sL, aN_wI, aN_wL, ne_eq, Nat.reduceEqDiff, not_false_eq_true]) (by simp only [fI_s, fI_sn, fL_s, fL_sn, aI_w, aI_wn, aL_w, aL_wn, fI_sL, fI_wI, fI_wL, fL_sI, fL_wI, fL_wL, aI_sI, aI_sL, aI_wL, aL_sI, aL_sL, aL_wI, fR_sI, fR_sL, fR_wI, fR_wL, aN_sI, aN_sL, aN_wI, aN_wL, ne_eq, Nat.reduceEqDiff, not_false_eq_true]) (fun Sr4 km4 mm P hP => ?_))
        refine sm Sr4 mm _ P hP (fun Sr5 km5 mm5 => ?_)
        obtain ⟨T, wr, sy, g, ow, bh, par, ks, lv, pe, lst, mx⟩ := mm5.mx
        have rt5 := mx.1
        have nu := mx.2.1
        have sk := mx.2.2.2.2.2.2.2.2.2.1
        exact it_ends (s := 0) rt5 nu.2.1 x3 (Or.inl e) nu.2.2.2.2.2.2.2.1 (by omega) sk.2.2.1 (by omega) hP (fun _ => hP.out ⟨_, fin Sr5 mm5⟩) (fun z => absurd rfl z)
      refine h1 _ (Keep.tr kc0 (KL.cr KL.pos)) ex (fun Sr rt hf Q2 hq => ?_)
      refine begin_ Sr Q2 rt hf (fun Sr4 P km mm hP => ?_)
      refine sm Sr4 mm _ P hP (fun Sr5 km5 mm5 => ?_)
      obtain ⟨T, wr, sy, g, ow, bh, par, ks, lv, pe, lst, mx⟩ := mm5.mx
      have rt5 := mx.1
      have nu := mx.2.1
      have sk := mx.2.2.2.2.2.2.2.2.2.1
      refine it_ends (s := 0) rt5 nu.2.1 x3 (Or.inl e) nu.2.2.2.2.2.2.2.1 (by omega) sk.2.2.1 (by omega) hP (fun _ => hP.out ?_) (fun z => absurd rfl z)
      intro K hK
      have z102 : fI (sI Sr5 101 (A 9) (nI (bl B p0))) 102 (A 9) = 0 := by rw [fI_at2]; exact nu.1
      rw [if_pos z102, fI_at, fI_sn _ _ _ _ _ (by decide), rt5.2.1, if_pos (nI_le (by omega) (by omega))]
      apply hK
      rw [z102, if_pos (by decide)]
      have km6 : KM Sr5 (sI Sr5 101 (A 9) (nI (bl B p0))) := Keep.rf.sI rfl
      exact hq _ (Keep.tr km (Keep.tr km5 km6)) z102 (fin Sr5 mm5)
    · rw [if_neg e]
      refine s_refuse x1.pos fI_pos (fun S1 cf => ?_)
      rw [if_pos rfl]
      refine h0 S1 (1, bl B p0) (Keep.tr kc0 (KL.cr (Keep.tr KL.pos cf.1))) (kdm (by decide) (by decide)) cf.2.1 cf.2.2 (fun Sr rt hf Q2 hq => ?_)
      have hlt : bl B p0 < n := by
        rcases Nat.lt_or_ge (bl B p0) n with q | q
        · exact q
        · exact absurd (hB.2.1 _ q) e
      refine begin_ Sr Q2 rt hf (fun Sr4 P km mm hP => ?_)
      refine sm Sr4 mm _ P hP (fun Sr5 km5 mm5 => ?_)
      obtain ⟨T, wr, sy, g, ow, bh, par, ks, lv, pe, lst, mx⟩ := mm5.mx
      have rt5 := mx.1
      have nu := mx.2.1
      have sk := mx.2.2.2.2.2.2.2.2.2.1
      obtain ⟨e1, e2, e3, e4, e5, e6, e7⟩ := mx.pre (by omega)
      by_cases c : B (bl B p0) = -1 ∨ B (bl B p0) = 125 ∨ B (bl B p0) = 93 ∨ B (bl B p0) = 47
      · refine it_ends (s := 0) rt5 nu.2.1 x3 c nu.2.2.2.2.2.2.2.1 (by omega) sk.2.2.1 (by omega) hP (fun _ => hP.out ?_) (fun z => absurd rfl z)
        intro K hK
        have z102 : fI (sI Sr5 101 (A 9) (nI (bl B p0))) 102 (A 9) = 0 := by rw [fI_at2]; exact nu.1
        rw [if_pos z102, fI_at, fI_sn _ _ _ _ _ (by decide), rt5.2.1, if_neg (nI_ge hlt (by omega))]
        refine r_bad (k := 1) z102 (fun S6 rf => ?_)
        apply hK
        rw [if_neg (by rw [rf.2.1]; exact nI_nle (by show 0 < 1; omega) (by show 1 < _; omega))]
        exact hq S6 (RFM.of (Keep.tr km (Keep.tr km5 (KR.m KR.pos))) rf.m)
      · refine it_item rt5 nu.2.1 x3 (fun z => c (Or.inl z)) (fun z => c (Or.inr (Or.inl z))) (fun z => c (Or.inr (Or.inr (Or.inl z)))) (fun z => c (Or.inr (Or.inr (Or.inr z)))) hP (fun Q3 hQ3 => ?_)
        refine r_ri rt5.pos fI_at hlt nb.tone (nb.ne (by decide)) (nb.ne (by decide)) (by simp only [fI_s, fI_sn, fL_s, fL_sn, aI_w, aI_wn, aL_w, aL_wn, fI_sL, fI_wI, fI_wL, fL_sI, fL_wI, fL_wL, aI_sI, aI_sL, aI_wL, aL_sI, aL_sL, aL_wI, fR_sI, fR_sL, fR_wI, fR_wL, aN_sI, aN_sL, aN_wI, aN_wL, ne_eq, Nat.reduceEqDiff, not_false_eq_true]; exact e1) (by omega) (by simp only [fI_s, fI_sn, fL_s, fL_sn, aI_w, aI_wn, aL_w, aL_wn, fI_sL, fI_wI, fI_wL, fL_sI, fL_wI, fL_wL, aI_sI, aI_sL, aI_wL, aL_sI, aL_sL, aL_wI, fR_sI, fR_sL, fR_wI, fR_wL, aN_sI, aN_sL, aN_wI, aN_wL, ne_eq, Nat.reduceEqDiff, not_false_eq_true]; exact e3) (by omega) e4 e5 e6 e7 (fun Sr6 ia => ?_)
        refine chn_bad nb (by rw [(ia.1.2.1 102 rfl).1, fI_at2]; exact nu.1) ia.2.1 (fun S6 rf => hQ3 S6 ⟨fun y => absurd y (by rw [rf.2.1]; exact nI_ne0 (by show 0 < 1; omega) (by show 1 < _; omega)), fun _ => hP.out ?_⟩)
        intro K hK
        rw [if_neg (by rw [rf.2.1]; exact nI_ne0 (by show 0 < 1; omega) (by show 1 < _; omega))]
        apply hK
        rw [if_neg (by rw [rf.2.1]; exact nI_nle (by show 0 < 1; omega) (by show 1 < _; omega))]
        exact hq S6 (RFM.of (Keep.tr km (Keep.tr km5 (Keep.tr (KR.m KR.pos) ia.km))) rf.m)
  · rw [if_pos rfl]
    obtain ⟨e, w0, w1, w2, w3, w4⟩ := bad
    exact h0 S1 e (Keep.tr k4 w1) w0 w2 w3 (told e w0 w4)
end
