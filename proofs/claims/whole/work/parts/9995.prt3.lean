/-! Writing: words, verses, voices, the whole. -/
theorem mono_len {f : Nat → List Int32} (h : ∀ i, (f i).length ≤ (f (i + 1)).length) {i m : Nat} (hm : i ≤ m) : (f i).length ≤ (f m).length := by
  have key : ∀ j i, (f i).length ≤ (f (i + j)).length := by
    intro j
    induction j with
    | zero => intro i; exact Nat.le_refl _
    | succ j ih => intro i; exact Nat.le_trans (ih i) (h (i + j))
  have := key (m - i) i
  rw [show i + (m - i) = m by omega] at this
  exact this
section
variable {S S0 S1 : PS} {A : Nat → Nat} {c0 : Nat} {l l0 lv : List Int32} {k : Nat × Nat} {u j : Nat}
variable {E V M nd st t n : Nat} {vo ti le pc : Nat → Nat} {cs : Nat → Nat → Nat} {td co : Nat → Bool} {wp wz : Nat → Nat → Nat} {vb mt mu md : Nat → Nat} {od w : Nat → Int32}
theorem sbL_len {w : Nat → Int32} {p : Nat} : ∀ k, (sbL w p k).length = k := by
  intro k
  induction k with
  | zero => rfl
  | succ k ih => rw [sbL, List.length_append, ih]; rfl
theorem Pc.dcl {l2 : List Int32} {S2 : PS} (hc0 : Dcl S0 A E V M nd st t n vo ti le pc cs td co wp wz vb mt mu md od w) (pa : PrA S0 A) (p : Pc S0 S2 A c0 l2) : Dcl S2 A E V M nd st t n vo ti le pc cs td co wp wz vb mt mu md od w := by obtain ⟨P, kw, _⟩ := p; exact hc0.kw pa kw
theorem q_syl {Q : PS → Prop} {e : Nat} (pa : PrA S0 A) (hc0 : Dcl S0 A E V M nd st t n vo ti le pc cs td co wp wz vb mt mu md od w) (hd : Dok E V M nd st t n vo ti le pc cs td co wp wz vb mt mu md od w) (he : e < E) (hj : j < 3) (pr : Pc S0 S A c0 l) (hL : (l ++ syL w wp wz e j).length ≤ 40000) (hk : Bu c0 l (l ++ syL w wp wz e j) k) (hQ : ∀ S1, Pc S0 S1 A c0 (l ++ syL w wp wz e j) → Q S1) : wp_X5_putSyllable (A 4) (A 7) (nI e) (nI (j + 1)) k S Q := by
  have hE := hd.1.1
  have hc := pr.dcl hc0 pa
  have wb := ((hd.2.1 e he).2.2.2 j hj).1.1
  unfold wp_X5_putSyllable
  refine s_sylOf hc.1 hc.2.1.1 hE he (by omega) (by omega) ?_
  rw [show j + 1 - 1 = j by omega]
  refine c_slen hc hd he hj ?_
  intro K hK
  unfold syL at hL hk hQ
  by_cases z : wz e j = 0
  · rw [if_pos z] at hL hk hQ
    rw [z, if_pos (by decide)]
    refine ⟨_, hk.fst (by rw [List.length_append]; omega) (Nat.le_refl _), q_put pa pr hL Bu.rf (fun S1 _ pr1 => ?_)⟩
    apply hK
    intro P hP
    apply hP
    rw [z, if_pos (by decide)]
    exact hQ S1 pr1
  · rw [if_neg z] at hL hk hQ
    rw [if_neg (nI_ne0 (by omega) (by omega))]
    apply hK
    intro P hP
    have key : ∀ i q k S2, q + i = wz e j → Pc S0 S2 A c0 (l ++ sbL w (wp e j) q) → Bu c0 (l ++ sbL w (wp e j) q) (l ++ sbL w (wp e j) (wz e j)) k → P (nI q) k S2 := by
      intro i
      induction i with
      | zero =>
        intro q k S2 hq pr2 hk2
        apply hP
        rw [if_pos (nI_le (by omega) (by omega))]
        rw [show q = wz e j by omega] at pr2
        exact hQ S2 pr2
      | succ i ih =>
        intro q k S2 hq pr2 hk2
        apply hP
        rw [if_neg (nI_ge (by omega) (by omega))]
        have ea : l ++ sbL w (wp e j) q ++ [w (wp e j + q)] = l ++ sbL w (wp e j) (q + 1) := by rw [List.append_assoc]; rfl
        have w1 : (l ++ sbL w (wp e j) q).length ≤ (l ++ sbL w (wp e j) q ++ [w (wp e j + q)]).length := by rw [List.length_append (bs := [w (wp e j + q)])]; omega
        have w2 : (l ++ sbL w (wp e j) q ++ [w (wp e j + q)]).length ≤ (l ++ sbL w (wp e j) (wz e j)).length := by rw [ea, List.length_append, List.length_append, sbL_len, sbL_len]; omega
        refine c_sby (pr2.dcl hc0 pa) hd he hj (by omega) ?_
        refine ⟨_, hk2.fst w1 w2, q_put pa pr2 (by omega) Bu.rf (fun S3 _ pr3 => ?_)⟩
        have hk3 := hk2.snd w1 w2
        rintro _ rfl
        rw [nI_1]
        rw [ea] at pr3
        replace hk3 := hk3.ca ea
        exact ih (q + 1) _ S3 (by omega) pr3 hk3
    exact key (wz e j) 0 k S (by omega) (by rw [sbL, List.append_nil]; exact pr) (by rw [sbL, List.append_nil]; exact hk)
theorem c_sing {Q : Int32 → PS → Prop} {e : Nat} (hc : Dcl S A E V M nd st t n vo ti le pc cs td co wp wz vb mt mu md od w) (hd : Dok E V M nd st t n vo ti le pc cs td co wp wz vb mt mu md od w) (he : e < E) (hu : u < V) (h1 : vo e = u ∧ 0 < pc e ∧ co e = false → Q 1 S) (h0 : ¬ (vo e = u ∧ 0 < pc e ∧ co e = false) → Q 0 S) : wp_X8_maySing (A 7) (nI e) (nI u) S Q := by
  have hE := hd.1
  obtain ⟨p6, pb⟩ := (hd.2.1 e he).2.1
  have vb := (hd.2.1 e he).1.1
  have dc := hc.2.2.1 e he
  have ph : Pch (pc e) (cs e) (aL S 31 (A 31) e) := ⟨p6, pb, dc.2.2.2.1⟩
  have t1 : aI S 28 (A 28) e = nI u ↔ vo e = u := by rw [dc.1, nI_eq (by omega) (by omega)]
  have t2 : aL S 31 (A 31) e ≠ 0 ↔ 0 < pc e := by rw [Ne, ph.z]; omega
  have t3 : aI S 33 (A 33) e = 0 ↔ co e = false := by rw [dc.2.2.2.2.2.1, bI_z]
  refine s_maySing hc.1 hc.2.1.1 hE.1 he (fun a b c => h1 ⟨t1.mp a, t2.mp b, t3.mp c⟩) (fun z => h0 (fun y => z ⟨t1.mpr y.1, t2.mpr y.2.1, t3.mpr y.2.2⟩))
theorem lsu_le : ∀ i, lsu vo wz u j i ≤ i := by
  intro i
  induction i with
  | zero => exact Nat.le_refl _
  | succ i ih => rw [lsu]; split <;> omega
theorem c_last {Q : Int32 → PS → Prop} (hc : Dcl S A E V M nd st t n vo ti le pc cs td co wp wz vb mt mu md od w) (hd : Dok E V M nd st t n vo ti le pc cs td co wp wz vb mt mu md od w) (hu : u < V) (hj : j < 3) (h0 : lsu vo wz u j E = 0 → Q (-1) S) (h1 : ∀ m, lsu vo wz u j E = m + 1 → Q (nI m) S) : wp_X8_lastSung (A 7) (nI u) (nI (j + 1)) S Q := by
  have hE := hd.1.1
  unfold wp_X8_lastSung
  rintro _ rfl
  intro P hP
  have key : ∀ i, i ≤ E → lsu vo wz u j i = lsu vo wz u j E → P (nI i - 1) S := by
    intro i
    induction i with
    | zero =>
      intro _ h
      apply hP
      rw [if_pos (by decide)]
      exact h0 h.symm
    | succ i ih =>
      intro hi h
      rw [nI_pred]
      apply hP
      rw [if_neg (nI_pos (by omega))]
      have ws := (hd.2.1 i (by omega)).2.2.2 j hj
      have go : ∀ K : PS → Prop, (∀ S7 : PS, (∀ v9, v9 = nI i + (-1) → P v9 S7) → K S7) → ¬ (vo i = u ∧ 0 < wz i j) → K S := by
        intro K hK z
        apply hK
        rintro _ rfl
        rw [lsu, if_neg z] at h
        have := ih (by omega) h
        have e : nI i + (-1) = nI i - 1 := by rw [Int32.sub_eq_add_neg]
        rw [e]; exact this
      refine c_sing hc hd (by omega) hu (fun z => ?_) (fun z => ?_)
      · intro K hK
        rw [if_neg (by decide)]
        refine s_sylOf hc.1 hc.2.1.1 hE (by omega) (by omega) (by omega) ?_
        rw [show j + 1 - 1 = j by omega]
        refine c_slen hc hd (by omega) hj ?_
        by_cases y : 0 < wz i j
        · rw [if_neg (nI_nle y (by omega))]
          rw [lsu, if_pos ⟨z.1, y⟩] at h
          exact h1 i h.symm
        · rw [if_pos (by rw [show wz i j = 0 by omega]; decide)]
          exact go K hK (fun q => y q.2)
      · intro K hK
        rw [if_pos rfl]
        exact go K hK (fun q => z ⟨q.1, (ws.2.2 q.2).1, (ws.2.2 q.2).2⟩)
  rw [hc.2.1.1]
  exact key E (Nat.le_refl _) rfl
theorem wdL_mono (i : Nat) : (wdL vo pc co wp wz w u j i).length ≤ (wdL vo pc co wp wz w u j (i + 1)).length := by
  rw [wdL]
  split
  · simp only [List.length_append]; omega
  · exact Nat.le_refl _
theorem q_verse {Q : PS → Prop} {m : Nat} (pa : PrA S0 A) (hc0 : Dcl S0 A E V M nd st t n vo ti le pc cs td co wp wz vb mt mu md od w) (hd : Dok E V M nd st t n vo ti le pc cs td co wp wz vb mt mu md od w) (hu : u < V) (hj : j < 3) (hm : m < E) (pr : Pc S0 S A c0 l) (hL : (l ++ vsL vo pc co wp wz w u j (m + 1)).length ≤ 40000) (hk : Bu c0 l (l ++ vsL vo pc co wp wz w u j (m + 1)) k) (hQ : ∀ S1, Pc S0 S1 A c0 (l ++ vsL vo pc co wp wz w u j (m + 1)) → Q S1) : wp_X5_putVerse (A 4) (A 7) (nI u) (nI (j + 1)) (nI m) k S Q := by
  have hE := hd.1.1
  have eT : l ++ vsL vo pc co wp wz w u j (m + 1) = l ++ [87, 32] ++ [nI (48 + (j + 1))] ++ [32, 34] ++ wdL vo pc co wp wz w u j (m + 1) ++ [34] := by unfold vsL; simp only [List.append_assoc, List.cons_append, List.nil_append]
  rw [eT] at hL hk hQ
  generalize hlT : l ++ [87, 32] ++ [nI (48 + (j + 1))] ++ [32, 34] ++ wdL vo pc co wp wz w u j (m + 1) ++ [34] = T at *
  have t1 : txt 3 = [87, 32] := rfl
  have t2 : txt 4 = [32, 34] := rfl
  have eL : T.length = l.length + 5 + (wdL vo pc co wp wz w u j (m + 1)).length + 1 := by rw [← hlT]; simp only [List.length_append, List.length_cons, List.length_nil]
  have n1 : (l ++ [87, 32]).length = l.length + 2 := by simp only [List.length_append, List.length_cons, List.length_nil]
  have n2 : (l ++ [87, 32] ++ [nI (48 + (j + 1))]).length = l.length + 3 := by simp only [List.length_append, List.length_cons, List.length_nil]
  have n3 : (l ++ [87, 32] ++ [nI (48 + (j + 1))] ++ [32, 34]).length = l.length + 5 := by simp only [List.length_append, List.length_cons, List.length_nil]
  unfold wp_X5_putVerse
  refine ⟨_, hk.fst (l1 := l ++ [87, 32]) (by omega) (by omega), q_text pa pr (by omega) (by omega) (by rw [t1]; omega) (by rw [t1]; exact Bu.rf) (fun S1 pr1 => ?_)⟩
  have hk1 := hk.snd (l1 := l ++ [87, 32]) (by omega) (by omega)
  rw [t1] at pr1
  refine ⟨_, hk1.fst (l1 := l ++ [87, 32] ++ [nI (48 + (j + 1))]) (by omega) (by omega), ?_⟩
  rw [show (48 : Int32) = nI 48 from rfl, nI_add]
  refine q_put pa pr1 (by omega) Bu.rf (fun S2 _ pr2 => ?_)
  have hk2 := hk1.snd (l1 := l ++ [87, 32] ++ [nI (48 + (j + 1))]) (by omega) (by omega)
  refine ⟨_, hk2.fst (l1 := l ++ [87, 32] ++ [nI (48 + (j + 1))] ++ [32, 34]) (by omega) (by omega), q_text pa pr2 (by omega) (by omega) (by rw [t2]; omega) (by rw [t2]; exact Bu.rf) (fun S3 pr3 => ?_)⟩
  have hk3 := hk2.snd (l1 := l ++ [87, 32] ++ [nI (48 + (j + 1))] ++ [32, 34]) (by omega) (by omega)
  rw [t2] at pr3
  generalize hl5 : l ++ [87, 32] ++ [nI (48 + (j + 1))] ++ [32, 34] = l5 at *
  clear hk hk1 hk2 pr1 pr2 pr t1 t2
  rintro _ rfl
  have e41 : fI S3 41 (A 4) = nI l5.length := by obtain ⟨P, _, _, h2, _⟩ := pr3; exact h2.1
  rw [e41]
  intro P hP
  have key : ∀ i q k S4, q + i = m + 1 → Pc S0 S4 A c0 (l5 ++ wdL vo pc co wp wz w u j q) → Bu c0 (l5 ++ wdL vo pc co wp wz w u j q) T k → P (nI q) k S4 := by
    intro i
    induction i with
    | zero =>
      intro q k S4 hq pr4 hk4
      apply hP
      rw [if_pos (nI_lt (by omega) (by omega))]
      rw [show q = m + 1 by omega] at pr4 hk4
      refine ⟨_, hk4.fst (by rw [← hlT, List.length_append (bs := [34])]; omega) (Nat.le_refl _), q_put pa pr4 (by rw [hlT]; exact hL) (by rw [hlT]; exact Bu.rf) (fun S5 _ pr5 => ?_)⟩
      rw [hlT] at pr5
      exact hQ S5 pr5
    | succ i ih =>
      intro q k S4 hq pr4 hk4
      apply hP
      rw [if_neg (nI_nlt (by omega) (by omega))]
      have wm := mono_len (f := wdL vo pc co wp wz w u j) (wdL_mono (vo := vo) (pc := pc) (co := co) (wp := wp) (wz := wz) (w := w) (u := u) (j := j)) (i := q + 1) (m := m + 1) (by omega)
      refine c_sing (pr4.dcl hc0 pa) hd (by omega) hu (fun z => ?_) (fun z => ?_)
      · intro K hK
        rw [if_neg (by decide)]
        have ew : wdL vo pc co wp wz w u j (q + 1) = wdL vo pc co wp wz w u j q ++ gpL (wdL vo pc co wp wz w u j q) ++ syL w wp wz q j := by rw [wdL, if_pos z]
        have lw : (wdL vo pc co wp wz w u j (q + 1)).length = (wdL vo pc co wp wz w u j q).length + (gpL (wdL vo pc co wp wz w u j q)).length + (syL w wp wz q j).length := by rw [ew, List.length_append, List.length_append]
        have m1 : (l5 ++ wdL vo pc co wp wz w u j q ++ gpL (wdL vo pc co wp wz w u j q)).length = l5.length + (wdL vo pc co wp wz w u j q).length + (gpL (wdL vo pc co wp wz w u j q)).length := by rw [List.length_append, List.length_append]
        have m0 : (l5 ++ wdL vo pc co wp wz w u j q).length = l5.length + (wdL vo pc co wp wz w u j q).length := List.length_append
        have m2 : (l5 ++ wdL vo pc co wp wz w u j q ++ gpL (wdL vo pc co wp wz w u j q) ++ syL w wp wz q j).length = l5.length + (wdL vo pc co wp wz w u j (q + 1)).length := by rw [List.length_append, m1, lw]; omega
        refine ⟨_, hk4.fst (l1 := l5 ++ wdL vo pc co wp wz w u j q ++ gpL (wdL vo pc co wp wz w u j q)) (by omega) (by omega), q_gap pa pr4 (by omega) Bu.rf (fun S5 pr5 => ?_)⟩
        have hk5 := hk4.snd (l1 := l5 ++ wdL vo pc co wp wz w u j q ++ gpL (wdL vo pc co wp wz w u j q)) (by omega) (by omega)
        refine ⟨_, hk5.fst (l1 := l5 ++ wdL vo pc co wp wz w u j q ++ gpL (wdL vo pc co wp wz w u j q) ++ syL w wp wz q j) (by omega) (by omega), q_syl pa hc0 hd (by omega) hj pr5 (by omega) Bu.rf (fun S6 pr6 => ?_)⟩
        have hk6 := hk5.snd (l1 := l5 ++ wdL vo pc co wp wz w u j q ++ gpL (wdL vo pc co wp wz w u j q) ++ syL w wp wz q j) (by omega) (by omega)
        apply hK
        rintro _ rfl
        rw [nI_1]
        have ea : l5 ++ wdL vo pc co wp wz w u j q ++ gpL (wdL vo pc co wp wz w u j q) ++ syL w wp wz q j = l5 ++ wdL vo pc co wp wz w u j (q + 1) := by rw [ew]; simp only [List.append_assoc]
        rw [ea] at pr6
        replace hk6 := hk6.ca ea
        exact ih (q + 1) _ S6 (by omega) pr6 hk6
      · intro K hK
        rw [if_pos rfl]
        apply hK
        rintro _ rfl
        rw [nI_1]
        have ew : wdL vo pc co wp wz w u j (q + 1) = wdL vo pc co wp wz w u j q := by rw [wdL, if_neg z]
        exact ih (q + 1) k S4 (by omega) (by rw [ew]; exact pr4) (by rw [ew]; exact hk4)
  exact key (m + 1) 0 _ S3 (by omega) (by rw [wdL, List.append_nil]; exact pr3) (by rw [wdL, List.append_nil]; exact hk3)
theorem vEv_mono (i : Nat) : (vEv vo le pc cs td vb u i).length ≤ (vEv vo le pc cs td vb u (i + 1)).length := by
  rw [vEv]
  split
  · simp only [List.length_append]; omega
  · exact Nat.le_refl _
theorem vVr_mono (i : Nat) : (vVr E V vo le pc cs td co wp wz vb w u i).length ≤ (vVr E V vo le pc cs td co wp wz vb w u (i + 1)).length := by
  rw [vVr]
  split
  · exact Nat.le_refl _
  · simp only [List.length_append]; omega
theorem c_vbeg {Q : Int64 → PS → Prop} (hc : Dcl S A E V M nd st t n vo ti le pc cs td co wp wz vb mt mu md od w) (hd : Dok E V M nd st t n vo ti le pc cs td co wp wz vb mt mu md od w) (hu : u < V) (hQ : Q (lN (vb u)) S) : wp_X8_beginOfVoice (A 7) (nI u) S Q := by
  have hV := hd.1
  unfold wp_X8_beginOfVoice
  refine s_hasVoice hc.2.1.2.1 hu (by omega) ?_
  rw [if_neg (by decide)]
  refine ⟨_, hc.1.f80, by rw [hc.1.n36]; exact vp_in_nI (by omega) (by omega), ?_⟩
  rw [nI_clamp (by omega), hc.2.2.2.1 u hu]; exact hQ
set_option maxHeartbeats 4000000 in
theorem q_voice {Q : PS → Prop} (pa : PrA S0 A) (hc0 : Dcl S0 A E V M nd st t n vo ti le pc cs td co wp wz vb mt mu md od w) (hd : Dok E V M nd st t n vo ti le pc cs td co wp wz vb mt mu md od w) (hu : u < V) (pr : Pc S0 S A c0 l) (hL : (l ++ vVr E V vo le pc cs td co wp wz vb w u 3).length ≤ 40000) (hk : Bu c0 l (l ++ vVr E V vo le pc cs td co wp wz vb w u 3) k) (hQ : ∀ S1, Pc S0 S1 A c0 (l ++ vVr E V vo le pc cs td co wp wz vb w u 3) → Q S1) : wp_X5_putVoice (A 4) (A 7) (nI u) k S Q := by
  have hE := hd.1
  have hvb := hd.2.2.1 u hu
  have e41 : fI S 41 (A 4) = nI l.length := by obtain ⟨P, _, _, h2, _⟩ := pr; exact h2.1
  generalize hlT : l ++ vVr E V vo le pc cs td co wp wz vb w u 3 = T at *
  have eL : T.length = l.length + (vVr E V vo le pc cs td co wp wz vb w u 3).length := by rw [← hlT, List.length_append]
  have mV : ∀ i, i ≤ 3 → (vVr E V vo le pc cs td co wp wz vb w u i).length ≤ (vVr E V vo le pc cs td co wp wz vb w u 3).length := fun i hi => mono_len (f := vVr E V vo le pc cs td co wp wz vb w u) vVr_mono hi
  have mE : ∀ i, i ≤ E → (vEv vo le pc cs td vb u i).length ≤ (vVr E V vo le pc cs td co wp wz vb w u 3).length := fun i hi => Nat.le_trans (mono_len (f := vEv vo le pc cs td vb u) vEv_mono hi) (mV 0 (by omega))
  have m0 : (vbL (vb u)).length ≤ (vVr E V vo le pc cs td co wp wz vb w u 3).length := mE 0 (by omega)
  unfold wp_X5_putVoice
  rintro _ rfl
  rw [e41]
  refine c_vbeg (pr.dcl hc0 pa) hd hu ?_
  intro K hK
  have rest : ∀ k S2, Pc S0 S2 A c0 (l ++ vbL (vb u)) → Bu c0 (l ++ vbL (vb u)) T k → K k S2 := by
    intro k2 S2 pr2 hk2
    apply hK
    intro P hP
    have verses : ∀ k S3, Pc S0 S3 A c0 (l ++ vVr E V vo le pc cs td co wp wz vb w u 0) → Bu c0 (l ++ vVr E V vo le pc cs td co wp wz vb w u 0) T k → ∀ R : Int32 → Nat × Nat → PS → Prop, (∀ (x4_12 : Int32) (k14 : Nat × Nat) (S13 : PS),
 (if 3 < x4_12 then
 Q S13
 else
 wp_X8_lastSung (A 7) (nI u) x4_12 S13 (fun (r16 : Int32) (S15 : PS) => 
 (∀ K110_18 : Nat × Nat → PS → Prop, (∀ (k19 : Nat × Nat) (S17 : PS),
 (∀ v20, v20 = x4_12 + 1 → R v20 k19 S17)
 → K110_18 k19 S17) →
 (if r16 = (-1) then
 K110_18 k14 S15
 else
 (∃ k22 : Nat × Nat, (k22.1 ≤ k14.1 ∧ k22.2 ≤ k14.2) ∧ wp_X5_putGap (A 4) (nI l.length) k22 S15 (fun (S21 : PS) => 
 (∃ k24 : Nat × Nat, (k24.1 ≤ (k14.1 - k22.1, k14.2 - k22.2).1 ∧ k24.2 ≤ (k14.1 - k22.1, k14.2 - k22.2).2) ∧ wp_X5_putVerse (A 4) (A 7) (nI u) x4_12 r16 k24 S21 (fun (S23 : PS) => 
 K110_18 ((k14.1 - k22.1, k14.2 - k22.2).1 - k24.1, (k14.1 - k22.1, k14.2 - k22.2).2 - k24.2) S23))))))))
 → R x4_12 k14 S13) → R (nI 1) k S3 := by
      intro k S3 pr3 hk3 R hR
      have key : ∀ i j k S4, j + i = 3 → Pc S0 S4 A c0 (l ++ vVr E V vo le pc cs td co wp wz vb w u j) → Bu c0 (l ++ vVr E V vo le pc cs td co wp wz vb w u j) T k → R (nI (j + 1)) k S4 := by
        intro i
        induction i with
        | zero =>
          intro j k S4 hj pr4 hk4
          apply hR
          rw [show (3 : Int32) = nI 3 from rfl, if_pos (nI_lt (by omega) (by omega))]
          rw [show j = 3 by omega, hlT] at pr4
          exact hQ S4 pr4
        | succ i ih =>
          intro j k S4 hj pr4 hk4
          apply hR
          rw [show (3 : Int32) = nI 3 from rfl, if_neg (nI_nlt (by omega) (by omega))]
          refine c_last (pr4.dcl hc0 pa) hd hu (by omega) (fun z => ?_) (fun m hm => ?_)
          · intro K2 hK2
            rw [if_pos rfl]
            apply hK2
            rintro _ rfl
            rw [nI_1]
            have ev : vVr E V vo le pc cs td co wp wz vb w u (j + 1) = vVr E V vo le pc cs td co wp wz vb w u j := by rw [vVr, if_pos z]
            exact ih (j + 1) k S4 (by omega) (by rw [ev]; exact pr4) (by rw [ev]; exact hk4)
          · intro K2 hK2
            have hmE : m + 1 ≤ E := by have := lsu_le (vo := vo) (wz := wz) (u := u) (j := j) E; omega
            rw [if_neg (nI_ne_neg (by omega))]
            have ev : vVr E V vo le pc cs td co wp wz vb w u (j + 1) = vVr E V vo le pc cs td co wp wz vb w u j ++ gpL (vVr E V vo le pc cs td co wp wz vb w u j) ++ vsL vo pc co wp wz w u j (m + 1) := by rw [vVr, hm, if_neg (by omega)]
            have lv := mV (j + 1) (by omega)
            have g0 : (l ++ vVr E V vo le pc cs td co wp wz vb w u j).length = l.length + (vVr E V vo le pc cs td co wp wz vb w u j).length := List.length_append
            have g1 : (l ++ vVr E V vo le pc cs td co wp wz vb w u j ++ gpL (vVr E V vo le pc cs td co wp wz vb w u j)).length = l.length + (vVr E V vo le pc cs td co wp wz vb w u j).length + (gpL (vVr E V vo le pc cs td co wp wz vb w u j)).length := by rw [List.length_append, List.length_append]
            have g2 : (l ++ vVr E V vo le pc cs td co wp wz vb w u j ++ gpL (vVr E V vo le pc cs td co wp wz vb w u j) ++ vsL vo pc co wp wz w u j (m + 1)).length = l.length + (vVr E V vo le pc cs td co wp wz vb w u (j + 1)).length := by rw [ev]; simp only [List.length_append]; omega
            have g3 : (vVr E V vo le pc cs td co wp wz vb w u (j + 1)).length = (vVr E V vo le pc cs td co wp wz vb w u j).length + (gpL (vVr E V vo le pc cs td co wp wz vb w u j)).length + (vsL vo pc co wp wz w u j (m + 1)).length := by rw [ev, List.length_append, List.length_append]
            refine ⟨_, hk4.fst (l1 := l ++ vVr E V vo le pc cs td co wp wz vb w u j ++ gpL (vVr E V vo le pc cs td co wp wz vb w u j)) (by omega) (by omega), q_gap pa pr4 (by omega) Bu.rf (fun S5 pr5 => ?_)⟩
            have hk5 := hk4.snd (l1 := l ++ vVr E V vo le pc cs td co wp wz vb w u j ++ gpL (vVr E V vo le pc cs td co wp wz vb w u j)) (by omega) (by omega)
            refine ⟨_, hk5.fst (l1 := l ++ vVr E V vo le pc cs td co wp wz vb w u j ++ gpL (vVr E V vo le pc cs td co wp wz vb w u j) ++ vsL vo pc co wp wz w u j (m + 1)) (by omega) (by omega), q_verse pa hc0 hd hu (by omega) (by omega) pr5 (by omega) Bu.rf (fun S6 pr6 => ?_)⟩
            have hk6 := hk5.snd (l1 := l ++ vVr E V vo le pc cs td co wp wz vb w u j ++ gpL (vVr E V vo le pc cs td co wp wz vb w u j) ++ vsL vo pc co wp wz w u j (m + 1)) (by omega) (by omega)
            apply hK2
            rintro _ rfl
            rw [nI_1]
            have ea : l ++ vVr E V vo le pc cs td co wp wz vb w u j ++ gpL (vVr E V vo le pc cs td co wp wz vb w u j) ++ vsL vo pc co wp wz w u j (m + 1) = l ++ vVr E V vo le pc cs td co wp wz vb w u (j + 1) := by rw [ev]; simp only [List.append_assoc]
            rw [ea] at pr6
            replace hk6 := hk6.ca ea
            exact ih (j + 1) _ S6 (by omega) pr6 hk6
      exact key 3 0 k S3 (by omega) pr3 hk3
    have key : ∀ i q k S3, q + i = E → Pc S0 S3 A c0 (l ++ vEv vo le pc cs td vb u q) → Bu c0 (l ++ vEv vo le pc cs td vb u q) T k → P (nI q) k S3 := by
      intro i
      induction i with
      | zero =>
        intro q k S3 hq pr3 hk3
        have d3 := pr3.dcl hc0 pa
        apply hP
        rw [d3.2.1.1, if_pos (nI_le (by omega) (by omega))]
        rw [show q = E by omega] at pr3 hk3
        exact fun R hR => verses k S3 pr3 hk3 R hR
      | succ i ih =>
        intro q k S3 hq pr3 hk3
        have d3 := pr3.dcl hc0 pa
        have lv := mE (q + 1) (by omega)
        have vq := (hd.2.1 q (by omega)).1.1
        apply hP
        rw [d3.2.1.1, if_neg (nI_ge (by omega) (by omega))]
        refine ⟨_, d3.1.f71, by rw [d3.1.n28]; exact vp_in_nI (by omega) (by omega), ?_⟩
        intro K2 hK2
        rw [nI_clamp (by omega), (d3.2.2.1 q (by omega)).1]
        by_cases z : vo q = u
        · rw [if_pos (by rw [z])]
          have ev : vEv vo le pc cs td vb u (q + 1) = vEv vo le pc cs td vb u q ++ gpL (vEv vo le pc cs td vb u q) ++ evL le pc cs td q := by rw [vEv, if_pos z]
          have g0 : (l ++ vEv vo le pc cs td vb u q).length = l.length + (vEv vo le pc cs td vb u q).length := List.length_append
          have g1 : (l ++ vEv vo le pc cs td vb u q ++ gpL (vEv vo le pc cs td vb u q)).length = l.length + (vEv vo le pc cs td vb u q).length + (gpL (vEv vo le pc cs td vb u q)).length := by rw [List.length_append, List.length_append]
          have g3 : (vEv vo le pc cs td vb u (q + 1)).length = (vEv vo le pc cs td vb u q).length + (gpL (vEv vo le pc cs td vb u q)).length + (evL le pc cs td q).length := by rw [ev, List.length_append, List.length_append]
          have g2 : (l ++ vEv vo le pc cs td vb u q ++ gpL (vEv vo le pc cs td vb u q) ++ evL le pc cs td q).length = l.length + (vEv vo le pc cs td vb u (q + 1)).length := by rw [List.length_append, g1, g3]; omega
          refine ⟨_, hk3.fst (l1 := l ++ vEv vo le pc cs td vb u q ++ gpL (vEv vo le pc cs td vb u q)) (by omega) (by omega), q_gap pa pr3 (by omega) Bu.rf (fun S5 pr5 => ?_)⟩
          have hk5 := hk3.snd (l1 := l ++ vEv vo le pc cs td vb u q ++ gpL (vEv vo le pc cs td vb u q)) (by omega) (by omega)
          refine ⟨_, hk5.fst (l1 := l ++ vEv vo le pc cs td vb u q ++ gpL (vEv vo le pc cs td vb u q) ++ evL le pc cs td q) (by omega) (by omega), q_sound pa hc0 hd (by omega) pr5 (by omega) Bu.rf (fun S6 pr6 => ?_)⟩
          have hk6 := hk5.snd (l1 := l ++ vEv vo le pc cs td vb u q ++ gpL (vEv vo le pc cs td vb u q) ++ evL le pc cs td q) (by omega) (by omega)
          apply hK2
          rintro _ rfl
          rw [nI_1]
          have ea : l ++ vEv vo le pc cs td vb u q ++ gpL (vEv vo le pc cs td vb u q) ++ evL le pc cs td q = l ++ vEv vo le pc cs td vb u (q + 1) := by rw [ev]; simp only [List.append_assoc]
          rw [ea] at pr6
          replace hk6 := hk6.ca ea
          exact ih (q + 1) _ S6 (by omega) pr6 hk6
        · rw [if_neg (by rw [nI_eq (by omega) (by omega)]; exact z)]
          apply hK2
          rintro _ rfl
          rw [nI_1]
          have ev : vEv vo le pc cs td vb u (q + 1) = vEv vo le pc cs td vb u q := by rw [vEv, if_neg z]
          exact ih (q + 1) k S3 (by omega) (by rw [ev]; exact pr3) (by rw [ev]; exact hk3)
    exact key E 0 k2 S2 (by omega) pr2 hk2
  unfold vbL at rest m0
  by_cases z : vb u = 0
  · rw [if_pos z, List.append_nil] at rest
    rw [z, if_pos (by decide)]
    exact rest k S pr hk
  · rw [if_neg z] at rest m0
    rw [show (0 : Int64) = lN 0 from rfl, if_neg (fun y => by rw [lN_leq (by omega) (by omega)] at y; omega)]
    have nl := numL_len (v := vb u) (by omega)
    have e1 : l ++ [114] ++ (58 :: numL (vb u)) = l ++ 114 :: 58 :: numL (vb u) := by simp only [List.append_assoc, List.cons_append, List.nil_append]
    have e2 : (l ++ 114 :: 58 :: numL (vb u)).length = l.length + (114 :: 58 :: numL (vb u)).length := List.length_append
    have e3 : (l ++ [114]).length = l.length + 1 := List.length_append
    have e4 : (114 :: 58 :: numL (vb u)).length = (numL (vb u)).length + 2 := rfl
    refine ⟨_, hk.fst (l1 := l ++ [114]) (by omega) (by omega), q_put pa pr (by omega) Bu.rf (fun S1 _ pr1 => ?_)⟩
    have hk1 := hk.snd (l1 := l ++ [114]) (by omega) (by omega)
    refine c_vbeg (pr1.dcl hc0 pa) hd hu ?_
    refine ⟨_, hk1.fst (l1 := l ++ [114] ++ (58 :: numL (vb u))) (by rw [e1]; omega) (by rw [e1]; omega), q_ticks pa pr1 (by omega) (by rw [e1]; omega) Bu.rf (fun S2 pr2 => ?_)⟩
    have hk2 := hk1.snd (l1 := l ++ [114] ++ (58 :: numL (vb u))) (by rw [e1]; omega) (by rw [e1]; omega)
    rw [e1] at pr2
    replace hk2 := hk2.ca e1
    exact rest _ S2 pr2 hk2
/-! the whole -/
theorem toL_mono (i : Nat) : (toL E V vo le pc cs td co wp wz vb w i).length ≤ (toL E V vo le pc cs td co wp wz vb w (i + 1)).length := by
  rw [toL]; simp only [List.length_append]; omega
set_option maxHeartbeats 4000000 in
theorem q_print {Q : Int32 → PS → Prop} {P : Nat} {lo : List Int32} (pa : PrA S0 A) (hc0 : Dcl S0 A E V M nd st t n vo ti le pc cs td co wp wz vb mt mu md od w) (hd : Dok E V M nd st t n vo ti le pc cs td co wp wz vb mt mu md od w) (pr0 : PrS S0 S A P c0 lo) (hL : (alL E V vo le pc cs td co wp wz vb w).length ≤ 40000) (hk : Bu c0 [] (alL E V vo le pc cs td co wp wz vb w) k) (hQ : ∀ S1, Pc S0 S1 A c0 (alL E V vo le pc cs td co wp wz vb w) → Q (nI (alL E V vo le pc cs td co wp wz vb w).length) S1) : wp_X5_print (A 4) (A 7) k S Q := by
  have hV := hd.1
  have pr : Pc S0 (sI S 41 (A 4) 0) A c0 [] := by
    obtain ⟨kw, h1, h2, h3, h4, h5, h6⟩ := pr0
    refine ⟨P, kw.sI (Or.inl (Or.inl rfl)), ?_, ⟨by rw [fI_s]; rfl, Nat.zero_le _, ?_⟩, fun i hi => absurd hi (Nat.not_lt_zero _), h4, h5, h6⟩
    · rw [show mxl c0 [].length = c0 from mxl_self (Nat.zero_le _)]; exact h1
    · rw [show mxl c0 [].length = c0 from mxl_self (Nat.zero_le _)]; exact h2.2.2
  have mT : ∀ i, i ≤ V → (toL E V vo le pc cs td co wp wz vb w i).length ≤ (toL E V vo le pc cs td co wp wz vb w V).length := fun i hi => mono_len (f := toL E V vo le pc cs td co wp wz vb w) toL_mono hi
  have eA : (alL E V vo le pc cs td co wp wz vb w).length = (toL E V vo le pc cs td co wp wz vb w V).length + (if 1 < V then 2 else 0) := by unfold alL; rw [List.length_append]; split <;> rfl
  have sq : ∀ i, (toL E V vo le pc cs td co wp wz vb w (i + 1)).length = (toL E V vo le pc cs td co wp wz vb w i).length + (spL V i).length + (vVr E V vo le pc cs td co wp wz vb w i 3).length := fun i => by rw [toL]; simp only [List.length_append]; omega
  generalize hT : alL E V vo le pc cs td co wp wz vb w = T at *
  unfold wp_X5_print
  rintro _ rfl
  generalize sI S 41 (A 4) 0 = S1 at *
  have d1 := pr.dcl hc0 pa
  intro K hK
  have main : ∀ t2, (t2 = 0 ∧ ¬ 1 < V ∨ t2 = 1 ∧ 1 < V) → K t2 k S1 := by
    intro t2 ht2
    apply hK
    intro K2 hK2
    have go : ∀ k S2, Pc S0 S2 A c0 (spL V 0) → Bu c0 (spL V 0) T k → K2 k S2 := by
      intro k2 S2 pr2 hk2
      apply hK2
      intro P hP
      have key : ∀ i u k S3, u + i = V → Pc S0 S3 A c0 (if u = 0 then spL V 0 else toL E V vo le pc cs td co wp wz vb w u) → Bu c0 (if u = 0 then spL V 0 else toL E V vo le pc cs td co wp wz vb w u) T k → P (nI u) k S3 := by
        intro i
        induction i with
        | zero =>
          intro u k S3 hu pr3 hk3
          have eu : u = V := by omega
          subst eu
          rw [if_neg (by omega)] at pr3 hk3
          have d3 := pr3.dcl hc0 pa
          apply hP
          rw [d3.2.1.2.1, if_pos (nI_le (by omega) (by omega))]
          intro K3 hK3
          have ans : ∀ k S4, Pc S0 S4 A c0 T → K3 k S4 := by
            intro k S4 pr4
            apply hK3
            have e41 : fI S4 41 (A 4) = nI T.length := by obtain ⟨P, _, _, h2, _⟩ := pr4; exact h2.1
            rw [e41]
            exact hQ S4 pr4
          rcases ht2 with ⟨z1, z2⟩ | ⟨z1, z2⟩
          · rw [z1, if_pos rfl]
            unfold alL at hT
            rw [if_neg z2, List.append_nil] at hT
            rw [hT] at pr3
            exact ans k S3 pr3
          · rw [z1, if_neg (by decide)]
            unfold alL at hT
            rw [if_pos z2] at hT
            have t5 : txt 5 = [32, 93] := rfl
            refine ⟨_, hk3.fst (l1 := T) (by rw [eA]; omega) (Nat.le_refl _), q_text pa pr3 (by omega) (by omega) (by rw [t5, hT]; exact hL) (by rw [t5, hT]; exact Bu.rf) (fun S4 pr4 => ?_)⟩
            rw [t5, hT] at pr4
            exact ans _ S4 pr4
        | succ i ih =>
          intro u k S3 hu pr3 hk3
          have d3 := pr3.dcl hc0 pa
          have mu1 := mT (u + 1) (by omega)
          have su := sq u
          apply hP
          rw [d3.2.1.2.1, if_neg (nI_ge (by omega) (by omega))]
          intro K3 hK3
          have voi : ∀ k S4 l4, Pc S0 S4 A c0 l4 → l4 ++ vVr E V vo le pc cs td co wp wz vb w u 3 = toL E V vo le pc cs td co wp wz vb w (u + 1) → Bu c0 l4 T k → K3 k S4 := by
            intro k S4 l4 pr4 e4 hk4
            apply hK3
            have g1 : l4.length ≤ (l4 ++ vVr E V vo le pc cs td co wp wz vb w u 3).length := by rw [List.length_append]; omega
            have g2 : (l4 ++ vVr E V vo le pc cs td co wp wz vb w u 3).length ≤ T.length := by rw [e4]; omega
            refine ⟨_, hk4.fst g1 g2, q_voice pa hc0 hd (by omega) pr4 (by omega) Bu.rf (fun S5 pr5 => ?_)⟩
            have hk5 := hk4.snd g1 g2
            rintro _ rfl
            rw [nI_1]
            rw [e4] at pr5
            replace hk5 := hk5.ca e4
            exact ih (u + 1) _ S5 (by omega) (by rw [if_neg (by omega)]; exact pr5) (by rw [if_neg (by omega)]; exact hk5)
          by_cases z : u = 0
          · subst z
            rw [if_pos rfl] at pr3 hk3
            rw [if_pos (by decide)]
            exact voi k S3 _ pr3 rfl hk3
          · rw [if_neg z] at pr3 hk3
            rw [if_neg (nI_nle (by omega) (by omega))]
            have es : spL V u = [32, 47, 32] := if_neg z
            have t2' : txt 2 = [32, 47, 32] := rfl
            have g1 : (toL E V vo le pc cs td co wp wz vb w u ++ [32, 47, 32]).length = (toL E V vo le pc cs td co wp wz vb w u).length + 3 := List.length_append
            have es2 : (spL V u).length = 3 := by rw [es]; rfl
            refine ⟨_, hk3.fst (l1 := toL E V vo le pc cs td co wp wz vb w u ++ [32, 47, 32]) (by omega) (by omega), q_text pa pr3 (by omega) (by omega) (by rw [t2']; omega) (by rw [t2']; exact Bu.rf) (fun S4 pr4 => ?_)⟩
            have hk4 := hk3.snd (l1 := toL E V vo le pc cs td co wp wz vb w u ++ [32, 47, 32]) (by omega) (by omega)
            rw [t2'] at pr4
            exact voi _ S4 _ pr4 (by rw [toL, es, List.append_assoc]) hk4
      exact key V 0 k2 S2 (by omega) (by rw [if_pos rfl]; exact pr2) (by rw [if_pos rfl]; exact hk2)
    rcases ht2 with ⟨z1, z2⟩ | ⟨z1, z2⟩
    · rw [z1, if_pos rfl]
      have es : spL V 0 = [] := by unfold spL; rw [if_pos rfl, if_neg z2]
      exact go k S1 (by rw [es]; exact pr) (by rw [es]; exact hk)
    · rw [z1, if_neg (by decide)]
      have es : spL V 0 = [91, 32] := by unfold spL; rw [if_pos rfl, if_pos z2]
      have t1 : txt 1 = [91, 32] := rfl
      have s0 : (toL E V vo le pc cs td co wp wz vb w 1).length = (toL E V vo le pc cs td co wp wz vb w 0).length + (spL V 0).length + (vVr E V vo le pc cs td co wp wz vb w 0 3).length := sq 0
      have m1 := mT 1 (by omega)
      have es2 : (spL V 0).length = 2 := by rw [es]; rfl
      have g1 : ([] ++ [91, 32] : List Int32).length ≤ T.length := by show 2 ≤ T.length; omega
      refine ⟨_, hk.fst (l1 := [] ++ [91, 32]) (Nat.zero_le _) g1, q_text pa pr (by omega) (by omega) (by rw [t1]; omega) (by rw [t1]; exact Bu.rf) (fun S2 pr2 => ?_)⟩
      have hk2 := hk.snd (l1 := [] ++ [91, 32]) (Nat.zero_le _) g1
      rw [t1] at pr2
      exact go _ S2 (by rw [es]; exact pr2) (by rw [es]; exact hk2)
  rw [d1.2.1.2.1]
  by_cases z : 1 < V
  · rw [show (1 : Int32) = nI 1 from rfl, if_neg (nI_ge z (by omega))]; exact main 1 (Or.inr ⟨rfl, z⟩)
  · rw [show (1 : Int32) = nI 1 from rfl, if_pos (nI_le (by omega) (by omega))]; exact main 0 (Or.inl ⟨rfl, z⟩)
end
