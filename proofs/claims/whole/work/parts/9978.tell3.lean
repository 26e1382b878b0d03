/-! The reference tells what the class has. -/
section
variable {S S0 Sr Sr1 R0 : PS} {A : Nat → Nat} {B : Nat → Int32} {n nd E V M st t sy : Nat} {s v : Nat → Nat}
def EvX (S Sr : PS) (A : Nat → Nat) (B : Nat → Int32) (n e : Nat) : Prop := (aI Sr 102 (A 102) e = aI S 28 (A 28) e ∧ aI Sr 104 (A 104) e = aI S 32 (A 32) e ∧ aI Sr 105 (A 105) e = aI S 33 (A 33) e ∧ aL Sr 106 (A 106) e = aL S 29 (A 29) e ∧ aL Sr 107 (A 107) e = aL S 30 (A 30) e) ∧
  (∃ c cs, Pch c cs (aL S 31 (A 31) e) ∧ aI Sr 103 (A 103) e = nI c ∧ ∀ k, k < c → aI Sr 108 (A 108) (6 * e + k) = nI (cs k / 5 % 7) ∧ aI Sr 109 (A 109) (6 * e + k) = iJ ((cs k : Int) % 5 - 2) ∧ aI Sr 110 (A 110) (6 * e + k) = nI (cs k / 35)) ∧
  ∀ j, j < 3 → (aI S 34 (A 34) (3 * e + j) = -1 ∧ aI Sr 111 (A 111) (3 * e + j) = 0 ∧ aI Sr 112 (A 112) (3 * e + j) = 0) ∨ ∃ y, Wdy B n y ∧ aI S 34 (A 34) (3 * e + j) = sco B y ∧ ((y.2 = 1 ∧ B y.1 = 95) ∧ aI Sr 111 (A 111) (3 * e + j) = 0 ∧ aI Sr 112 (A 112) (3 * e + j) = 0 ∨ ¬ (y.2 = 1 ∧ B y.1 = 95) ∧ aI Sr 111 (A 111) (3 * e + j) = nI y.1 ∧ aI Sr 112 (A 112) (3 * e + j) = nI y.2)
/-- a reading that both tell of -/
def Tol (S Sr : PS) (A : Nat → Nat) (B : Nat → Int32) (n nd E V M st t : Nat) : Prop := (fI Sr 206 (A 9) = nI E ∧ fI Sr 207 (A 9) = nI V ∧ fI Sr 208 (A 9) = nI nd ∧ fI Sr 209 (A 9) = nI st ∧ fI Sr 210 (A 9) = nI M ∧ fL Sr 211 (A 9) = lN t) ∧ (∀ e, e < E → EvX S Sr A B n e) ∧ (∀ u, u < V → aL Sr 114 (A 114) u = aL S 36 (A 36) u) ∧ (∀ k, k < M → aL Sr 115 (A 115) k = aL S 10 (A 10) k ∧ aI Sr 116 (A 116) k = aI S 11 (A 11) k ∧ aI Sr 117 (A 117) k = aI S 12 (A 12) k) ∧ ∀ p, p < E → aI Sr 113 (A 113) p = aI S 35 (A 35) p
def jTl (j : Nat) : Bool := decide (206 ≤ j ∧ j ≤ 211)
def rTl (r : Nat) : Bool := decide (101 ≤ r ∧ r ≤ 117)
theorem nar01 {x : Int32} (h : x = 0 ∨ x = 1) : vp_nar .boolean x = x := by
  rcases h with z | z
  · rw [z]; decide
  · rw [z]; decide
theorem r_tell {Q : PS → Prop} (rt : RT R0 A B n) (h95 : ∀ q, q < n → (aI R0 41 (A 41) q = 95 ↔ B q = 95)) (h125 : fI R0 125 (A 9) = nI nd) (hsy : sy ≤ 1500) (fn : RFin S Sr R0 A B n sy E V M st t) (so : Sco S A B n nd E V M st t s v)
    (hQ : ∀ Sr1, Keep jTl rTl Sr Sr1 → Tol S Sr1 A B n nd E V M st t → (∀ q, q < n → aI Sr1 101 (A 101) q = vp_nar .byte (aI Sr 41 (A 41) q)) → Q Sr1) : wp_X12_tell (A 9) Sr Q := by
  obtain ⟨f1, f102, ⟨⟨f146, f149, f153⟩, fe, fo, fm⟩, f154, f156⟩ := fn
  obtain ⟨⟨⟨VF, ⟨e1, e2, e3, e4, e5⟩, ee, eo⟩, s38, ⟨m1, m2, m3⟩, _⟩, ⟨g84, g85, g86, gst, gt, gnd⟩, ek, srt⟩ := so
  have lm := f1.lay rt.1
  have hn := rt.2.2.1.1
  have h100 : fI Sr 100 (A 9) = nI n := by rw [(f1.2.1 100 rfl).1]; exact rt.2.1
  have k125 : fI Sr 125 (A 9) = nI nd := by rw [(f1.2.1 125 rfl).1]; exact h125
  have hB : ∀ q, q < n → aI Sr 41 (A 41) q = aI R0 41 (A 41) q := fun q _ => by rw [(f1.2.2 41 rfl).1]
  refine r_txt lm h100 (by omega) (fun S1 k1 t1 => ?_)
  have hwd : ∀ e, e < E → ∀ j, j < 3 → WdR R0 A B n sy (aI S 34 (A 34) (3 * e + j)) (aI Sr 75 (A 75) (3 * e + j)) := fun e he j hj => (fe e he).2.2.2.2.2.2 j hj
  have hwk : ∀ q, q < 3 * E → Wok S1 A q := by
    intro q hq
    have z := hwd (q / 3) (by omega) (q % 3) (by omega)
    rw [show 3 * (q / 3) + q % 3 = q by omega] at z
    unfold Wok
    rw [(k1.2.2 75 rfl).1, (k1.2.2 53 rfl).1, (f1.2.2 53 rfl).1]
    rcases z with ⟨_, z⟩ | ⟨y, w, w1, w2, w3, w4, w5, w6⟩
    · exact Or.inl z
    · exact Or.inr ⟨w, y.1, by omega, w4, by have := w1.2.2.1; have := w1.1; omega, w5⟩
  refine r_evl (E := E) (lm.st k1.1) (by rw [(k1.2.1 146 rfl).1]; exact f146) e2 hwk (fun e he => ?_) (fun S2 k2 t2 => ?_)
  · obtain ⟨c, cs, c1, c2⟩ := (fe e he).2.1
    exact ⟨c, c1.1, by rw [(k1.2.2 66 rfl).1]; exact c2.1⟩
  have kk2 : Keep jTl rTl Sr S2 := (Keep.tr (k1.mono (fun _ _ => rfl) (fun r => by unfold r101 rTl; simp only [decide_eq_false_iff_not]; omega)) (k2.mono (fun _ _ => rfl) (fun r => by unfold rEv rTl; simp only [decide_eq_false_iff_not]; omega)))
  have f2 : ∀ j, fI S2 j = fI Sr j ∧ fL S2 j = fL Sr j := fun j => ⟨(k2.2.1 j rfl).1.trans (k1.2.1 j rfl).1, (k2.2.1 j rfl).2.trans (k1.2.1 j rfl).2⟩
  refine r_voi (V := V) (lm.st kk2.1) (by rw [(f2 149).1]; exact f149) e5 (fun S3 k3 t3 => ?_)
  have kk3 : Keep jTl rTl Sr S3 := Keep.tr kk2 (k3.mono (fun _ _ => rfl) (fun r => by unfold r114 rTl; simp only [decide_eq_false_iff_not]; omega))
  have f3 : ∀ j, fI S3 j = fI Sr j ∧ fL S3 j = fL Sr j := fun j => ⟨(k3.2.1 j rfl).1.trans (f2 j).1, (k3.2.1 j rfl).2.trans (f2 j).2⟩
  refine r_met (M := M) (lm.st kk3.1) (by rw [(f3 153).1]; exact f153) m3 (fun S4 k4 t4 => ?_)
  have kk4 : Keep jTl rTl Sr S4 := Keep.tr kk3 (k4.mono (fun _ _ => rfl) (fun r => by unfold rMe rTl; simp only [decide_eq_false_iff_not]; omega))
  have f4 : ∀ j, fI S4 j = fI Sr j ∧ fL S4 j = fL Sr j := fun j => ⟨(k4.2.1 j rfl).1.trans (f3 j).1, (k4.2.1 j rfl).2.trans (f3 j).2⟩
  unfold TLS
  rintro _ rfl _ rfl _ rfl _ rfl _ rfl _ rfl
  simp only [fI_s, fI_sn, fL_s, fL_sn, aI_w, aI_wn, aL_w, aL_wn, fI_sL, fI_wI, fI_wL, fL_sI, fL_wI, fL_wL, aI_sI, aI_sL, aI_wL, aL_sI, aL_sL, aL_wI, fR_sI, fR_sL, fR_wI, fR_wL, aN_sI, aN_sL, aN_wI, aN_wL, ne_eq, Nat.reduceEqDiff, not_false_eq_true]
  rw [(f4 146).1, (f4 149).1, (f4 125).1, (f4 154).1, (f4 153).1, (f4 156).2, f146, f149, k125, f154, f153, f156]
  generalize hS5 : sL (sI (sI (sI (sI (sI S4 206 (A 9) (nI E)) 207 (A 9) (nI V)) 208 (A 9) (nI nd)) 209 (A 9) (nI st)) 210 (A 9) (nI M)) 211 (A 9) (lN t) = S5
  have k5 : Keep jTl (fun _ => false) S4 S5 := by rw [← hS5]; exact (((((Keep.rf.sI rfl).sI rfl).sI rfl).sI rfl).sI rfl).sL rfl
  have g5 : fI S5 206 (A 9) = nI E ∧ fI S5 207 (A 9) = nI V ∧ fI S5 208 (A 9) = nI nd ∧ fI S5 209 (A 9) = nI st ∧ fI S5 210 (A 9) = nI M ∧ fL S5 211 (A 9) = lN t := by
    rw [← hS5]; simp only [fI_s, fI_sn, fL_s, fL_sn, aI_w, aI_wn, aL_w, aL_wn, fI_sL, fI_wI, fI_wL, fL_sI, fL_wI, fL_wL, aI_sI, aI_sL, aI_wL, aL_sI, aL_sL, aL_wI, fR_sI, fR_sL, fR_wI, fR_wL, aN_sI, aN_sL, aN_wI, aN_wL, ne_eq, Nat.reduceEqDiff, not_false_eq_true]; exact ⟨trivial, trivial, trivial, trivial, trivial, trivial⟩
  clear hS5
  have kk5 : Keep jTl rTl Sr S5 := Keep.tr kk4 (k5.mono (fun _ h => h) (fun _ _ => rfl))
  -- arrays of S5 come from where they were written
  have a54 : ∀ r, aI S5 r = aI S4 r ∧ aL S5 r = aL S4 r := fun r => k5.2.2 r rfl
  have a43 : ∀ r, r < 115 ∨ 117 < r → aI S4 r = aI S3 r ∧ aL S4 r = aL S3 r := fun r hr => k4.2.2 r (by unfold rMe; rw [decide_eq_false_iff_not]; omega)
  have a32 : ∀ r, r ≠ 114 → aI S3 r = aI S2 r ∧ aL S3 r = aL S2 r := fun r hr => k3.2.2 r (by unfold r114; rw [decide_eq_false_iff_not]; omega)
  have a52 : ∀ r, r < 114 → aI S5 r = aI S2 r ∧ aL S5 r = aL S2 r := fun r hr => ⟨by rw [(a54 r).1, (a43 r (by omega)).1, (a32 r (by omega)).1], by rw [(a54 r).2, (a43 r (by omega)).2, (a32 r (by omega)).2]⟩
  have a1 : ∀ r, r ≠ 101 → aI S1 r = aI Sr r ∧ aL S1 r = aL Sr r := fun r hr => k1.2.2 r (by unfold r101; rw [decide_eq_false_iff_not]; omega)
  have evx : ∀ e, e < E → EvX S S5 A B n e := by
    intro e he
    obtain ⟨⟨x1, x2, x3, x4, x5, x6⟩, x7, x8⟩ := t2 e he
    obtain ⟨y1, ⟨c, cs, y2, y3, y3b⟩, y4, y5, y6, y7, y8⟩ := fe e he
    obtain ⟨_, _, _, z4, z5, _⟩ := ee e he
    rw [(a1 65 (by decide)).1] at x1
    rw [(a1 66 (by decide)).1] at x2
    rw [(a1 67 (by decide)).1] at x3
    rw [(a1 68 (by decide)).1] at x4
    rw [(a1 69 (by decide)).2] at x5
    rw [(a1 70 (by decide)).2] at x6
    refine ⟨⟨?_, ?_, ?_, ?_, ?_⟩, ⟨c, cs, y2, ?_, fun k hk => ?_⟩, fun j hj => ?_⟩
    · rw [(a52 102 (by decide)).1, x1]; exact y1
    · rw [(a52 104 (by decide)).1, x3, y4]; exact nar01 z4
    · rw [(a52 105 (by decide)).1, x4, y5]; exact nar01 z5
    · rw [(a52 106 (by decide)).2, x5]; exact y6
    · rw [(a52 107 (by decide)).2, x6]; exact y7
    · rw [(a52 103 (by decide)).1, x2]; exact y3
    · have q := x7 c k (by rw [(a1 66 (by decide)).1]; exact y3) y2.1 hk
      rw [(a52 108 (by decide)).1, (a52 109 (by decide)).1, (a52 110 (by decide)).1, q.1, q.2.1, q.2.2, (a1 72 (by decide)).1, (a1 73 (by decide)).1, (a1 74 (by decide)).1]
      exact y3b k hk
    · have q := x8 j hj
      rw [(a52 111 (by decide)).1, (a52 112 (by decide)).1, q.1, q.2]
      unfold tw1 tw2 twd
      rw [(a1 75 (by decide)).1, (a1 53 (by decide)).1, (a1 54 (by decide)).1, (a1 41 (by decide)).1]
      rcases y8 j hj with ⟨w1, w2⟩ | ⟨y, w, w1, w2, w3, w4, w5, w6⟩
      · left
        have ht : decide (aI Sr 75 (A 75) (3 * e + j) ≠ -1 ∧ ¬ (aI Sr 54 (A 54) (aI Sr 75 (A 75) (3 * e + j)).toNatClampNeg = 1 ∧ aI Sr 41 (A 41) (aI Sr 53 (A 53) (aI Sr 75 (A 75) (3 * e + j)).toNatClampNeg).toNatClampNeg = 95)) = false := by
          rw [decide_eq_false_iff_not]; exact fun z => z.1 w2
        rw [ht, if_neg (by decide), if_neg (by decide)]
        exact ⟨w1, rfl, rfl⟩
      · right
        refine ⟨y, w1, w2, ?_⟩
        have b1 := w1.1
        have b2 := w1.2.2.1
        have b3 := w1.2.1
        have cw : (nI w).toNatClampNeg = w := nI_clamp (by omega)
        have cy : (nI y.1).toNatClampNeg = y.1 := nI_clamp (by omega)
        rw [w4, cw, (f1.2.2 53 rfl).1, (f1.2.2 54 rfl).1, w5, w6, cy, (f1.2.2 41 rfl).1]
        have et := h95 y.1 (by omega)
        have e1' : nI y.2 = 1 ↔ y.2 = 1 := by rw [show (1 : Int32) = nI 1 from rfl]; exact nI_eq (by omega) (by omega)
        by_cases z : y.2 = 1 ∧ B y.1 = 95
        · left
          rw [decide_eq_false (fun q => q.2 ⟨e1'.mpr z.1, et.mpr z.2⟩), if_neg (by decide), if_neg (by decide)]
          exact ⟨z, rfl, rfl⟩
        · right
          rw [decide_eq_true ⟨nI_ne_neg (by omega), fun q => z ⟨e1'.mp q.1, et.mp q.2⟩⟩, if_pos rfl, if_pos rfl]
          exact ⟨z, rfl, rfl⟩
  have rv : Rvk S5 A E s v := by
    intro e he
    obtain ⟨⟨x1, _, _, x4, _⟩, _⟩ := evx e he
    rw [x1, x4]; exact ek e he
  refine r_rank (lm.st kk5.1) g5.1 e2 rv (fun S6 k6 od => ?_)
  have a6 : ∀ r, r ≠ 113 → aI S6 r = aI S5 r ∧ aL S6 r = aL S5 r := fun r hr => k6.2.2 r (by unfold r113; rw [decide_eq_false_iff_not]; omega)
  refine hQ S6 (Keep.tr kk5 (k6.mono (fun _ _ => rfl) (fun r => by unfold r113 rTl; simp only [decide_eq_false_iff_not]; omega))) ⟨?_, fun e he => ?_, fun u hu => ?_, fun k hk => ?_, ord_eq srt od⟩ (fun q hq => ?_)
  · rw [(k6.2.1 206 rfl).1, (k6.2.1 207 rfl).1, (k6.2.1 208 rfl).1, (k6.2.1 209 rfl).1, (k6.2.1 210 rfl).1, (k6.2.1 211 rfl).2]; exact g5
  · have q := evx e he
    unfold EvX at q ⊢
    rw [(a6 102 (by decide)).1, (a6 103 (by decide)).1, (a6 104 (by decide)).1, (a6 105 (by decide)).1, (a6 106 (by decide)).2, (a6 107 (by decide)).2, (a6 108 (by decide)).1, (a6 109 (by decide)).1, (a6 110 (by decide)).1, (a6 111 (by decide)).1, (a6 112 (by decide)).1]
    exact q
  · rw [(a6 114 (by decide)).2, (a54 114).2, (a43 114 (by decide)).2, t3 u hu, (k2.2.2 76 rfl).2, (a1 76 (by decide)).2]; exact (fo u hu).1
  · obtain ⟨y1, y2, y3⟩ := t4 k hk
    obtain ⟨x1, x2, x3⟩ := fm k hk
    rw [(a6 115 (by decide)).2, (a6 116 (by decide)).1, (a6 117 (by decide)).1, (a54 115).2, (a54 116).1, (a54 117).1, y1, y2, y3, (a32 78 (by decide)).2, (a32 79 (by decide)).1, (a32 80 (by decide)).1, (k2.2.2 78 rfl).2, (k2.2.2 79 rfl).1, (k2.2.2 80 rfl).1, (a1 78 (by decide)).2, (a1 79 (by decide)).1, (a1 80 (by decide)).1]
    exact ⟨x1, x2, x3⟩
  · rw [(a6 101 (by decide)).1, (a52 101 (by decide)).1, (k2.2.2 101 rfl).1]; exact t1 q hq
end
