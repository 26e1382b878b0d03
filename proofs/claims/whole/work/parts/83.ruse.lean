/-! A use: which name, both. -/
section
variable {S : PS} {A : Nat → Nat} {B : Nat → Int32} {n p T : Nat}
def usn (B : Nat → Int32) (cp : Nat → Int32) (pq : Nat) (c : Nat → Int32) (nd p : Nat) : Except (Nat × Nat) (Int32 × Int32 × Nat) :=
  if sc isLet B (bl B (p + 1)) = bl B (p + 1) then .error (1, bl B (p + 1))
  else if fnd cp (hs B (bl B (p + 1), sc isLet B (bl B (p + 1)) - bl B (p + 1))) pq 0 ≠ -1 then .ok (fnd cp (hs B (bl B (p + 1), sc isLet B (bl B (p + 1)) - bl B (p + 1))) pq 0, 1, sc isLet B (bl B (p + 1)))
  else if fnd c (hs B (bl B (p + 1), sc isLet B (bl B (p + 1)) - bl B (p + 1))) nd 0 = -1 then .error (4, bl B (p + 1))
  else .ok (fnd c (hs B (bl B (p + 1), sc isLet B (bl B (p + 1)) - bl B (p + 1))) nd 0, 0, sc isLet B (bl B (p + 1)))
theorem usn_kd {cp c : Nat → Int32} {pq nd : Nat} {e : Nat × Nat} (h : usn B cp pq c nd p = .error e) : Kd e := by
  unfold usn at h
  split at h
  · injection h with h; rw [← h]; exact kdm (by decide) (by decide)
  split at h
  · cases h
  split at h
  · injection h with h; rw [← h]; exact kdm (by decide) (by decide)
  · cases h
theorem usn_ok {cp c : Nat → Int32} {pq nd q : Nat} {a b : Int32} (hB : Tx B n) (hp : p < n) (h : usn B cp pq c nd p = .ok (a, b, q)) : p + 2 ≤ q ∧ q ≤ n ∧ ((b = 1 ∧ ∃ j, j < pq ∧ a = nI j) ∨ (b = 0 ∧ ∃ d, d < nd ∧ a = nI d)) := by
  have h1 := bl_ge (B := B) (p := p + 1)
  have h2 := bl_le hB (p := p + 1) hp
  have h3 := sc_ge (f := isLet) (B := B) (p := bl B (p + 1))
  have h4 := sc_le (f := isLet) hB (by decide) h2
  unfold usn at h
  split at h
  · cases h
  rename_i c1
  split at h
  · rename_i c2
    injection h with h; injection h with e1 e2; injection e2 with e2 e3
    rcases fnd_some (f := cp) (key := hs B (bl B (p + 1), sc isLet B (bl B (p + 1)) - bl B (p + 1))) pq 0 with z | ⟨j, z1, z2, z3, z4⟩
    · exact absurd z c2
    · exact ⟨by omega, by omega, Or.inl ⟨e2.symm, j, by omega, by rw [← e1, z3]⟩⟩
  split at h
  · cases h
  · rename_i c3
    injection h with h; injection h with e1 e2; injection e2 with e2 e3
    rcases fnd_some (f := c) (key := hs B (bl B (p + 1), sc isLet B (bl B (p + 1)) - bl B (p + 1))) nd 0 with z | ⟨j, z1, z2, z3, z4⟩
    · exact absurd z c3
    · exact ⟨by omega, by omega, Or.inr ⟨e2.symm, j, by omega, by rw [← e1, z3]⟩⟩
def jUs (j : Nat) : Bool := decide (j = 101)
def rUs (r : Nat) : Bool := decide (r = 42 ∨ r = 44 ∨ r = 45 ∨ r = 48)
/-- what a use leaves: a parameter (b is 1) or a name -/
def UN (S S1 : PS) (A : Nat → Nat) (T : Nat) (a b : Int32) (q : Nat) : Prop := Keep jUs rUs S S1 ∧ fI S1 101 (A 9) = nI q ∧ aI S1 42 (A 42) = uq (aI S 42 (A 42)) T 10 ∧ aI S1 44 (A 44) = uq (aI S 44 (A 44)) T (if b = 0 then a else -1 - a) ∧ aI S1 45 (A 45) = uq (aI S 45 (A 45)) T (if b = 0 then aI S 58 (A 58) a.toNatClampNeg else 0) ∧ aL S1 48 (A 48) = uq (aL S 48 (A 48)) T (-1)
theorem r_use {Q : PS → Prop} {cp c : Nat → Int32} {pq nd : Nat} {inm : Bool} (h : RT S A B n) (hf : fI S 102 (A 9) = 0) (hp : fI S 101 (A 9) = nI (p + 1)) (hlt : p < n) (hx : T < 3100)
    (hi : fI S 126 (A 9) = mI inm) (hpq : inm = true → fI S 129 (A 9) = nI pq) (hz : inm = false → pq = 0) (hb4 : pq ≤ 4) (htp : ∀ k, k < pq → Nt B n (fun j => aI S 59 (A 59) (j + 1)) (fun j => aI S 60 (A 60) (j + 1)) cp k)
    (hd : fI S 125 (A 9) = nI nd) (hb : nd ≤ 20) (ht : ∀ k, k < nd → Nt B n (aI S 55 (A 55)) (aI S 56 (A 56)) c k)
    (h1 : ∀ a b q S1, usn B cp pq c nd p = .ok (a, b, q) → UN S S1 A T a b q → (if (if b = 0 then aI S 58 (A 58) a.toNatClampNeg else 0) ≤ 0 then Q S1 else wp_X12_openBlock (A 9) 4 (nI T) S1 Q))
    (h0 : ∀ e S1, usn B cp pq c nd p = .error e → Kd e → RFM S S1 A e → Q S1) : wp_X12_useAt (A 9) (nI T) S Q := by
  have hB := h.2.2.1
  have hn := hB.1
  have hbn := bl_le hB (p := p + 1) hlt
  unfold wp_X12_useAt
  refine ⟨_, h.1.f105, by rw [h.1.n42]; exact vp_in_nI hx (by omega), ?_⟩
  rw [nI_clamp (by omega)]
  rintro _ rfl
  have h2 : RT (wI S 42 (A 42) T 10) A B n := h.km (Keep.rf.wI rfl)
  refine r_blanks h2 hp hlt ?_
  intro v4 hv4
  rw [fI_at] at hv4
  subst hv4
  refine r_letters h2.pos fI_at hbn ?_
  rw [sI_sI]
  have hu : usn B cp pq c nd p = if sc isLet B (bl B (p + 1)) = bl B (p + 1) then .error (1, bl B (p + 1))
      else if fnd cp (hs B (bl B (p + 1), sc isLet B (bl B (p + 1)) - bl B (p + 1))) pq 0 ≠ -1 then .ok (fnd cp (hs B (bl B (p + 1), sc isLet B (bl B (p + 1)) - bl B (p + 1))) pq 0, 1, sc isLet B (bl B (p + 1)))
      else if fnd c (hs B (bl B (p + 1), sc isLet B (bl B (p + 1)) - bl B (p + 1))) nd 0 = -1 then .error (4, bl B (p + 1))
      else .ok (fnd c (hs B (bl B (p + 1), sc isLet B (bl B (p + 1)) - bl B (p + 1))) nd 0, 0, sc isLet B (bl B (p + 1))) := rfl
  have g1 := sc_ge (f := isLet) (B := B) (p := bl B (p + 1))
  have g2 := sc_le (f := isLet) hB (by decide) hbn
  have hL : Lt B (bl B (p + 1)) (sc isLet B (bl B (p + 1)) - bl B (p + 1)) := sc_let rfl
  generalize bl B (p + 1) = q at *
  generalize hr : sc isLet B q = r at *
  have hS := h2.pos (v := nI r)
  by_cases c0 : r = q
  · rw [if_pos c0] at hu
    rw [if_pos (by rw [c0, Nat.sub_self]; rfl), fI_at, c0]
    exact r_bad (k := 1) (fI_at2.trans hf) (fun S1 c1 => h0 _ S1 hu (usn_kd hu) (RFM.of (Keep.tr (Keep.rf.wI rfl) (KR.m KR.pos)) c1.m))
  · rw [if_neg c0] at hu
    rw [if_neg (nI_ne0 (by omega) (by omega))]
    refine r_paramOf (pq := pq) (c := cp) (inm := inm) hS (by simp only [fI_s, fI_sn, fL_s, fL_sn, aI_w, aI_wn, aL_w, aL_wn, fI_sL, fI_wI, fI_wL, fL_sI, fL_wI, fL_wL, aI_sI, aI_sL, aI_wL, aL_sI, aL_sL, aL_wI, fR_sI, fR_sL, fR_wI, fR_wL, aN_sI, aN_sL, aN_wI, aN_wL, ne_eq, Nat.reduceEqDiff, not_false_eq_true]; exact hi) (by simp only [fI_s, fI_sn, fL_s, fL_sn, aI_w, aI_wn, aL_w, aL_wn, fI_sL, fI_wI, fI_wL, fL_sI, fL_wI, fL_wL, aI_sI, aI_sL, aI_wL, aL_sI, aL_sL, aL_wI, fR_sI, fR_sL, fR_wI, fR_wL, aN_sI, aN_sL, aN_wI, aN_wL, ne_eq, Nat.reduceEqDiff, not_false_eq_true]; exact hpq) hz hb4 (by simp only [fI_s, fI_sn, fL_s, fL_sn, aI_w, aI_wn, aL_w, aL_wn, fI_sL, fI_wI, fI_wL, fL_sI, fL_wI, fL_wL, aI_sI, aI_sL, aI_wL, aL_sI, aL_sL, aL_wI, fR_sI, fR_sL, fR_wI, fR_wL, aN_sI, aN_sL, aN_wI, aN_wL, ne_eq, Nat.reduceEqDiff, not_false_eq_true]; exact htp) hL (by omega) ?_
    intro K hK
    have fin : ∀ t9 : Int32, (fnd cp (hs B (q, r - q)) pq 0 = -1 → t9 = fnd c (hs B (q, r - q)) nd 0) → K t9 (sI (wI S 42 (A 42) T 10) 101 (A 9) (nI r)) := by
      intro t9 ht9
      apply hK
      intro K2 hK2
      have fin2 : ∀ a b, usn B cp pq c nd p = .ok (a, b, r) → (fnd cp (hs B (q, r - q)) pq 0 = -1 → b = 0 ∧ a = t9 ∧ ∃ d, d < nd ∧ a = nI d) → (fnd cp (hs B (q, r - q)) pq 0 ≠ -1 → b = 1 ∧ a = fnd cp (hs B (q, r - q)) pq 0) → K2 (sI (wI S 42 (A 42) T 10) 101 (A 9) (nI r)) := by
        intro a b y1 y2 y3
        apply hK2
        refine ⟨_, hS.1.f107, ?_⟩
        intro K3 hK3
        have st : ∀ v : Int32, v = (if b = 0 then a else -1 - a) → K3 (A 44) (nI T) v (sI (wI S 42 (A 42) T 10) 101 (A 9) (nI r)) := by
          intro v hv
          apply hK3
          refine ⟨by show vp_in _ (aN S (A 44)); rw [h.1.n44]; exact vp_in_nI hx (by omega), ?_⟩
          rw [nI_clamp (by omega)]
          rintro _ rfl
          refine ⟨_, hS.1.f108, ?_⟩
          intro K4 hK4
          have st2 : ∀ u : Int32, u = (if b = 0 then aI S 58 (A 58) a.toNatClampNeg else 0) → K4 (A 45) (nI T) u (wI (sI (wI S 42 (A 42) T 10) 101 (A 9) (nI r)) 44 (A 44) T v) := by
            intro u hu2
            apply hK4
            refine ⟨by show vp_in _ (aN S (A 45)); rw [h.1.n45]; exact vp_in_nI hx (by omega), ?_⟩
            rw [nI_clamp (by omega)]
            rintro _ rfl
            refine ⟨_, hS.1.f111, by show vp_in _ (aN S (A 48)); rw [h.1.n48]; exact vp_in_nI hx (by omega), ?_⟩
            rintro _ rfl
            refine ⟨_, hS.1.f108, by show vp_in _ (aN S (A 45)); rw [h.1.n45]; exact vp_in_nI hx (by omega), ?_⟩
            have := h1 a b r (wL (wI (wI (sI (wI S 42 (A 42) T 10) 101 (A 9) (nI r)) 44 (A 44) T v) 45 (A 45) T u) 48 (A 48) T (-1)) y1 ⟨((((Keep.rf.wI rfl).sI rfl).wI rfl).wI rfl).wL rfl, ?_, ?_, ?_, ?_, ?_⟩
            · rw [← hu2] at this
              have e45 : aI (wL (wI (wI (sI (wI S 42 (A 42) T 10) 101 (A 9) (nI r)) 44 (A 44) T v) 45 (A 45) T u) 48 (A 48) T (-1)) 45 (A 45) T = u := by simp only [fI_s, fI_sn, fL_s, fL_sn, aI_w, aI_wn, aL_w, aL_wn, fI_sL, fI_wI, fI_wL, fL_sI, fL_wI, fL_wL, aI_sI, aI_sL, aI_wL, aL_sI, aL_sL, aL_wI, fR_sI, fR_sL, fR_wI, fR_wL, aN_sI, aN_sL, aN_wI, aN_wL, ne_eq, Nat.reduceEqDiff, not_false_eq_true]; exact uq_at
              rw [e45]; exact this
            · simp only [fI_s, fI_sn, fL_s, fL_sn, aI_w, aI_wn, aL_w, aL_wn, fI_sL, fI_wI, fI_wL, fL_sI, fL_wI, fL_wL, aI_sI, aI_sL, aI_wL, aL_sI, aL_sL, aL_wI, fR_sI, fR_sL, fR_wI, fR_wL, aN_sI, aN_sL, aN_wI, aN_wL, ne_eq, Nat.reduceEqDiff, not_false_eq_true]
            · simp only [fI_s, fI_sn, fL_s, fL_sn, aI_w, aI_wn, aL_w, aL_wn, fI_sL, fI_wI, fI_wL, fL_sI, fL_wI, fL_wL, aI_sI, aI_sL, aI_wL, aL_sI, aL_sL, aL_wI, fR_sI, fR_sL, fR_wI, fR_wL, aN_sI, aN_sL, aN_wI, aN_wL, ne_eq, Nat.reduceEqDiff, not_false_eq_true]
            · simp only [fI_s, fI_sn, fL_s, fL_sn, aI_w, aI_wn, aL_w, aL_wn, fI_sL, fI_wI, fI_wL, fL_sI, fL_wI, fL_wL, aI_sI, aI_sL, aI_wL, aL_sI, aL_sL, aL_wI, fR_sI, fR_sL, fR_wI, fR_wL, aN_sI, aN_sL, aN_wI, aN_wL, ne_eq, Nat.reduceEqDiff, not_false_eq_true]; rw [hv]
            · simp only [fI_s, fI_sn, fL_s, fL_sn, aI_w, aI_wn, aL_w, aL_wn, fI_sL, fI_wI, fI_wL, fL_sI, fL_wI, fL_wL, aI_sI, aI_sL, aI_wL, aL_sI, aL_sL, aL_wI, fR_sI, fR_sL, fR_wI, fR_wL, aN_sI, aN_sL, aN_wI, aN_wL, ne_eq, Nat.reduceEqDiff, not_false_eq_true]; rw [hu2]
            · simp only [fI_s, fI_sn, fL_s, fL_sn, aI_w, aI_wn, aL_w, aL_wn, fI_sL, fI_wI, fI_wL, fL_sI, fL_wI, fL_wL, aI_sI, aI_sL, aI_wL, aL_sI, aL_sL, aL_wI, fR_sI, fR_sL, fR_wI, fR_wL, aN_sI, aN_sL, aN_wI, aN_wL, ne_eq, Nat.reduceEqDiff, not_false_eq_true]
          by_cases e : fnd cp (hs B (q, r - q)) pq 0 = -1
          · obtain ⟨z1, z2, d, z3, z4⟩ := y2 e
            rw [if_pos e, ← z2, z4]
            refine ⟨_, hS.1.f124, by show vp_in _ (aN S (A 58)); rw [h.1.n58]; exact vp_in_nI (by omega) (by omega), ?_⟩
            refine st2 _ ?_
            rw [if_pos z1, z4]
            simp only [fI_s, fI_sn, fL_s, fL_sn, aI_w, aI_wn, aL_w, aL_wn, fI_sL, fI_wI, fI_wL, fL_sI, fL_wI, fL_wL, aI_sI, aI_sL, aI_wL, aL_sI, aL_sL, aL_wI, fR_sI, fR_sL, fR_wI, fR_wL, aN_sI, aN_sL, aN_wI, aN_wL, ne_eq, Nat.reduceEqDiff, not_false_eq_true]
          · rw [if_neg e]
            refine st2 0 ?_
            rw [if_neg (by rw [(y3 e).1]; decide)]
        by_cases e : fnd cp (hs B (q, r - q)) pq 0 = -1
        · rw [if_pos e]
          obtain ⟨z1, z2, -⟩ := y2 e
          exact st _ (by rw [if_pos z1, z2])
        · rw [if_neg e]
          obtain ⟨z1, z2⟩ := y3 e
          exact st _ (by rw [if_neg (by rw [z1]; decide), z2])
      by_cases e : fnd cp (hs B (q, r - q)) pq 0 = -1
      · rw [if_neg (fun z => z e)] at hu
        rw [if_pos e, ht9 e]
        by_cases e2 : fnd c (hs B (q, r - q)) nd 0 = -1
        · rw [if_pos e2] at hu ⊢
          exact r_bad (k := 4) (fI_at2.trans hf) (fun S1 c1 => h0 _ S1 hu (usn_kd hu) (RFM.of (Keep.tr (Keep.rf.wI rfl) (KR.m KR.pos)) c1.m))
        · rw [if_neg e2] at hu ⊢
          refine fin2 _ _ hu (fun _ => ⟨rfl, (ht9 e).symm, ?_⟩) (fun z => absurd e z)
          rcases fnd_some (f := c) (key := hs B (q, r - q)) nd 0 with z | ⟨j, z1, z2, z3, z4⟩
          · exact absurd z e2
          · exact ⟨j, by omega, z3⟩
      · rw [if_pos e] at hu
        rw [if_neg e]
        exact fin2 _ _ hu (fun z => absurd z e) (fun _ => ⟨rfl, rfl⟩)
    by_cases e : fnd cp (hs B (q, r - q)) pq 0 = -1
    · rw [if_pos e]
      exact r_nameOf hS (by simp only [fI_s, fI_sn, fL_s, fL_sn, aI_w, aI_wn, aL_w, aL_wn, fI_sL, fI_wI, fI_wL, fL_sI, fL_wI, fL_wL, aI_sI, aI_sL, aI_wL, aL_sI, aL_sL, aL_wI, fR_sI, fR_sL, fR_wI, fR_wL, aN_sI, aN_sL, aN_wI, aN_wL, ne_eq, Nat.reduceEqDiff, not_false_eq_true]; exact hd) hb (by simp only [fI_s, fI_sn, fL_s, fL_sn, aI_w, aI_wn, aL_w, aL_wn, fI_sL, fI_wI, fI_wL, fL_sI, fL_wI, fL_wL, aI_sI, aI_sL, aI_wL, aL_sI, aL_sL, aL_wI, fR_sI, fR_sL, fR_wI, fR_wL, aN_sI, aN_sL, aN_wI, aN_wL, ne_eq, Nat.reduceEqDiff, not_false_eq_true]; exact ht) hL (by omega) (fin _ (fun _ => rfl))
    · rw [if_neg e]
      exact fin _ (fun z => absurd z e)
end
