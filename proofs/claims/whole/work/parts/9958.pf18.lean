/-! Performing: notes, chords and rests of the reference. -/
section
variable {S S1 S2 S0 Sr Sr1 Sr2 R0 : PS} {A : Nat → Nat} {B : Nat → Int32} {n N nd pc : Nat}
variable {c k i pl w' tq : Nat} {qf : Nat → Nat} {rel : Bool} {fr ml mh : Int} {td : Int32}
theorem lN_div {a b : Nat} (ha : a < 2 ^ 63) (hb : 0 < b) (hb2 : b < 2 ^ 63) : lN a / lN b = lN (a / b) := by
  apply Int64.toInt_inj.mp
  rw [Int64.toInt_div_of_ne_left]
  · rw [lN_tI ha, lN_tI hb2, lN_tI (Nat.lt_of_le_of_lt (Nat.div_le_self a b) ha), Int.tdiv_eq_ediv_of_nonneg (by omega)]; rfl
  · intro e
    have h1 := congrArg Int64.toInt e
    rw [lN_tI ha] at h1
    have h2 : Int64.minValue.toInt = -2 ^ 63 := by decide
    rw [h2] at h1; omega
theorem pco_inj {q q' : Nat} (h : isTon (B q) = true) (h' : isTon (B q') = true) (e : pco B q = pco B q') : wl B q = wl B q' ∧ wa B q = wa B q' ∧ wo B q = wo B q' := by
  have l := wl_b h; have o := wo_b (B := B) q; have a := wa_b (B := B) q
  have l' := wl_b h'; have o' := wo_b (B := B) q'; have a' := wa_b (B := B) q'
  rw [pco_j, pco_j, iJ_inj (by omega) (by omega) (by omega) (by omega)] at e
  omega
theorem stq_cg {q q' : Nat} (e1 : wl B q = wl B q') (e2 : wo B q = wo B q') : stq B rel fr q = stq B rel fr q' := by
  unfold stq oc; rw [e1, e2]
def jSr (j : Nat) : Bool := decide (j = 157 ∨ j = 158)
def rSr (r : Nat) : Bool := decide (83 ≤ r ∧ r ≤ 85)
theorem r_sound {Q : PS → Prop} {L0 : Int} {r : Int32} {ln : Int64} (h : LayM Sr A) (hi : i < 3100) (hp : aI Sr 43 (A 43) i = nI pl) (hf : fI Sr 102 (A 9) = 0) (h45 : aI Sr 45 (A 45) i = nI c) (hc : c ≤ 6) (h44 : aI Sr 44 (A 44) i = nI w') (hw : w' + c ≤ 1500) (h48 : aL Sr 48 (A 48) i = lN tq) (htq : tq ≤ 3870720000)
    (hq : ∀ k, k < c → isTon (B (qf k)) = true ∧ ∃ q, isTon (B q) = true ∧ pco B q = pco B (qf k) ∧ aI Sr 50 (A 50) (w' + k) = pLet (B q) ∧ aI Sr 51 (A 51) (w' + k) = pA B q ∧ aI Sr 52 (A 52) (w' + k) = pO B q)
    (h159 : fI Sr 159 (A 9) = r) (hrel : r ≤ 0 ↔ rel = false) (h158 : rel = true → fI Sr 158 (A 9) = iJ fr) (hL : 100 ≤ L0) (hL2 : L0 ≤ 1000000) (f1 : -L0 ≤ fr) (f2 : fr ≤ L0) (hml : fI Sr 163 (A 9) = iJ ml) (hmh : fI Sr 164 (A 9) = iJ mh) (m1 : -2 ^ 24 ≤ ml) (m2 : ml < 2 ^ 24) (n1 : -2 ^ 24 ≤ mh) (n2 : mh < 2 ^ 24)
    (hln : ln = if tq = 0 then fL Sr 157 (A 9) else lN tq)
    (h0 : ¬ (∀ k, k < c → okq B rel qf fr ml mh k) → ∀ Sr2, Keep jSr rSr Sr Sr2 → wp_X12_event (A 9) (nI i) (nI c) (ln * fL Sr 161 (A 9)) (fL Sr 162 (A 9)) (aI Sr 49 (A 49) i) (sI (sI Sr2 102 (A 9) 3) 103 (A 9) (nI pl)) Q)
    (h1 : (∀ k, k < c → okq B rel qf fr ml mh k) → ∀ Sr2, Keep jSr rSr Sr Sr2 → fL Sr2 157 (A 9) = ln → fI Sr2 158 (A 9) = (if c = 0 then fI Sr 158 (A 9) else iJ (sq B rel qf fr 1)) → (∀ k, k < c → aI Sr2 83 (A 83) k = nI (cdq B rel qf fr ml mh k / 5 % 7) ∧ aI Sr2 84 (A 84) k = iJ ((cdq B rel qf fr ml mh k : Int) % 5 - 2) ∧ aI Sr2 85 (A 85) k = nI (cdq B rel qf fr ml mh k / 35)) → wp_X12_event (A 9) (nI i) (nI c) (ln * fL Sr 161 (A 9)) (fL Sr 162 (A 9)) (aI Sr 49 (A 49) i) Sr2 Q) : wp_X12_sound (A 9) (nI i) Sr Q := by
  have ci : (nI i).toNatClampNeg = i := nI_clamp (by omega)
  have vi : ∀ {r : Nat}, r = 3100 → vp_in (nI i) r := fun h => by rw [h]; exact vp_in_nI hi (by omega)
  unfold wp_X12_sound
  refine ⟨_, h.f111, vi h.n48, ?_⟩
  intro K hK
  rw [ci, h48]
  have sb := sq_b (rel := rel) (qf := qf) (fr := fr) (c := c) (B := B) (fun k hk => (hq k hk).1) hL f1 f2
  have go : ∀ Sa, Keep jSr rSr Sr Sa → fL Sa 157 (A 9) = ln → fI Sa 158 (A 9) = fI Sr 158 (A 9) → K Sa := by
    intro Sa ka ela e158
    apply hK
    rintro _ rfl
    intro P hP
    have key : ∀ g k Sb, g + k = c → Keep jSr rSr Sr Sb → fL Sb 157 (A 9) = ln → (k = 0 → fI Sb 158 (A 9) = fI Sr 158 (A 9)) → (0 < k → fI Sb 158 (A 9) = iJ (sq B rel qf fr k)) → ∀ gd : Int32, (gd = 0 ∨ gd = 1) → (gd = 0 → ¬ ∀ j, j < c → okq B rel qf fr ml mh j) → (gd = 1 → ∀ j, j < k → okq B rel qf fr ml mh j ∧ aI Sb 83 (A 83) j = nI (cdq B rel qf fr ml mh j / 5 % 7) ∧ aI Sb 84 (A 84) j = iJ ((cdq B rel qf fr ml mh j : Int) % 5 - 2) ∧ aI Sb 85 (A 85) j = nI (cdq B rel qf fr ml mh j / 35)) → P (if k = 0 then fI Sr 158 (A 9) else iJ (sq B rel qf fr 1)) gd (nI k) Sb := by
      intro g
      induction g with
      | zero =>
        intro k Sb k1 kb b1 b2 b3 gd g0 g1 g2
        have kc : k = c := by omega
        subst kc
        have hb := h.st kb.1
        apply hP
        refine ⟨_, hb.f108, vi hb.n45, ?_⟩
        rw [ci, (kb.2.2 45 rfl).1, h45, if_pos (nI_le (Nat.le_refl _) (by omega))]
        rintro _ rfl
        intro K2 hK2
        have kb2 : Keep jSr rSr Sr (sI Sb 158 (A 9) (if k = 0 then fI Sr 158 (A 9) else iJ (sq B rel qf fr 1))) := kb.sI rfl
        generalize hSc : sI Sb 158 (A 9) (if k = 0 then fI Sr 158 (A 9) else iJ (sq B rel qf fr 1)) = Sc at kb2
        have hc' := h.st kb2.1
        have ev : ∀ Sd, St Sd = St Sr → aI Sd 45 = aI Sr 45 → aI Sd 49 = aI Sr 49 → fL Sd 157 (A 9) = ln → fL Sd 161 = fL Sr 161 → fL Sd 162 = fL Sr 162 → wp_X12_event (A 9) (nI i) (nI k) (ln * fL Sr 161 (A 9)) (fL Sr 162 (A 9)) (aI Sr 49 (A 49) i) Sd Q → K2 Sd := by
          intro Sd sd d45 d49 d157 d161 d162 he
          have hd := h.st sd
          apply hK2
          refine ⟨_, hd.f108, vi hd.n45, _, hd.f112, vi hd.n49, ?_⟩
          rw [d45, d49, d157, d161, d162, h45]
          exact he
        have l157 : fL Sc 157 (A 9) = ln := by rw [← hSc]; simp only [fI_s, fI_sn, fL_s, fL_sn, aI_w, aI_wn, aL_w, aL_wn, fI_sL, fI_wI, fI_wL, fL_sI, fL_wI, fL_wL, aI_sI, aI_sL, aI_wL, aL_sI, aL_sL, aL_wI, fR_sI, fR_sL, fR_wI, fR_wL, aN_sI, aN_sL, aN_wI, aN_wL, ne_eq, Nat.reduceEqDiff, not_false_eq_true]; exact b1
        rcases g0 with z | z
        · rw [if_pos z]
          refine ⟨_, hc'.f106, vi hc'.n43, ?_⟩
          rw [(kb2.2.2 43 rfl).1, hp]
          unfold wp_X12_bad
          rw [(kb2.2.1 102 rfl).1, if_pos hf]
          rintro _ rfl _ rfl
          refine ev _ kb2.1 (by simp only [fI_s, fI_sn, fL_s, fL_sn, aI_w, aI_wn, aL_w, aL_wn, fI_sL, fI_wI, fI_wL, fL_sI, fL_wI, fL_wL, aI_sI, aI_sL, aI_wL, aL_sI, aL_sL, aL_wI, fR_sI, fR_sL, fR_wI, fR_wL, aN_sI, aN_sL, aN_wI, aN_wL, ne_eq, Nat.reduceEqDiff, not_false_eq_true]; rw [(kb2.2.2 45 rfl).1]) (by simp only [fI_s, fI_sn, fL_s, fL_sn, aI_w, aI_wn, aL_w, aL_wn, fI_sL, fI_wI, fI_wL, fL_sI, fL_wI, fL_wL, aI_sI, aI_sL, aI_wL, aL_sI, aL_sL, aL_wI, fR_sI, fR_sL, fR_wI, fR_wL, aN_sI, aN_sL, aN_wI, aN_wL, ne_eq, Nat.reduceEqDiff, not_false_eq_true]; rw [(kb2.2.2 49 rfl).1]) (by simp only [fI_s, fI_sn, fL_s, fL_sn, aI_w, aI_wn, aL_w, aL_wn, fI_sL, fI_wI, fI_wL, fL_sI, fL_wI, fL_wL, aI_sI, aI_sL, aI_wL, aL_sI, aL_sL, aL_wI, fR_sI, fR_sL, fR_wI, fR_wL, aN_sI, aN_sL, aN_wI, aN_wL, ne_eq, Nat.reduceEqDiff, not_false_eq_true]; exact l157) (by simp only [fI_s, fI_sn, fL_s, fL_sn, aI_w, aI_wn, aL_w, aL_wn, fI_sL, fI_wI, fI_wL, fL_sI, fL_wI, fL_wL, aI_sI, aI_sL, aI_wL, aL_sI, aL_sL, aL_wI, fR_sI, fR_sL, fR_wI, fR_wL, aN_sI, aN_sL, aN_wI, aN_wL, ne_eq, Nat.reduceEqDiff, not_false_eq_true]; rw [(kb2.2.1 161 rfl).2]) (by simp only [fI_s, fI_sn, fL_s, fL_sn, aI_w, aI_wn, aL_w, aL_wn, fI_sL, fI_wI, fI_wL, fL_sI, fL_wI, fL_wL, aI_sI, aI_sL, aI_wL, aL_sI, aL_sL, aL_wI, fR_sI, fR_sL, fR_wI, fR_wL, aN_sI, aN_sL, aN_wI, aN_wL, ne_eq, Nat.reduceEqDiff, not_false_eq_true]; rw [(kb2.2.1 162 rfl).2]) ?_
          exact h0 (g1 z) Sc kb2
        · rw [if_neg (by rw [z]; decide)]
          refine ev _ kb2.1 (kb2.2.2 45 rfl).1 (kb2.2.2 49 rfl).1 l157 (kb2.2.1 161 rfl).2 (kb2.2.1 162 rfl).2 ?_
          refine h1 (fun j hj => (g2 z j hj).1) Sc kb2 l157 (by rw [← hSc]; simp only [fI_s, fI_sn, fL_s, fL_sn, aI_w, aI_wn, aL_w, aL_wn, fI_sL, fI_wI, fI_wL, fL_sI, fL_wI, fL_wL, aI_sI, aI_sL, aI_wL, aL_sI, aL_sL, aL_wI, fR_sI, fR_sL, fR_wI, fR_wL, aN_sI, aN_sL, aN_wI, aN_wL, ne_eq, Nat.reduceEqDiff, not_false_eq_true]) (fun j hj => ?_)
          rw [← hSc]; simp only [fI_s, fI_sn, fL_s, fL_sn, aI_w, aI_wn, aL_w, aL_wn, fI_sL, fI_wI, fI_wL, fL_sI, fL_wI, fL_wL, aI_sI, aI_sL, aI_wL, aL_sI, aL_sL, aL_wI, fR_sI, fR_sL, fR_wI, fR_wL, aN_sI, aN_sL, aN_wI, aN_wL, ne_eq, Nat.reduceEqDiff, not_false_eq_true]; exact (g2 z j hj).2
      | succ g ih =>
        intro k Sb k1 kb b1 b2 b3 gd g0 g1 g2
        have hb := h.st kb.1
        obtain ⟨t1, q, t2, t3, t4, t5, t6⟩ := hq k (by omega)
        obtain ⟨p1, p2, p3⟩ := pco_inj t2 t1 t3
        have s0 := sb k (by omega)
        have es : stq B rel (sq B rel qf fr k) q = sq B rel qf fr (k + 1) := stq_cg p1 p3
        apply hP
        refine ⟨_, hb.f108, vi hb.n45, ?_⟩
        rw [ci, (kb.2.2 45 rfl).1, h45, if_neg (nI_ge (by omega) (by omega))]
        refine ⟨_, hb.f107, vi hb.n44, ?_⟩
        rw [(kb.2.2 44 rfl).1, h44, nI_add]
        have fin : ∀ (gd' : Int32), (gd' = 0 ∨ gd' = 1) → ∀ Sc, Keep jSr rSr Sr Sc → fL Sc 157 (A 9) = ln → fI Sc 158 (A 9) = iJ (sq B rel qf fr (k + 1)) → (gd' = 0 → ¬ ∀ j, j < c → okq B rel qf fr ml mh j) → (gd' = 1 → ∀ j, j < k + 1 → okq B rel qf fr ml mh j ∧ aI Sc 83 (A 83) j = nI (cdq B rel qf fr ml mh j / 5 % 7) ∧ aI Sc 84 (A 84) j = iJ ((cdq B rel qf fr ml mh j : Int) % 5 - 2) ∧ aI Sc 85 (A 85) j = nI (cdq B rel qf fr ml mh j / 35)) → ∀ K3 : Int32 → PS → Prop, (∀ (t22 : Int32) (S23 : PS), (∀ K83_27 : Int32 → PS → Prop, (∀ (t25 : Int32) (S26 : PS), (∀ v28, v28 = nI k + 1 → P t25 t22 v28 S26) → K83_27 t25 S26) → (if nI k = 0 then K83_27 (fI S23 158 (A 9)) S23 else K83_27 (if k = 0 then fI Sr 158 (A 9) else iJ (sq B rel qf fr 1)) S23)) → K3 t22 S23) → K3 gd' Sc := by
          intro gd' d0 Sc kc c1 c2 c3 c4 K3 hK3
          apply hK3
          intro K4 hK4
          have nxt : K4 (iJ (sq B rel qf fr 1)) Sc := by
            apply hK4
            rintro _ rfl
            rw [nI_1]
            have := ih (k + 1) Sc (by omega) kc c1 (fun z => by omega) (fun _ => c2) gd' d0 c3 c4
            rw [if_neg (by omega)] at this
            exact this
          by_cases k0 : k = 0
          · rw [if_pos (by rw [k0]; rfl), c2, k0]; exact nxt
          · rw [if_neg (nI_ne0 (by omega) (by omega)), if_neg k0]; exact nxt
        have kf : ∀ lk, Keep jSr rSr Sr (fnS Sb A k (sq B rel qf fr (k + 1)) ml lk) := fun lk => (((kb.sI rfl).wI rfl).wI rfl).wI rfl
        refine r_find (rel := rel) (fr := sq B rel qf fr k) (q := q) (ml := ml) (mh := mh) (B := B) hb (by omega) (by omega) t2 (by rw [(kb.2.2 50 rfl).1]; exact t4) (by rw [(kb.2.2 51 rfl).1]; exact t5) (by rw [(kb.2.2 52 rfl).1]; exact t6) (by rw [(kb.2.1 159 rfl).1]; exact h159) hrel (fun z => ?_) (by omega) (by omega) (by rw [(kb.2.1 163 rfl).1]; exact hml) (by rw [(kb.2.1 164 rfl).1]; exact hmh) m1 m2 n1 n2 (fun ok => ?_) (fun ok => ?_)
        · by_cases k0 : k = 0
          · rw [b2 k0, h158 z, k0]; rfl
          · exact b3 (by omega)
        · rw [es, p2] at ok ⊢
          have okk : okq B rel qf fr ml mh k := ok
          obtain ⟨cb1, cb2⟩ := cdq_b okk
          have okd := ok
          unfold okP at okd
          rw [decide_eq_true_iff] at okd
          intro K3 hK3
          rw [if_neg (by decide)]
          have kk := kf (lck (sq B rel qf fr (k + 1)) (wa B (qf k)) ml mh)
          have l157 : fL (fnS Sb A k (sq B rel qf fr (k + 1)) ml (lck (sq B rel qf fr (k + 1)) (wa B (qf k)) ml mh)) 157 (A 9) = ln := by unfold fnS; simp only [fI_s, fI_sn, fL_s, fL_sn, aI_w, aI_wn, aL_w, aL_wn, fI_sL, fI_wI, fI_wL, fL_sI, fL_wI, fL_wL, aI_sI, aI_sL, aI_wL, aL_sI, aL_sL, aL_wI, fR_sI, fR_sL, fR_wI, fR_wL, aN_sI, aN_sL, aN_wI, aN_wL, ne_eq, Nat.reduceEqDiff, not_false_eq_true]; exact b1
          have l158 : fI (fnS Sb A k (sq B rel qf fr (k + 1)) ml (lck (sq B rel qf fr (k + 1)) (wa B (qf k)) ml mh)) 158 (A 9) = iJ (sq B rel qf fr (k + 1)) := by unfold fnS; simp only [fI_s, fI_sn, fL_s, fL_sn, aI_w, aI_wn, aL_w, aL_wn, fI_sL, fI_wI, fI_wL, fL_sI, fL_wI, fL_wL, aI_sI, aI_sL, aI_wL, aL_sI, aL_sL, aL_wI, fR_sI, fR_sL, fR_wI, fR_wL, aN_sI, aN_sL, aN_wI, aN_wL, ne_eq, Nat.reduceEqDiff, not_false_eq_true]
          rcases g0 with z | z
          · rw [if_pos z]
            exact fin 0 (Or.inl rfl) _ kk l157 l158 (fun _ => g1 z) (fun y => absurd y (by decide)) K3 hK3
          · rw [if_neg (by rw [z]; decide)]
            refine fin 1 (Or.inr rfl) _ kk l157 l158 (fun y => absurd y (by decide)) (fun _ j hj => ?_) K3 hK3
            by_cases y : j = k
            · subst y
              refine ⟨okk, ?_, ?_, ?_⟩
              · unfold fnS; simp only [fI_s, fI_sn, fL_s, fL_sn, aI_w, aI_wn, aL_w, aL_wn, fI_sL, fI_wI, fI_wL, fL_sI, fL_wI, fL_wL, aI_sI, aI_sL, aI_wL, aL_sI, aL_sL, aL_wI, fR_sI, fR_sL, fR_wI, fR_wL, aN_sI, aN_sL, aN_wI, aN_wL, ne_eq, Nat.reduceEqDiff, not_false_eq_true]; rw [uq_at, iJ_n]; congr 1; omega
              · unfold fnS; simp only [fI_s, fI_sn, fL_s, fL_sn, aI_w, aI_wn, aL_w, aL_wn, fI_sL, fI_wI, fI_wL, fL_sI, fL_wI, fL_wL, aI_sI, aI_sL, aI_wL, aL_sI, aL_sL, aL_wI, fR_sI, fR_sL, fR_wI, fR_wL, aN_sI, aN_sL, aN_wI, aN_wL, ne_eq, Nat.reduceEqDiff, not_false_eq_true]; rw [uq_at]; congr 1; omega
              · unfold fnS; simp only [fI_s, fI_sn, fL_s, fL_sn, aI_w, aI_wn, aL_w, aL_wn, fI_sL, fI_wI, fI_wL, fL_sI, fL_wI, fL_wL, aI_sI, aI_sL, aI_wL, aL_sI, aL_sL, aL_wI, fR_sI, fR_sL, fR_wI, fR_wL, aN_sI, aN_sL, aN_wI, aN_wL, ne_eq, Nat.reduceEqDiff, not_false_eq_true]; rw [uq_at, iJ_n]; congr 1; omega
            · obtain ⟨y1, y2, y3, y4⟩ := g2 z j (by omega)
              refine ⟨y1, ?_, ?_, ?_⟩
              · unfold fnS; simp only [fI_s, fI_sn, fL_s, fL_sn, aI_w, aI_wn, aL_w, aL_wn, fI_sL, fI_wI, fI_wL, fL_sI, fL_wI, fL_wL, aI_sI, aI_sL, aI_wL, aL_sI, aL_sL, aL_wI, fR_sI, fR_sL, fR_wI, fR_wL, aN_sI, aN_sL, aN_wI, aN_wL, ne_eq, Nat.reduceEqDiff, not_false_eq_true]; rw [uq_ne y]; exact y2
              · unfold fnS; simp only [fI_s, fI_sn, fL_s, fL_sn, aI_w, aI_wn, aL_w, aL_wn, fI_sL, fI_wI, fI_wL, fL_sI, fL_wI, fL_wL, aI_sI, aI_sL, aI_wL, aL_sI, aL_sL, aL_wI, fR_sI, fR_sL, fR_wI, fR_wL, aN_sI, aN_sL, aN_wI, aN_wL, ne_eq, Nat.reduceEqDiff, not_false_eq_true]; rw [uq_ne y]; exact y3
              · unfold fnS; simp only [fI_s, fI_sn, fL_s, fL_sn, aI_w, aI_wn, aL_w, aL_wn, fI_sL, fI_wI, fI_wL, fL_sI, fL_wI, fL_wL, aI_sI, aI_sL, aI_wL, aL_sI, aL_sL, aL_wI, fR_sI, fR_sL, fR_wI, fR_wL, aN_sI, aN_sL, aN_wI, aN_wL, ne_eq, Nat.reduceEqDiff, not_false_eq_true]; rw [uq_ne y]; exact y4
        · rw [es, p2] at ok ⊢
          intro K3 hK3
          rw [if_pos rfl]
          have kk := kf (lck (sq B rel qf fr (k + 1)) (wa B (qf k)) ml mh)
          refine fin 0 (Or.inl rfl) _ kk (by unfold fnS; simp only [fI_s, fI_sn, fL_s, fL_sn, aI_w, aI_wn, aL_w, aL_wn, fI_sL, fI_wI, fI_wL, fL_sI, fL_wI, fL_wL, aI_sI, aI_sL, aI_wL, aL_sI, aL_sL, aL_wI, fR_sI, fR_sL, fR_wI, fR_wL, aN_sI, aN_sL, aN_wI, aN_wL, ne_eq, Nat.reduceEqDiff, not_false_eq_true]; exact b1) (by unfold fnS; simp only [fI_s, fI_sn, fL_s, fL_sn, aI_w, aI_wn, aL_w, aL_wn, fI_sL, fI_wI, fI_wL, fL_sI, fL_wI, fL_wL, aI_sI, aI_sL, aI_wL, aL_sI, aL_sL, aL_wI, fR_sI, fR_sL, fR_wI, fR_wL, aN_sI, aN_sL, aN_wI, aN_wL, ne_eq, Nat.reduceEqDiff, not_false_eq_true]) (fun _ y => ?_) (fun y => absurd y (by decide)) K3 hK3
          have := y k (by omega)
          unfold okq at this
          rw [ok] at this; cases this
    have := key c 0 Sa (by omega) ka ela (fun _ => e158) (fun z => by omega) 1 (Or.inr rfl) (fun y => absurd y (by decide)) (fun _ j hj => by omega)
    rw [if_pos rfl, ← e158] at this
    exact this
  by_cases z : tq = 0
  · rw [if_pos (by rw [z]; decide)]
    exact go Sr Keep.rf (by rw [hln, if_pos z]) rfl
  · rw [if_neg (by rw [show (0 : Int64) = lN 0 from rfl, lN_leq (by omega) (by omega)]; omega)]
    refine ⟨_, h.f111, vi h.n48, ?_⟩
    rintro _ rfl
    exact go _ (Keep.rf.sL rfl) (by simp only [fI_s, fI_sn, fL_s, fL_sn, aI_w, aI_wn, aL_w, aL_wn, fI_sL, fI_wI, fI_wL, fL_sI, fL_wI, fL_wL, aI_sI, aI_sL, aI_wL, aL_sI, aL_sL, aL_wI, fR_sI, fR_sL, fR_wI, fR_wL, aN_sI, aN_sL, aN_wI, aN_wL, ne_eq, Nat.reduceEqDiff, not_false_eq_true]; rw [hln, if_neg z]; exact h48) (by simp only [fI_s, fI_sn, fL_s, fL_sn, aI_w, aI_wn, aL_w, aL_wn, fI_sL, fI_wI, fI_wL, fL_sI, fL_wI, fL_wL, aI_sI, aI_sL, aI_wL, aL_sI, aL_sL, aL_wI, fR_sI, fR_sL, fR_wI, fR_wL, aN_sI, aN_sL, aN_wI, aN_wL, ne_eq, Nat.reduceEqDiff, not_false_eq_true])
end
