/-! The reference tells: the order. -/
def RKL (a : Nat) (S18 : PS) (Q : PS → Prop) : Prop :=
  (∀ P414_19 : Int32 → PS → Prop, (∀ (x1_20 : Int32) (S21 : PS),
 (if fI S21 206 a ≤ x1_20 then
 Q S21
 else
 (∀ P426_22 : Int32 → Int32 → PS → Prop, (∀ (x2_23 : Int32) (x3_24 : Int32) (S25 : PS),
 (if fI S25 206 a ≤ x3_24 then
 (∃ b26, fR S25 201 a = some b26 ∧ (vp_in x2_23 (aN S25 b26) ∧ ∀ S27, S27 = wI S25 113 b26 (x2_23).toNatClampNeg x1_20 → (∀ v28, v28 = x1_20 + 1 → P414_19 v28 S27)))
 else
 (∃ b29, fR S25 194 a = some b29 ∧ (vp_in x3_24 (aN S25 b29) ∧ (∃ b30, fR S25 194 a = some b30 ∧ (vp_in x1_20 (aN S25 b30) ∧ (∀ K522_33 : Int32 → PS → Prop, (∀ (t31 : Int32) (S32 : PS),
 (∀ K535_37 : Int32 → Int32 → PS → Prop, (∀ (t34 : Int32) (t35 : Int32) (S36 : PS),
 (∀ v38, v38 = t34 + t35 → (∀ v39, v39 = x3_24 + 1 → P426_22 v38 v39 S36))
 → K535_37 t34 t35 S36) →
 (if t31 = 0 then
 K535_37 x2_23 0 S32
 else
 K535_37 x2_23 1 S32))
 → K522_33 t31 S32) →
 (if aL S25 106 b29 (x3_24).toNatClampNeg = aL S25 106 b30 (x1_20).toNatClampNeg then
 (∃ b40, fR S25 190 a = some b40 ∧ (vp_in x3_24 (aN S25 b40) ∧ (∃ b41, fR S25 190 a = some b41 ∧ (vp_in x1_20 (aN S25 b41) ∧ (if aI S25 102 b40 (x3_24).toNatClampNeg = aI S25 102 b41 (x1_20).toNatClampNeg then
 (if x1_20 ≤ x3_24 then
 K522_33 0 S25
 else
 K522_33 1 S25)
 else
 (∃ b42, fR S25 190 a = some b42 ∧ (vp_in x3_24 (aN S25 b42) ∧ (∃ b43, fR S25 190 a = some b43 ∧ (vp_in x1_20 (aN S25 b43) ∧ (if aI S25 102 b43 (x1_20).toNatClampNeg ≤ aI S25 102 b42 (x3_24).toNatClampNeg then
 K522_33 0 S25
 else
 K522_33 1 S25))))))))))
 else
 (∃ b44, fR S25 194 a = some b44 ∧ (vp_in x3_24 (aN S25 b44) ∧ (∃ b45, fR S25 194 a = some b45 ∧ (vp_in x1_20 (aN S25 b45) ∧ (if aL S25 106 b45 (x1_20).toNatClampNeg ≤ aL S25 106 b44 (x3_24).toNatClampNeg then
 K522_33 0 S25
 else
 K522_33 1 S25))))))))))))
 → P426_22 x2_23 x3_24 S25) → P426_22 0 0 S21))
 → P414_19 x1_20 S21) → P414_19 0 S18)
section
variable {S S1 Sr : PS} {A : Nat → Nat} {E e f : Nat} {s v : Nat → Nat}
def Rvk (S : PS) (A : Nat → Nat) (E : Nat) (s v : Nat → Nat) : Prop := ∀ e, e < E → (aL S 106 (A 106) e = lN (s e) ∧ s e < 2 ^ 63) ∧ aI S 102 (A 102) e = nI (v e) ∧ v e < 12
def r113 (r : Nat) : Bool := decide (r = 113)
theorem r_rank {Q : PS → Prop} (lm : LayM Sr A) (h206 : fI Sr 206 (A 9) = nI E) (hE : E ≤ 300) (hk : Rvk Sr A E s v) (hQ : ∀ Sr1, Keep (fun _ => false) r113 Sr Sr1 → (∀ e, e < E → aI Sr1 113 (A 113) (rk s v E e) = nI e) → Q Sr1) : RKL (A 9) Sr Q := by
  unfold RKL
  intro P hP
  have key : ∀ m i S1, i + m = E → Keep (fun _ => false) r113 Sr S1 → (∀ e, e < i → aI S1 113 (A 113) (rk s v E e) = nI e) → P (nI i) S1 := by
    intro m
    induction m with
    | zero =>
      intro i S1 hi k1 ho
      apply hP
      rw [(k1.2.1 206 rfl).1, h206, if_pos ((nI_le_iff (by omega) (by omega)).mpr (by omega))]
      have e : i = E := by omega
      rw [e] at ho
      exact hQ S1 k1 ho
    | succ m ih =>
      intro i S1 hi k1 ho
      apply hP
      have e206 : fI S1 206 (A 9) = nI E := by rw [(k1.2.1 206 rfl).1]; exact h206
      have l1 := lm.st k1.1
      have hk1 : Rvk S1 A E s v := fun q hq => by rw [(k1.2.2 106 rfl).2, (k1.2.2 102 rfl).1]; exact hk q hq
      rw [e206, if_neg (by rw [nI_le_iff (by omega) (by omega)]; omega)]
      intro P2 hP2
      have ci : (nI i).toNatClampNeg = i := nI_clamp (by omega)
      have inn : ∀ m2 x, x + m2 = E → P2 (nI (rk s v x i)) (nI x) S1 := by
        intro m2
        induction m2 with
        | zero =>
          intro x hx
          have ex : x = E := by omega
          subst ex
          apply hP2
          rw [e206, if_pos ((nI_le_iff (by omega) (by omega)).mpr (by omega))]
          have hb := rk_bs (s := s) (v := v) (i := x) (a := i) (by omega)
          refine ⟨_, l1.f201, by rw [l1.n113]; exact vp_in_nI (by omega) (by omega), ?_⟩
          rintro _ rfl _ rfl
          rw [nI_1, nI_clamp (by omega)]
          refine ih (i + 1) _ (by omega) (k1.wI rfl) (fun q hq => ?_)
          simp only [fI_s, fI_sn, fL_s, fL_sn, aI_w, aI_wn, aL_w, aL_wn, fI_sL, fI_wI, fI_wL, fL_sI, fL_wI, fL_wL, aI_sI, aI_sL, aI_wL, aL_sI, aL_sL, aL_wI, fR_sI, fR_sL, fR_wI, fR_wL, aN_sI, aN_sL, aN_wI, aN_wL, ne_eq, Nat.reduceEqDiff, not_false_eq_true]
          by_cases z : q = i
          · rw [z, uq_at]
          · rw [uq_ne (fun y => z (rk_inj y (by omega) (by omega)))]
            exact ho q (by omega)
        | succ m2 ih2 =>
          intro x hx
          apply hP2
          rw [e206, if_neg (by rw [nI_le_iff (by omega) (by omega)]; omega)]
          have cx : (nI x).toNatClampNeg = x := nI_clamp (by omega)
          have vx : ∀ {r : Nat}, r = 300 → vp_in (nI x) r := fun h => by rw [h]; exact vp_in_nI (by omega) (by omega)
          have vi : ∀ {r : Nat}, r = 300 → vp_in (nI i) r := fun h => by rw [h]; exact vp_in_nI (by omega) (by omega)
          obtain ⟨⟨s1, s2⟩, s3, s4⟩ := hk1 x (by omega)
          obtain ⟨⟨t1, t2⟩, t3, t4⟩ := hk1 i (by omega)
          refine ⟨_, l1.f194, vx l1.n106, _, l1.f194, vi l1.n106, ?_⟩
          intro K hK
          have go : ∀ t : Int32, t = (if lte s v x i = true then 1 else 0) → K t S1 := by
            intro t ht
            apply hK
            intro K2 hK2
            have st : rk s v (x + 1) i = rk s v x i + (if lte s v x i = true then 1 else 0) := rfl
            have nx := ih2 (x + 1) (by omega)
            by_cases z : lte s v x i = true
            · rw [ht, if_pos z, if_neg (by decide)]
              apply hK2
              rintro _ rfl _ rfl
              rw [nI_1, nI_1]
              rw [st, if_pos z] at nx; exact nx
            · rw [ht, if_neg z, if_pos rfl]
              apply hK2
              rintro _ rfl _ rfl
              rw [nI_1, Int32.add_zero]
              rw [st, if_neg z] at nx; exact nx
          rw [cx, ci, s1, t1]
          by_cases c1 : s x = s i
          · rw [if_pos ((lN_eqq s2 t2).mpr c1)]
            refine ⟨_, l1.f190, vx l1.n102, _, l1.f190, vi l1.n102, ?_⟩
            try rw [cx, ci]
            rw [s3, t3]
            by_cases c2 : v x = v i
            · rw [if_pos ((nI_eq (by omega) (by omega)).mpr c2)]
              by_cases c3 : i ≤ x
              · rw [if_pos ((nI_le_iff (by omega) (by omega)).mpr c3)]
                exact go 0 (by rw [if_neg (by rw [lte_t]; omega)])
              · rw [if_neg (fun q => c3 ((nI_le_iff (by omega) (by omega)).mp q))]
                exact go 1 (by rw [if_pos (by rw [lte_t]; omega)])
            · rw [if_neg (fun q => c2 ((nI_eq (by omega) (by omega)).mp q))]
              refine ⟨_, l1.f190, vx l1.n102, _, l1.f190, vi l1.n102, ?_⟩
              try rw [cx, ci]
              rw [s3, t3]
              by_cases c3 : v i ≤ v x
              · rw [if_pos ((nI_le_iff (by omega) (by omega)).mpr c3)]
                exact go 0 (by rw [if_neg (by rw [lte_t]; omega)])
              · rw [if_neg (fun q => c3 ((nI_le_iff (by omega) (by omega)).mp q))]
                exact go 1 (by rw [if_pos (by rw [lte_t]; omega)])
          · rw [if_neg (fun q => c1 ((lN_eqq s2 t2).mp q))]
            refine ⟨_, l1.f194, vx l1.n106, _, l1.f194, vi l1.n106, ?_⟩
            try rw [cx, ci]
            rw [s1, t1]
            by_cases c3 : s i ≤ s x
            · rw [if_pos ((lN_leq t2 s2).mpr c3)]
              exact go 0 (by rw [if_neg (by rw [lte_t]; omega)])
            · rw [if_neg (fun q => c3 ((lN_leq t2 s2).mp q))]
              exact go 1 (by rw [if_pos (by rw [lte_t]; omega)])
      exact inn E 0 (by omega)
  exact key E 0 Sr (by omega) Keep.rf (fun q hq => by omega)
/-- both orders are one -/
theorem ord_eq {Sr : PS} (h : Srt S A s v E) (g : ∀ e, e < E → aI Sr 113 (A 113) (rk s v E e) = nI e) : ∀ p, p < E → aI Sr 113 (A 113) p = aI S 35 (A 35) p := by
  intro p hp
  obtain ⟨e, e1, e2, e3⟩ := h p hp
  have := g e e1
  rw [e3] at this
  rw [this, e2]
end
