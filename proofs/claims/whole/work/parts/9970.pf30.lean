/-! Performing: the class's loop as a whole. -/
section
variable {S0 Si : PS} {A : Nat → Nat} {B : Nat → Int32} {n N nd pc : Nat} {bh par ks lv : Nat → Nat}
variable {Q : Int32 → PS → Prop} {P : Int32 → Nat × Nat → PS → Prop} {Di Ei Vi Mi : Nat} {Xi Yi Ci Hi Fi : Nat → Nat}
theorem s_frameNo {S : PS} {Q : Option Nat → PS → Prop} (hQ : Q none S) : wp_X3_frameAt (A 3) (-1) S Q := by
  unfold wp_X3_frameAt
  rw [if_pos (by decide)]; exact hQ
set_option maxHeartbeats 4000000 in
theorem p_loop (sc : StC S0 A B n pc N nd bh par ks lv) (cl : ClL A Q P)
    (hfin : ∀ {S : PS} {m st E V M t ln : Nat} {lp : Int} {X Y C H F VF TB : Nat → Nat}, CPf S S0 A B n N nd bh par ks lv 1 m st E V M t ln lp X Y C H F VF TB → C 0 = bn N bh (Y 0) → GoT S0 A B n N nd bh par ks Si Di Ei Vi Mi Xi Yi Ci Hi Fi S 1 E V M X Y C H F → wp_X3_finish (A 3) (sI S 24 (A 3) 0) Q)
    (hF : ∀ {S2 : PS} {m : Nat} {F : Nat → Nat} {e : Nat × Nat}, CBad S0 S2 A m F e → GoTF S0 A B n N nd bh par ks Si Di Ei Vi Mi Xi Yi Ci Hi Fi e → Q 0 S2) :
    ∀ f, ∀ {T : Nat} {k : Nat × Nat} {S : PS} {D m st E V M t ln : Nat} {lp : Int} {X Y C H F VF TB : Nat → Nat}, 7000 ≤ T + f → T + D ≤ 2 * st + V → (201 ≤ k.1 + m ∧ 3015 ≤ k.2 + 15 * m) → CPf S S0 A B n N nd bh par ks lv D m st E V M t ln lp X Y C H F VF TB → Y10 ks X Y D → GoT S0 A B n N nd bh par ks Si Di Ei Vi Mi Xi Yi Ci Hi Fi S D E V M X Y C H F → P (nI T) k S := by
  intro f
  induction f with
  | zero =>
    intro T k S D m st E V M t ln lp X Y C H F VF TB hf ht hb h hy hg
    exfalso
    have := h.2.2.2.1.2.1.2
    have := h.2.2.2.2.2.2.2.2.1.2.2.2.2
    omega
  | succ f ih =>
    intro T k S D m st E V M t ln lp X Y C H F VF TB hf ht hb h hy hg
    have h' := h
    obtain ⟨a1, a2, ⟨a3, a4⟩, a5, a6, a7, a8, a9, a10⟩ := h
    have st3 := a5.2.1.2
    have V12 := a10.1.2.2.2.2
    have hT : T < 12000 := by omega
    have f0 := a6 (D - 1) (by omega)
    have d1 := a4.2.2.2.1
    have d2 := a4.2.2.2.2
    have one : ∀ {K : Nat × Nat → PS → Prop} {k' : Nat × Nat} {S2 : PS}, K k' S2 → (if (1 : Int32) = 0 then Q 0 S2 else K k' S2) := fun z => by rw [if_neg (by decide)]; exact z
    have zer : ∀ {K : Nat × Nat → PS → Prop} {k' : Nat × Nat} {S2 : PS}, Q 0 S2 → (if (0 : Int32) = 0 then Q 0 S2 else K k' S2) := fun z => by rw [if_pos rfl]; exact z
    obtain ⟨c1, c2, c3, c4⟩ := a7 (D - 1) (by omega)
    clear c4
    by_cases hc : C (D - 1) < bn N bh (Y (D - 1))
    · have px := f0.2.2.1 hc
      have tr := sc.2.2.2.2.1
      have hN : bn N bh (Y (D - 1)) ≤ N := by
        unfold bn; split
        · exact Nat.le_refl N
        · exact (tr.1 _ (by omega) f0.1).2.2.2
      have hx : Itm N par Y D (C (D - 1) + 1) := ⟨by omega, by omega, px⟩
      have h11 := hy.no sc h' hx
      obtain ⟨R00, T0, wr0, sy0, g0, ow0, r0⟩ := sc.rsr
      obtain ⟨pl, pl1, pl2, _, ah⟩ := r0.pl hx.1 hx.2.1 h11
      have hn := sc.2.2.1.2.2.2.1
      have k10 : ks (C (D - 1) + 1) ≤ 10 := by rw [ah]; exact kof_le
      obtain ⟨l1, l2, l3, l4⟩ := lv_item sc h' hx
      refine lb_item sc h' cl hT hc (fun hs K hK => ?_) (fun hs => ?_)
      · obtain ⟨cpi, _⟩ := CPf.item sc h' hc hs
        have kb : ∀ m1, m1 = (if D < m then m else m + 1) → 201 ≤ (k.1 - (kq D m).1) + m1 ∧ 3015 ≤ (k.2 - (kq D m).2) + 15 * m1 := by
          intro m1 em
          rw [em]
          unfold kq
          by_cases e : D < m
          · rw [if_pos e, if_pos e]; exact ⟨by show 201 ≤ k.1 - 0 + m; omega, by show 3015 ≤ k.2 - 0 + 15 * m; omega⟩
          · rw [if_neg e, if_neg e]; exact ⟨by show 201 ≤ k.1 - 1 + (m + 1); omega, by show 3015 ≤ k.2 - 15 + 15 * (m + 1); omega⟩
        have kle : D < 201 → (kq D m).1 ≤ k.1 ∧ (kq D m).2 ≤ k.2 := by
          intro hd
          unfold kq
          by_cases e : D < m
          · rw [if_pos e]; exact ⟨Nat.zero_le _, Nat.zero_le _⟩
          · rw [if_neg e]; exact ⟨by show 1 ≤ k.1; omega, by show 15 ≤ k.2; omega⟩
        have z0 : ((0, 0) : Nat × Nat).1 ≤ k.1 ∧ ((0, 0) : Nat × Nat).2 ≤ k.2 := ⟨Nat.zero_le _, Nat.zero_le _⟩
        rcases (by omega : ks (C (D - 1) + 1) = 0 ∨ ks (C (D - 1) + 1) = 1 ∨ ks (C (D - 1) + 1) = 2 ∨ ks (C (D - 1) + 1) = 3 ∨ ks (C (D - 1) + 1) = 4 ∨ ks (C (D - 1) + 1) = 5 ∨ ks (C (D - 1) + 1) = 6 ∨ ks (C (D - 1) + 1) = 7 ∨ ks (C (D - 1) + 1) = 8 ∨ ks (C (D - 1) + 1) = 9 ∨ ks (C (D - 1) + 1) = 10) with hk | hk | hk | hk | hk | hk | hk | hk | hk | hk | hk
        · exact ⟨(0, 0), z0, k_note sc cpi hx hk (by omega) (by rw [Nat.add_sub_cancel]; exact a5.2.2.2.2.2.1.2) (fun S2 t' ln' lp' cp gb => one (hK _ _ (ih (T := T + 1) (by omega) (by omega) hb cp hy (hg.tr (GoT.item h' hc hx h11 hs gb))))) (fun S2 e cb gf => zer (hF cb (hg.f (GoTF.item h' hc hx h11 cb.1 hs gf))))⟩
        · exact ⟨(0, 0), z0, k_bar sc cpi hx hk (fun gb => one (hK _ _ (ih (T := T + 1) (by omega) (by omega) hb cpi hy (hg.tr (GoT.item h' hc hx h11 hs gb))))) (fun S2 e cb gf => zer (hF cb (hg.f (GoTF.item h' hc hx h11 cb.1 hs gf))))⟩
        · exact ⟨(0, 0), z0, k_mtr sc cpi hx hk (fun S2 M1 cp gb => one (hK _ _ (ih (T := T + 1) (by omega) (by omega) hb cp hy (hg.tr (GoT.item h' hc hx h11 hs gb))))) (fun S2 e cb gf => zer (hF cb (hg.f (GoTF.item h' hc hx h11 cb.1 hs gf))))⟩
        · have lx := l4 (by omega) (by omega)
          exact ⟨kq D m, kle (by omega), k_lean sc cpi hx hk (fun S2 m1 F1 em cp gb => one (hK _ _ (ih (T := T + 1) (by omega) (by omega) (kb m1 em) cp (hy.ps (fun z => by omega)) (hg.tr (GoT.item h' hc hx h11 hs gb)))))⟩
        · have lx := l4 (by omega) (by omega)
          refine ⟨kq D m, kle (by omega), k_rounds sc cpi hx hk (fun S2 m1 F1 em q1 q2 q3 q4 he => one (hK _ _ (lb_end (D := D + 1) (m := m1) (F := F1) cl (by omega) q1 q2 q3 (by omega) (by rw [Nat.add_sub_cancel, q4]; exact Int32.le_refl _) (fun K2 hK2 => ?_))))⟩
          rw [Nat.add_sub_cancel]
          exact he _ (fun S3 cp gb => one (hK2 _ _ (ih (T := T + 1 + 1) (by omega) (by omega) (kb m1 em) cp hy (hg.tr (GoT.item h' hc hx h11 hs gb))))) (fun hs2 S3 cp gb => one (hK2 _ _ (ih (T := T + 1 + 1) (by omega) (by omega) (kb m1 em) cp (hy.ps (fun z => by omega)) (hg.tr (GoT.item h' hc hx h11 hs gb))))) (fun hs2 S3 q cb gf => zer (hF cb (hg.f (GoTF.item h' hc hx h11 cb.1 hs gf))))
        · have lx := l4 (by omega) (by omega)
          exact ⟨kq D m, kle (by omega), k_tuplet sc cpi hx hk (fun S2 m1 F1 em cp gb => one (hK _ _ (ih (T := T + 1) (by omega) (by omega) (kb m1 em) cp (hy.ps (fun z => by omega)) (hg.tr (GoT.item h' hc hx h11 hs gb))))) (fun _ q S2 cb gf => zer (hF cb (hg.f (GoTF.item h' hc hx h11 cb.1 hs gf))))⟩
        · have lx := l4 (by omega) (by omega)
          exact ⟨kq D m, kle (by omega), k_move sc cpi hx hk (fun S2 m1 F1 em cp gb => one (hK _ _ (ih (T := T + 1) (by omega) (by omega) (kb m1 em) cp (hy.ps (fun z => by omega)) (hg.tr (GoT.item h' hc hx h11 hs gb)))))⟩
        · have lx := l4 (by omega) (by omega)
          exact ⟨kq D m, kle (by omega), k_vcs sc cpi hx hk (fun S2 m1 F1 em cp gb => one (hK _ _ (ih (T := T + 1) (by omega) (by omega) (kb m1 em) cp (hy.ps (fun z => by omega)) (hg.tr (GoT.item h' hc hx h11 hs gb)))))⟩
        · exact ⟨(0, 0), z0, k_wrd sc cpi hx hk (fun S2 cp gb => one (hK _ _ (ih (T := T + 1) (by omega) (by omega) hb cp hy (hg.tr (GoT.item h' hc hx h11 hs gb))))) (fun S2 e cb gf => zer (hF cb (hg.f (GoTF.item h' hc hx h11 cb.1 hs gf))))⟩
        · exact ⟨(0, 0), z0, k_named sc cpi hx hk (fun gb => one (hK _ _ (ih (T := T + 1) (by omega) (by omega) hb cpi hy (hg.tr (GoT.item h' hc hx h11 hs gb)))))⟩
        · by_cases u : cp (pk ks 10) X (D - 1) < 24
          · exact ⟨kq D m, kle (by omega), kk_use sc cpi hx hk (fun _ => rfl) (fun S2 m1 F1 y h2 em yy cp gb => one (hK _ _ (ih (T := T + 1) (by omega) (by omega) (kb m1 em) cp (hy.ps (fun _ => yy)) (hg.tr (GoT.item h' hc hx h11 hs gb))))) (fun q S2 cb gf => zer (hF cb (hg.f (GoTF.item h' hc hx h11 cb.1 hs gf))))⟩
          · refine ⟨(0, 0), z0, kk_use sc cpi hx hk (fun z => absurd z u) (fun S2 m1 F1 y h2 em yy cp gb => ?_) (fun q S2 cb gf => zer (hF cb (hg.f (GoTF.item h' hc hx h11 cb.1 hs gf))))⟩
            exfalso
            have z := cp.2.2.2.1.2.2.2.2.2.2.2.2.2.2.2.2.1.2
            rw [Nat.add_sub_cancel, cp_pu a3, pk_t hk, if_pos rfl] at z
            omega
      · have wk : PW A S0 (F (D - 1)) ∨ F (D - 1) ∉ pL S0 := PW.fr a1.1 (a4.1 (D - 1) (by omega)).2
        have pl3 := pl2
        rw [Nat.add_sub_cancel] at pl3
        rw [pl3]
        exact hF (e := (5, pl)) (CBad.mk (S := sI S 3 (F (D - 1)) (nI (bh (C (D - 1) + 1)))) (kdm (by decide) (by decide)) (a1.sI wk) (a2.st rfl) (a4.st rfl)) (hg.f (GoTF.step h' hc hx h11 hs pl2 (by omega)))
    · have hce : C (D - 1) = bn N bh (Y (D - 1)) := by have := f0.2.1; omega
      have hcl : fI S 4 (F (D - 1)) ≤ fI S 3 (F (D - 1)) := by rw [c2, c3, hce]; exact Int32.le_refl _
      refine lb_end cl hT a2 a4 a5.1 a3 hcl (fun K hK => ?_)
      by_cases D2 : 2 ≤ D
      · obtain ⟨q1, q2, q3, q4⟩ := f0.2.2.2.2.2.1 (by omega)
        rcases (by rcases q4 with ⟨w, _⟩ | ⟨w, _⟩ | w <;> omega : ks (X (D - 1)) = 3 ∨ ks (X (D - 1)) = 4 ∨ ks (X (D - 1)) = 5 ∨ ks (X (D - 1)) = 6 ∨ ks (X (D - 1)) = 7 ∨ ks (X (D - 1)) = 10) with hk | hk | hk | hk | hk | hk
        · exact e_lean sc h' D2 hk (fun S2 lp' cp gl => one (hK _ _ (ih (T := T + 1) (by omega) (by omega) hb cp hy.pp (hg.tr (GoT.leave h' D2 hce gl)))))
        · exact e_rounds sc h' D2 hk (fun S2 cp gl => one (hK _ _ (ih (T := T + 1) (by omega) (by omega) hb cp hy.pp (hg.tr (GoT.leave h' D2 hce gl))))) (fun hs S2 cp gl => one (hK _ _ (ih (T := T + 1) (by omega) (by omega) hb cp hy (hg.tr (GoT.leave h' D2 hce gl))))) (fun hs S2 q cb gf => zer (hF cb (hg.f (GoTF.leave h' D2 hce cb.1 gf))))
        · exact e_tuplet sc h' D2 hk (fun S2 lp' cp gl => one (hK _ _ (ih (T := T + 1) (by omega) (by omega) hb cp hy.pp (hg.tr (GoT.leave h' D2 hce gl)))))
        · exact e_move sc h' D2 hk (fun S2 lp' cp gl => one (hK _ _ (ih (T := T + 1) (by omega) (by omega) hb cp hy.pp (hg.tr (GoT.leave h' D2 hce gl)))))
        · exact e_vcs sc h' D2 hk (fun hV S2 t' ln' lp' y cp gl => one (hK _ _ (ih (T := T + 1) (by omega) (by omega) hb cp (hy.nx hk) (hg.tr (GoT.leave h' D2 hce gl))))) (fun S2 E' t' ln' lp' cp gl => one (hK _ _ (ih (T := T + 1) (by omega) (by omega) hb cp hy.pp (hg.tr (GoT.leave h' D2 hce gl))))) (fun S2 e cb gf => zer (hF cb (hg.f (GoTF.leave h' D2 hce cb.1 gf))))
        · exact e_use sc h' D2 hk (fun S2 lp' cp gl => one (hK _ _ (ih (T := T + 1) (by omega) (by omega) hb cp hy.pp (hg.tr (GoT.leave h' D2 hce gl)))))
      · have e1 : D = 1 := by omega
        subst e1
        have x0 := (f0.2.2.2.2.1 rfl).1
        have c1' : fI S 2 (F (1 - 1)) = -1 := by rw [c1]; show hz (X 0) = -1; rw [x0]; rfl
        unfold wp_X3_end
        rw [c1']
        refine ⟨_, a2.1, s_kindOf_no ?_⟩
        intro K194 hK194
        rw [if_neg (by decide), if_neg (by decide), if_neg (by decide), if_neg (by decide), if_neg (by decide), if_neg (by decide)]
        apply hK194
        rintro _ rfl
        refine one (hK _ _ ?_)
        have e24 : fI S 24 (A 3) - 1 = 0 := by rw [a5.1]; rfl
        rw [e24]
        apply cl
        unfold LB
        rw [if_neg (nI_n12 (by omega))]
        have e25 : fI (sI S 24 (A 3) 0) 24 (A 3) - 1 = -1 := by simp only [fI_s, fI_sn, fL_s, fL_sn, aI_w, aI_wn, aL_w, aL_wn, fI_sL, fI_wI, fI_wL, fL_sI, fL_wI, fL_wL, aI_sI, aI_sL, aI_wL, aL_sI, aL_sL, aL_wI, fR_sI, fR_sL, fR_wI, fR_wL, aN_sI, aN_sL, aN_wI, aN_wL, ne_eq, Nat.reduceEqDiff, not_false_eq_true]; rfl
        rw [e25]
        refine s_frameNo ⟨fun _ => ?_, fun b hb => (by cases hb)⟩
        exact hfin h' hce hg
end
