theorem dX7_readText_0 : decode cX7_readText 0 = .ok (.aload_n 0, 1) := by decide +kernel
theorem dX7_readText_1 : decode cX7_readText 1 = .ok (.iconst 0, 1) := by decide +kernel
theorem dX7_readText_2 : decode cX7_readText 2 = .ok (.putfield 23, 3) := by decide +kernel
theorem dX7_readText_5 : decode cX7_readText 5 = .ok (.aload_n 0, 1) := by decide +kernel
theorem dX7_readText_6 : decode cX7_readText 6 = .ok (.iconst 0, 1) := by decide +kernel
theorem dX7_readText_7 : decode cX7_readText 7 = .ok (.putfield 27, 3) := by decide +kernel
theorem dX7_readText_10 : decode cX7_readText 10 = .ok (.aload_n 0, 1) := by decide +kernel
theorem dX7_readText_11 : decode cX7_readText 11 = .ok (.iconst 0, 1) := by decide +kernel
theorem dX7_readText_12 : decode cX7_readText 12 = .ok (.putfield 30, 3) := by decide +kernel
theorem dX7_readText_15 : decode cX7_readText 15 = .ok (.aload_n 0, 1) := by decide +kernel
theorem dX7_readText_16 : decode cX7_readText 16 = .ok (.iconst 0, 1) := by decide +kernel
theorem dX7_readText_17 : decode cX7_readText 17 = .ok (.putfield 34, 3) := by decide +kernel
theorem dX7_readText_20 : decode cX7_readText 20 = .ok (.aload_n 0, 1) := by decide +kernel
theorem dX7_readText_21 : decode cX7_readText 21 = .ok (.invokevirtual 37, 3) := by decide +kernel
theorem dX7_readText_24 : decode cX7_readText 24 = .ok (.ifCond .eq 22, 3) := by decide +kernel
theorem dX7_readText_27 : decode cX7_readText 27 = .ok (.aload_n 0, 1) := by decide +kernel
theorem dX7_readText_28 : decode cX7_readText 28 = .ok (.invokevirtual 41, 3) := by decide +kernel
theorem dX7_readText_31 : decode cX7_readText 31 = .ok (.iconst (-1), 1) := by decide +kernel
theorem dX7_readText_32 : decode cX7_readText 32 = .ok (.if_icmp .eq 10, 3) := by decide +kernel
theorem dX7_readText_35 : decode cX7_readText 35 = .ok (.aload_n 0, 1) := by decide +kernel
theorem dX7_readText_36 : decode cX7_readText 36 = .ok (.invokevirtual 45, 3) := by decide +kernel
theorem dX7_readText_39 : decode cX7_readText 39 = .ok (.ifCond .eq 7, 3) := by decide +kernel
theorem dX7_readText_42 : decode cX7_readText 42 = .ok (.iconst 1, 1) := by decide +kernel
theorem dX7_readText_43 : decode cX7_readText 43 = .ok (.goto 4, 3) := by decide +kernel
theorem dX7_readText_46 : decode cX7_readText 46 = .ok (.iconst 0, 1) := by decide +kernel
theorem dX7_readText_47 : decode cX7_readText 47 = .ok (.ireturn, 1) := by decide +kernel
abbrev rm_X7_readText : Room := { frames := 51, cells := 0, slots := 0, locals := 1524 }
def wp_X7_readText (a : Nat) (S : PS) (Q : Int32 → PS → Prop) : Prop :=
  (∀ S1, S1 = sI S 60 a 0 → (∀ S2, S2 = sI S1 61 a 0 → (∀ S3, S3 = sI S2 62 a 0 → (∀ S4, S4 = sI S3 64 a 0 → (wp_X7_music 10) a S4 (fun (r6 : Int32) (S5 : PS) => 
 (if r6 = 0 then
 Q 0 S5
 else
 wp_X7_next a S5 (fun (r8 : Int32) (S7 : PS) => 
 (if r8 = (-1) then
 Q 1 S7
 else
 wp_X7_refuse a S7 (fun (r10 : Int32) (S9 : PS) => 
 (if r10 = 0 then
 Q 0 S9
 else
 Q 1 S9))))))))))
set_option maxRecDepth 100000 in
set_option maxHeartbeats 4000000 in
theorem c_X7_readText {l : Launch} {E : EE} {A : Nat → Prop} {a : Nat} {S : PS} {Q : Int32 → PS → Prop} {adK adV : Nat → Nat} (hS : hasStr E adK adV) (r_a : Rf S a 6) (h : wp_X7_readText a S Q) : MtI l yX7_readText (.code yX7_readText cX7_readText 1 (some .boolean)) rm_X7_readText E A [.ref a] S (fun r S1 => nz r ∧ Q r S1) := by
  refine MtI.of2 (by decide) (Nat.le_of_ble_eq_true rfl) (fun X F hQ hX => ?_)
  show VV X (0, 0) S [(0, .ref a)] [] 0
  obtain ⟨hXl, hXE, hXA, hN, hnm⟩ := hX
  subst hXE
  subst hXA
  subst hXl
  unfold wp_X7_readText at h
  refine v_aload_n F dX7_readText_0 0 rfl rfl ?_
  refine v_iconst (v := 0) F dX7_readText_1 (by decide) ?_
  refine p_X7_23 F r_a h dX7_readText_2 (fun S1 h hE => ?_)
  have r_a := r_a.tr hE
  refine v_aload_n F dX7_readText_5 0 rfl rfl ?_
  refine v_iconst (v := 0) F dX7_readText_6 (by decide) ?_
  refine p_X7_27 F r_a h dX7_readText_7 (fun S2 h hE => ?_)
  have r_a := r_a.tr hE
  refine v_aload_n F dX7_readText_10 0 rfl rfl ?_
  refine v_iconst (v := 0) F dX7_readText_11 (by decide) ?_
  refine p_X7_30 F r_a rfl rfl h dX7_readText_12 (fun S3 h hE => ?_)
  have r_a := r_a.tr hE
  refine v_aload_n F dX7_readText_15 0 rfl rfl ?_
  refine v_iconst (v := 0) F dX7_readText_16 (by decide) ?_
  refine p_X7_34 F r_a h dX7_readText_17 (fun S4 h hE => ?_)
  have r_a := r_a.tr hE
  refine v_aload_n F dX7_readText_20 0 rfl rfl ?_
  refine v_cI0 (v_runV F k_X7_37 rfl ((c_X7_music 10) hS r_a h) r_a rfl rfl (Nat.le_of_ble_eq_true rfl) (by decide) (by decide) dX7_readText_21) ⟨rfl, rfl⟩ (fun r6 S5 h hE => ?_)
  obtain ⟨nz_r6, h⟩ := h
  have r_a := r_a.tr hE
  refine v_if_eq (tgt := 46) F dX7_readText_24 (by decide) h (fun h => ?_) (fun h => ?_)
  · refine v_iconst (v := 0) F dX7_readText_46 (by decide) ?_
    exact v_zret F hQ (by decide) ⟨nz0, h⟩ (by decide) dX7_readText_47
  · refine v_aload_n F dX7_readText_27 0 rfl rfl ?_
    refine v_cI0 (v_runV F k_X7_41 rfl (c_X7_next r_a h) r_a rfl rfl (Nat.le_of_ble_eq_true rfl) (by decide) (by decide) dX7_readText_28) ⟨rfl, rfl⟩ (fun r8 S7 h hE => ?_)
    have r_a := r_a.tr hE
    refine v_iconst (v := (-1)) F dX7_readText_31 (by decide) ?_
    refine v_icmp_eq (tgt := 42) F dX7_readText_32 (by decide) h (fun h => ?_) (fun h => ?_)
    · refine v_iconst (v := 1) F dX7_readText_42 (by decide) ?_
      refine v_goto (tgt := 47) F dX7_readText_43 (by decide) ?_
      exact v_zret F hQ (by decide) ⟨nz1, h⟩ (by decide) dX7_readText_47
    · refine v_aload_n F dX7_readText_35 0 rfl rfl ?_
      refine v_cI0 (v_runV F k_X7_45 rfl (c_X7_refuse r_a h) r_a rfl rfl (Nat.le_of_ble_eq_true rfl) (by decide) (by decide) dX7_readText_36) ⟨rfl, rfl⟩ (fun r10 S9 h hE => ?_)
      obtain ⟨nz_r10, h⟩ := h
      have r_a := r_a.tr hE
      refine v_if_eq (tgt := 46) F dX7_readText_39 (by decide) h (fun h => ?_) (fun h => ?_)
      · refine v_iconst (v := 0) F dX7_readText_46 (by decide) ?_
        exact v_zret F hQ (by decide) ⟨nz0, h⟩ (by decide) dX7_readText_47
      · refine v_iconst (v := 1) F dX7_readText_42 (by decide) ?_
        refine v_goto (tgt := 47) F dX7_readText_43 (by decide) ?_
        exact v_zret F hQ (by decide) ⟨nz1, h⟩ (by decide) dX7_readText_47
