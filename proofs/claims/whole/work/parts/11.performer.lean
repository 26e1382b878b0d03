theorem dX3_reset_0 : decode cX3_reset 0 = .ok (.aload_n 0, 1) := by decide +kernel
theorem dX3_reset_1 : decode cX3_reset 1 = .ok (.iconst 0, 1) := by decide +kernel
theorem dX3_reset_2 : decode cX3_reset 2 = .ok (.putfield 48, 3) := by decide +kernel
theorem dX3_reset_5 : decode cX3_reset 5 = .ok (.aload_n 0, 1) := by decide +kernel
theorem dX3_reset_6 : decode cX3_reset 6 = .ok (.iconst 0, 1) := by decide +kernel
theorem dX3_reset_7 : decode cX3_reset 7 = .ok (.putfield 80, 3) := by decide +kernel
theorem dX3_reset_10 : decode cX3_reset 10 = .ok (.aload_n 0, 1) := by decide +kernel
theorem dX3_reset_11 : decode cX3_reset 11 = .ok (.iconst 0, 1) := by decide +kernel
theorem dX3_reset_12 : decode cX3_reset 12 = .ok (.putfield 83, 3) := by decide +kernel
theorem dX3_reset_15 : decode cX3_reset 15 = .ok (.aload_n 0, 1) := by decide +kernel
theorem dX3_reset_16 : decode cX3_reset 16 = .ok (.lconst 0, 1) := by decide +kernel
theorem dX3_reset_17 : decode cX3_reset 17 = .ok (.putfield 86, 3) := by decide +kernel
theorem dX3_reset_20 : decode cX3_reset 20 = .ok (.aload_n 0, 1) := by decide +kernel
theorem dX3_reset_21 : decode cX3_reset 21 = .ok (.ldc2_w 90, 3) := by decide +kernel
theorem dX3_reset_24 : decode cX3_reset 24 = .ok (.putfield 92, 3) := by decide +kernel
theorem dX3_reset_27 : decode cX3_reset 27 = .ok (.aload_n 0, 1) := by decide +kernel
theorem dX3_reset_28 : decode cX3_reset 28 = .ok (.bipush 28, 2) := by decide +kernel
theorem dX3_reset_30 : decode cX3_reset 30 = .ok (.putfield 95, 3) := by decide +kernel
theorem dX3_reset_33 : decode cX3_reset 33 = .ok (.aload_n 0, 1) := by decide +kernel
theorem dX3_reset_34 : decode cX3_reset 34 = .ok (.iconst 0, 1) := by decide +kernel
theorem dX3_reset_35 : decode cX3_reset 35 = .ok (.putfield 98, 3) := by decide +kernel
theorem dX3_reset_38 : decode cX3_reset 38 = .ok (.aload_n 0, 1) := by decide +kernel
theorem dX3_reset_39 : decode cX3_reset 39 = .ok (.iconst 0, 1) := by decide +kernel
theorem dX3_reset_40 : decode cX3_reset 40 = .ok (.putfield 101, 3) := by decide +kernel
theorem dX3_reset_43 : decode cX3_reset 43 = .ok (.aload_n 0, 1) := by decide +kernel
theorem dX3_reset_44 : decode cX3_reset 44 = .ok (.lconst 1, 1) := by decide +kernel
theorem dX3_reset_45 : decode cX3_reset 45 = .ok (.putfield 104, 3) := by decide +kernel
theorem dX3_reset_48 : decode cX3_reset 48 = .ok (.aload_n 0, 1) := by decide +kernel
theorem dX3_reset_49 : decode cX3_reset 49 = .ok (.lconst 1, 1) := by decide +kernel
theorem dX3_reset_50 : decode cX3_reset 50 = .ok (.putfield 107, 3) := by decide +kernel
theorem dX3_reset_53 : decode cX3_reset 53 = .ok (.aload_n 0, 1) := by decide +kernel
theorem dX3_reset_54 : decode cX3_reset 54 = .ok (.iconst 0, 1) := by decide +kernel
theorem dX3_reset_55 : decode cX3_reset 55 = .ok (.putfield 110, 3) := by decide +kernel
theorem dX3_reset_58 : decode cX3_reset 58 = .ok (.aload_n 0, 1) := by decide +kernel
theorem dX3_reset_59 : decode cX3_reset 59 = .ok (.iconst 0, 1) := by decide +kernel
theorem dX3_reset_60 : decode cX3_reset 60 = .ok (.putfield 113, 3) := by decide +kernel
theorem dX3_reset_63 : decode cX3_reset 63 = .ok (.aload_n 0, 1) := by decide +kernel
theorem dX3_reset_64 : decode cX3_reset 64 = .ok (.iconst 0, 1) := by decide +kernel
theorem dX3_reset_65 : decode cX3_reset 65 = .ok (.putfield 116, 3) := by decide +kernel
theorem dX3_reset_68 : decode cX3_reset 68 = .ok (.aload_n 0, 1) := by decide +kernel
theorem dX3_reset_69 : decode cX3_reset 69 = .ok (.iconst 0, 1) := by decide +kernel
theorem dX3_reset_70 : decode cX3_reset 70 = .ok (.putfield 119, 3) := by decide +kernel
theorem dX3_reset_73 : decode cX3_reset 73 = .ok (.aload_n 0, 1) := by decide +kernel
theorem dX3_reset_74 : decode cX3_reset 74 = .ok (.iconst (-1), 1) := by decide +kernel
theorem dX3_reset_75 : decode cX3_reset 75 = .ok (.putfield 122, 3) := by decide +kernel
theorem dX3_reset_78 : decode cX3_reset 78 = .ok (.return_, 1) := by decide +kernel
abbrev rm_X3_reset : Room := { frames := 0, cells := 0, slots := 0, locals := 0 }
def wp_X3_reset (a : Nat) (S : PS) (Q : PS → Prop) : Prop :=
  (∀ S1, S1 = sI S 24 a 0 → (∀ S2, S2 = sI S1 26 a 0 → (∀ S3, S3 = sI S2 27 a 0 → (∀ S4, S4 = sL S3 28 a 0 → (∀ S5, S5 = sL S4 29 a 967680 → (∀ S6, S6 = sI S5 30 a 28 → (∀ S7, S7 = sI S6 31 a 0 → (∀ S8, S8 = sI S7 32 a 0 → (∀ S9, S9 = sL S8 33 a 1 → (∀ S10, S10 = sL S9 34 a 1 → (∀ S11, S11 = sI S10 35 a 0 → (∀ S12, S12 = sI S11 36 a 0 → (∀ S13, S13 = sI S12 37 a 0 → (∀ S14, S14 = sI S13 38 a 0 → (∀ S15, S15 = sI S14 39 a (-1) → Q S15)))))))))))))))
set_option maxRecDepth 100000 in
set_option maxHeartbeats 4000000 in
theorem c_X3_reset {l : Launch} {E : EE} {A : Nat → Prop} {a : Nat} {S : PS} {Q : PS → Prop} (r_a : Rf S a 3) (h : wp_X3_reset a S Q) : MtV l yX3_reset (.code yX3_reset cX3_reset 1 none) rm_X3_reset E A [.ref a] S Q := by
  refine MtV.of (by decide) (Nat.le_of_ble_eq_true rfl) (fun X F hQ hN => ?_)
  show VV X (0, 0) S [(0, .ref a)] [] 0
  unfold wp_X3_reset at h
  refine v_aload_n F dX3_reset_0 0 rfl rfl ?_
  refine v_iconst (v := 0) F dX3_reset_1 (by decide) ?_
  refine p_X3_48 F r_a h dX3_reset_2 (fun S1 h hE => ?_)
  have r_a := r_a.tr hE
  refine v_aload_n F dX3_reset_5 0 rfl rfl ?_
  refine v_iconst (v := 0) F dX3_reset_6 (by decide) ?_
  refine p_X3_80 F r_a h dX3_reset_7 (fun S2 h hE => ?_)
  have r_a := r_a.tr hE
  refine v_aload_n F dX3_reset_10 0 rfl rfl ?_
  refine v_iconst (v := 0) F dX3_reset_11 (by decide) ?_
  refine p_X3_83 F r_a h dX3_reset_12 (fun S3 h hE => ?_)
  have r_a := r_a.tr hE
  refine v_aload_n F dX3_reset_15 0 rfl rfl ?_
  refine v_lconst (v := 0) F dX3_reset_16 (by decide) ?_
  refine p_X3_86 F r_a h dX3_reset_17 (fun S4 h hE => ?_)
  have r_a := r_a.tr hE
  refine v_aload_n F dX3_reset_20 0 rfl rfl ?_
  refine v_ldc2 F kc_X3_90 dX3_reset_21 ?_
  refine p_X3_92 F r_a h dX3_reset_24 (fun S5 h hE => ?_)
  have r_a := r_a.tr hE
  refine v_aload_n F dX3_reset_27 0 rfl rfl ?_
  refine v_bipush (v := 28) F dX3_reset_28 (by decide) ?_
  refine p_X3_95 F r_a h dX3_reset_30 (fun S6 h hE => ?_)
  have r_a := r_a.tr hE
  refine v_aload_n F dX3_reset_33 0 rfl rfl ?_
  refine v_iconst (v := 0) F dX3_reset_34 (by decide) ?_
  refine p_X3_98 F r_a h dX3_reset_35 (fun S7 h hE => ?_)
  have r_a := r_a.tr hE
  refine v_aload_n F dX3_reset_38 0 rfl rfl ?_
  refine v_iconst (v := 0) F dX3_reset_39 (by decide) ?_
  refine p_X3_101 F r_a h dX3_reset_40 (fun S8 h hE => ?_)
  have r_a := r_a.tr hE
  refine v_aload_n F dX3_reset_43 0 rfl rfl ?_
  refine v_lconst (v := 1) F dX3_reset_44 (by decide) ?_
  refine p_X3_104 F r_a h dX3_reset_45 (fun S9 h hE => ?_)
  have r_a := r_a.tr hE
  refine v_aload_n F dX3_reset_48 0 rfl rfl ?_
  refine v_lconst (v := 1) F dX3_reset_49 (by decide) ?_
  refine p_X3_107 F r_a h dX3_reset_50 (fun S10 h hE => ?_)
  have r_a := r_a.tr hE
  refine v_aload_n F dX3_reset_53 0 rfl rfl ?_
  refine v_iconst (v := 0) F dX3_reset_54 (by decide) ?_
  refine p_X3_110 F r_a h dX3_reset_55 (fun S11 h hE => ?_)
  have r_a := r_a.tr hE
  refine v_aload_n F dX3_reset_58 0 rfl rfl ?_
  refine v_iconst (v := 0) F dX3_reset_59 (by decide) ?_
  refine p_X3_113 F r_a h dX3_reset_60 (fun S12 h hE => ?_)
  have r_a := r_a.tr hE
  refine v_aload_n F dX3_reset_63 0 rfl rfl ?_
  refine v_iconst (v := 0) F dX3_reset_64 (by decide) ?_
  refine p_X3_116 F r_a h dX3_reset_65 (fun S13 h hE => ?_)
  have r_a := r_a.tr hE
  refine v_aload_n F dX3_reset_68 0 rfl rfl ?_
  refine v_iconst (v := 0) F dX3_reset_69 (by decide) ?_
  refine p_X3_119 F r_a h dX3_reset_70 (fun S14 h hE => ?_)
  have r_a := r_a.tr hE
  refine v_aload_n F dX3_reset_73 0 rfl rfl ?_
  refine v_iconst (v := (-1)) F dX3_reset_74 (by decide) ?_
  refine p_X3_122 F r_a h dX3_reset_75 (fun S15 h hE => ?_)
  have r_a := r_a.tr hE
  exact v_vret F hQ h (by decide) dX3_reset_78
theorem dX3_endVoice_0 : decode cX3_endVoice 0 = .ok (.aload_n 0, 1) := by decide +kernel
theorem dX3_endVoice_1 : decode cX3_endVoice 1 = .ok (.getfield 25, 3) := by decide +kernel
theorem dX3_endVoice_4 : decode cX3_endVoice 4 = .ok (.aload_n 0, 1) := by decide +kernel
theorem dX3_endVoice_5 : decode cX3_endVoice 5 = .ok (.getfield 83, 3) := by decide +kernel
theorem dX3_endVoice_8 : decode cX3_endVoice 8 = .ok (.invokevirtual 247, 3) := by decide +kernel
theorem dX3_endVoice_11 : decode cX3_endVoice 11 = .ok (.istore_n 1, 1) := by decide +kernel
theorem dX3_endVoice_12 : decode cX3_endVoice 12 = .ok (.iload_n 1, 1) := by decide +kernel
theorem dX3_endVoice_13 : decode cX3_endVoice 13 = .ok (.iconst (-1), 1) := by decide +kernel
theorem dX3_endVoice_14 : decode cX3_endVoice 14 = .ok (.if_icmp .eq 16, 3) := by decide +kernel
theorem dX3_endVoice_17 : decode cX3_endVoice 17 = .ok (.aload_n 0, 1) := by decide +kernel
theorem dX3_endVoice_18 : decode cX3_endVoice 18 = .ok (.getfield 15, 3) := by decide +kernel
theorem dX3_endVoice_21 : decode cX3_endVoice 21 = .ok (.bipush 6, 2) := by decide +kernel
theorem dX3_endVoice_23 : decode cX3_endVoice 23 = .ok (.iload_n 1, 1) := by decide +kernel
theorem dX3_endVoice_24 : decode cX3_endVoice 24 = .ok (.invokevirtual 42, 3) := by decide +kernel
theorem dX3_endVoice_27 : decode cX3_endVoice 27 = .ok (.ifCond .eq 7, 3) := by decide +kernel
theorem dX3_endVoice_30 : decode cX3_endVoice 30 = .ok (.iconst 1, 1) := by decide +kernel
theorem dX3_endVoice_31 : decode cX3_endVoice 31 = .ok (.goto 4, 3) := by decide +kernel
theorem dX3_endVoice_34 : decode cX3_endVoice 34 = .ok (.iconst 0, 1) := by decide +kernel
theorem dX3_endVoice_35 : decode cX3_endVoice 35 = .ok (.ireturn, 1) := by decide +kernel
abbrev rm_X3_endVoice : Room := { frames := 2, cells := 0, slots := 0, locals := 42 }
def wp_X3_endVoice (a : Nat) (S : PS) (Q : Int32 → PS → Prop) : Prop :=
  (∃ b1, fR S 25 a = some b1 ∧ wp_X8_tiePlace b1 (fI S 27 a) S (fun (r3 : Int32) (S2 : PS) => 
 (if r3 = (-1) then
 Q 1 S2
 else
 (∃ b4, fR S2 22 a = some b4 ∧ wp_X0_tell b4 6 r3 S2 (fun (r6 : Int32) (S5 : PS) => 
 (if r6 = 0 then
 Q 0 S5
 else
 Q 1 S5))))))
set_option maxRecDepth 100000 in
set_option maxHeartbeats 4000000 in
theorem c_X3_endVoice {l : Launch} {E : EE} {A : Nat → Prop} {a : Nat} {S : PS} {Q : Int32 → PS → Prop} (r_a : Rf S a 3) (h : wp_X3_endVoice a S Q) : MtI l yX3_endVoice (.code yX3_endVoice cX3_endVoice 2 (some .boolean)) rm_X3_endVoice E A [.ref a] S (fun r S1 => nz r ∧ Q r S1) := by
  refine MtI.of (by decide) (Nat.le_of_ble_eq_true rfl) (fun X F hQ hN => ?_)
  show VV X (0, 0) S [(0, .ref a)] [] 0
  unfold wp_X3_endVoice at h
  refine v_aload_n F dX3_endVoice_0 0 rfl rfl ?_
  refine g_X3_25 F r_a h dX3_endVoice_1 (fun b1 r_b1 h => ?_)
  refine v_aload_n F dX3_endVoice_4 0 rfl rfl ?_
  refine g_X3_83 F r_a dX3_endVoice_5 ?_
  refine v_cI0 (v_runV F k_X3_247 rfl (c_X8_tiePlace r_b1 h) r_b1 rfl rfl (Nat.le_of_ble_eq_true rfl) (by decide) (by decide) dX3_endVoice_8) ⟨rfl, rfl⟩ (fun r3 S2 h hE => ?_)
  have r_a := r_a.tr hE
  refine v_istore_n (lv1 := [(1, .int r3), (0, .ref a)]) F dX3_endVoice_11 rfl (by rw [hN]; decide) rfl ?_
  refine v_iload_n F dX3_endVoice_12 0 rfl rfl ?_
  refine v_iconst (v := (-1)) F dX3_endVoice_13 (by decide) ?_
  refine v_icmp_eq (tgt := 30) F dX3_endVoice_14 (by decide) h (fun h => ?_) (fun h => ?_)
  · refine v_iconst (v := 1) F dX3_endVoice_30 (by decide) ?_
    refine v_goto (tgt := 35) F dX3_endVoice_31 (by decide) ?_
    exact v_zret F hQ (by decide) ⟨nz1, h⟩ (by decide) dX3_endVoice_35
  · refine v_aload_n F dX3_endVoice_17 1 rfl rfl ?_
    refine g_X3_15 F r_a h dX3_endVoice_18 (fun b4 r_b4 h => ?_)
    refine v_bipush (v := 6) F dX3_endVoice_21 (by decide) ?_
    refine v_iload_n F dX3_endVoice_23 0 rfl rfl ?_
    refine v_cI0 (v_runV F k_X3_42 rfl (c_X0_tell r_b4 h) r_b4 rfl rfl (Nat.le_of_ble_eq_true rfl) (by decide) (by decide) dX3_endVoice_24) ⟨rfl, rfl⟩ (fun r6 S5 h hE => ?_)
    obtain ⟨nz_r6, h⟩ := h
    have r_a := r_a.tr hE
    refine v_if_eq (tgt := 34) F dX3_endVoice_27 (by decide) h (fun h => ?_) (fun h => ?_)
    · refine v_iconst (v := 0) F dX3_endVoice_34 (by decide) ?_
      exact v_zret F hQ (by decide) ⟨nz0, h⟩ (by decide) dX3_endVoice_35
    · refine v_iconst (v := 1) F dX3_endVoice_30 (by decide) ?_
      refine v_goto (tgt := 35) F dX3_endVoice_31 (by decide) ?_
      exact v_zret F hQ (by decide) ⟨nz1, h⟩ (by decide) dX3_endVoice_35
theorem dX3_finish_0 : decode cX3_finish 0 = .ok (.aload_n 0, 1) := by decide +kernel
theorem dX3_finish_1 : decode cX3_finish 1 = .ok (.invokevirtual 125, 3) := by decide +kernel
theorem dX3_finish_4 : decode cX3_finish 4 = .ok (.ifCond .ne 5, 3) := by decide +kernel
theorem dX3_finish_7 : decode cX3_finish 7 = .ok (.iconst 0, 1) := by decide +kernel
theorem dX3_finish_8 : decode cX3_finish 8 = .ok (.ireturn, 1) := by decide +kernel
theorem dX3_finish_9 : decode cX3_finish 9 = .ok (.aload_n 0, 1) := by decide +kernel
theorem dX3_finish_10 : decode cX3_finish 10 = .ok (.getfield 25, 3) := by decide +kernel
theorem dX3_finish_13 : decode cX3_finish 13 = .ok (.aload_n 0, 1) := by decide +kernel
theorem dX3_finish_14 : decode cX3_finish 14 = .ok (.getfield 86, 3) := by decide +kernel
theorem dX3_finish_17 : decode cX3_finish 17 = .ok (.putfield 128, 3) := by decide +kernel
theorem dX3_finish_20 : decode cX3_finish 20 = .ok (.aload_n 0, 1) := by decide +kernel
theorem dX3_finish_21 : decode cX3_finish 21 = .ok (.getfield 25, 3) := by decide +kernel
theorem dX3_finish_24 : decode cX3_finish 24 = .ok (.aload_n 0, 1) := by decide +kernel
theorem dX3_finish_25 : decode cX3_finish 25 = .ok (.getfield 80, 3) := by decide +kernel
theorem dX3_finish_28 : decode cX3_finish 28 = .ok (.putfield 132, 3) := by decide +kernel
theorem dX3_finish_31 : decode cX3_finish 31 = .ok (.aload_n 0, 1) := by decide +kernel
theorem dX3_finish_32 : decode cX3_finish 32 = .ok (.getfield 25, 3) := by decide +kernel
theorem dX3_finish_35 : decode cX3_finish 35 = .ok (.aload_n 0, 1) := by decide +kernel
theorem dX3_finish_36 : decode cX3_finish 36 = .ok (.getfield 9, 3) := by decide +kernel
theorem dX3_finish_39 : decode cX3_finish 39 = .ok (.getfield 133, 3) := by decide +kernel
theorem dX3_finish_42 : decode cX3_finish 42 = .ok (.putfield 136, 3) := by decide +kernel
theorem dX3_finish_45 : decode cX3_finish 45 = .ok (.aload_n 0, 1) := by decide +kernel
theorem dX3_finish_46 : decode cX3_finish 46 = .ok (.getfield 25, 3) := by decide +kernel
theorem dX3_finish_49 : decode cX3_finish 49 = .ok (.invokevirtual 139, 3) := by decide +kernel
theorem dX3_finish_52 : decode cX3_finish 52 = .ok (.iconst 1, 1) := by decide +kernel
theorem dX3_finish_53 : decode cX3_finish 53 = .ok (.ireturn, 1) := by decide +kernel
abbrev rm_X3_finish : Room := { frames := 3, cells := 0, slots := 0, locals := 65 }
def wp_X3_finish (a : Nat) (S : PS) (Q : Int32 → PS → Prop) : Prop :=
  wp_X3_endVoice a S (fun (r2 : Int32) (S1 : PS) => 
 (if r2 = 0 then
 Q 0 S1
 else
 (∃ b3, fR S1 25 a = some b3 ∧ (∀ S4, S4 = sL S1 86 b3 (fL S1 28 a) → (∃ b5, fR S4 25 a = some b5 ∧ (∀ S6, S6 = sI S4 85 b5 (fI S4 26 a) → (∃ b7, fR S6 25 a = some b7 ∧ (∃ b8, fR S6 21 a = some b8 ∧ (∀ S9, S9 = sI S6 84 b7 (fI S6 54 b8) → (∃ b10, fR S9 25 a = some b10 ∧ wp_X8_sortByTime b10 S9 (fun (S11 : PS) => 
 Q 1 S11)))))))))))
set_option maxRecDepth 100000 in
set_option maxHeartbeats 4000000 in
theorem c_X3_finish {l : Launch} {E : EE} {A : Nat → Prop} {a : Nat} {S : PS} {Q : Int32 → PS → Prop} (r_a : Rf S a 3) (h : wp_X3_finish a S Q) : MtI l yX3_finish (.code yX3_finish cX3_finish 1 (some .boolean)) rm_X3_finish E A [.ref a] S (fun r S1 => nz r ∧ Q r S1) := by
  refine MtI.of (by decide) (Nat.le_of_ble_eq_true rfl) (fun X F hQ hN => ?_)
  show VV X (0, 0) S [(0, .ref a)] [] 0
  unfold wp_X3_finish at h
  refine v_aload_n F dX3_finish_0 0 rfl rfl ?_
  refine v_cI0 (v_runV F k_X3_125 rfl (c_X3_endVoice r_a h) r_a rfl rfl (Nat.le_of_ble_eq_true rfl) (by decide) (by decide) dX3_finish_1) ⟨rfl, rfl⟩ (fun r2 S1 h hE => ?_)
  obtain ⟨nz_r2, h⟩ := h
  have r_a := r_a.tr hE
  refine v_if_ne (tgt := 9) F dX3_finish_4 (by decide) h (fun h => ?_) (fun h => ?_)
  · refine v_aload_n F dX3_finish_9 0 rfl rfl ?_
    refine g_X3_25 F r_a h dX3_finish_10 (fun b3 r_b3 h => ?_)
    refine v_aload_n F dX3_finish_13 0 rfl rfl ?_
    refine g_X3_86 F r_a dX3_finish_14 ?_
    refine p_X3_128 F r_b3 h dX3_finish_17 (fun S4 h hE => ?_)
    have r_a := r_a.tr hE
    refine v_aload_n F dX3_finish_20 0 rfl rfl ?_
    refine g_X3_25 F r_a h dX3_finish_21 (fun b5 r_b5 h => ?_)
    refine v_aload_n F dX3_finish_24 0 rfl rfl ?_
    refine g_X3_80 F r_a dX3_finish_25 ?_
    refine p_X3_132 F r_b5 h dX3_finish_28 (fun S6 h hE => ?_)
    have r_a := r_a.tr hE
    refine v_aload_n F dX3_finish_31 0 rfl rfl ?_
    refine g_X3_25 F r_a h dX3_finish_32 (fun b7 r_b7 h => ?_)
    refine v_aload_n F dX3_finish_35 0 rfl rfl ?_
    refine g_X3_9 F r_a h dX3_finish_36 (fun b8 r_b8 h => ?_)
    refine g_X3_133 F r_b8 dX3_finish_39 ?_
    refine p_X3_136 F r_b7 h dX3_finish_42 (fun S9 h hE => ?_)
    have r_a := r_a.tr hE
    refine v_aload_n F dX3_finish_45 0 rfl rfl ?_
    refine g_X3_25 F r_a h dX3_finish_46 (fun b10 r_b10 h => ?_)
    refine v_cV0 (v_runV F k_X3_139 rfl (c_X8_sortByTime r_b10 h) r_b10 rfl rfl (Nat.le_of_ble_eq_true rfl) (by decide) (by decide) dX3_finish_49) ⟨rfl, rfl⟩ (fun  S11 h hE => ?_)
    have r_a := r_a.tr hE
    refine v_iconst (v := 1) F dX3_finish_52 (by decide) ?_
    exact v_zret F hQ (by decide) ⟨nz1, h⟩ (by decide) dX3_finish_53
  · refine v_iconst (v := 0) F dX3_finish_7 (by decide) ?_
    exact v_zret F hQ (by decide) ⟨nz0, h⟩ (by decide) dX3_finish_8
theorem dX3_tell_0 : decode cX3_tell 0 = .ok (.aload_n 0, 1) := by decide +kernel
theorem dX3_tell_1 : decode cX3_tell 1 = .ok (.getfield 15, 3) := by decide +kernel
theorem dX3_tell_4 : decode cX3_tell 4 = .ok (.iload_n 1, 1) := by decide +kernel
theorem dX3_tell_5 : decode cX3_tell 5 = .ok (.aload_n 0, 1) := by decide +kernel
theorem dX3_tell_6 : decode cX3_tell 6 = .ok (.getfield 9, 3) := by decide +kernel
theorem dX3_tell_9 : decode cX3_tell 9 = .ok (.iload_n 2, 1) := by decide +kernel
theorem dX3_tell_10 : decode cX3_tell 10 = .ok (.invokevirtual 142, 3) := by decide +kernel
theorem dX3_tell_13 : decode cX3_tell 13 = .ok (.invokevirtual 42, 3) := by decide +kernel
theorem dX3_tell_16 : decode cX3_tell 16 = .ok (.ireturn, 1) := by decide +kernel
abbrev rm_X3_tell : Room := { frames := 2, cells := 0, slots := 0, locals := 42 }
def wp_X3_tell (a : Nat) (p1 : Int32) (p2 : Int32) (S : PS) (Q : Int32 → PS → Prop) : Prop :=
  (∃ b1, fR S 22 a = some b1 ∧ (∃ b2, fR S 21 a = some b2 ∧ wp_X6_placeOf b2 p2 S (fun (r4 : Int32) (S3 : PS) => 
 wp_X0_tell b1 p1 r4 S3 (fun (r6 : Int32) (S5 : PS) => 
 Q r6 S5))))
set_option maxRecDepth 100000 in
set_option maxHeartbeats 4000000 in
theorem c_X3_tell {l : Launch} {E : EE} {A : Nat → Prop} {a : Nat} {p1 : Int32} {p2 : Int32} {S : PS} {Q : Int32 → PS → Prop} (r_a : Rf S a 3) (h : wp_X3_tell a p1 p2 S Q) : MtI l yX3_tell (.code yX3_tell cX3_tell 3 (some .boolean)) rm_X3_tell E A [.ref a, .int p1, .int p2] S (fun r S1 => nz r ∧ Q r S1) := by
  refine MtI.of (by decide) (Nat.le_of_ble_eq_true rfl) (fun X F hQ hN => ?_)
  show VV X (0, 0) S [(0, .ref a), (1, .int p1), (2, .int p2)] [] 0
  unfold wp_X3_tell at h
  refine v_aload_n F dX3_tell_0 0 rfl rfl ?_
  refine g_X3_15 F r_a h dX3_tell_1 (fun b1 r_b1 h => ?_)
  refine v_iload_n F dX3_tell_4 1 rfl rfl ?_
  refine v_aload_n F dX3_tell_5 0 rfl rfl ?_
  refine g_X3_9 F r_a h dX3_tell_6 (fun b2 r_b2 h => ?_)
  refine v_iload_n F dX3_tell_9 2 rfl rfl ?_
  refine v_cI0 (v_runV F k_X3_142 rfl (c_X6_placeOf r_b2 h) r_b2 rfl rfl (Nat.le_of_ble_eq_true rfl) (by decide) (by decide) dX3_tell_10) ⟨rfl, rfl⟩ (fun r4 S3 h hE => ?_)
  have r_a := r_a.tr hE
  have r_b1 := r_b1.tr hE
  refine v_cI0 (v_runV F k_X3_42 rfl (c_X0_tell r_b1 h) r_b1 rfl rfl (Nat.le_of_ble_eq_true rfl) (by decide) (by decide) dX3_tell_13) ⟨rfl, rfl⟩ (fun r6 S5 h hE => ?_)
  obtain ⟨nz_r6, h⟩ := h
  have r_a := r_a.tr hE
  exact v_zret F hQ nz_r6 ⟨nz_r6, h⟩ (by decide) dX3_tell_16
theorem dX3_step_0 : decode cX3_step 0 = .ok (.aload_n 0, 1) := by decide +kernel
theorem dX3_step_1 : decode cX3_step 1 = .ok (.getfield 80, 3) := by decide +kernel
theorem dX3_step_4 : decode cX3_step 4 = .ok (.sipush 3000, 3) := by decide +kernel
theorem dX3_step_7 : decode cX3_step 7 = .ok (.if_icmp .lt 10, 3) := by decide +kernel
theorem dX3_step_10 : decode cX3_step 10 = .ok (.aload_n 0, 1) := by decide +kernel
theorem dX3_step_11 : decode cX3_step 11 = .ok (.iconst 5, 1) := by decide +kernel
theorem dX3_step_12 : decode cX3_step 12 = .ok (.iload_n 1, 1) := by decide +kernel
theorem dX3_step_13 : decode cX3_step 13 = .ok (.invokevirtual 149, 3) := by decide +kernel
theorem dX3_step_16 : decode cX3_step 16 = .ok (.ireturn, 1) := by decide +kernel
theorem dX3_step_17 : decode cX3_step 17 = .ok (.aload_n 0, 1) := by decide +kernel
theorem dX3_step_18 : decode cX3_step 18 = .ok (.dup, 1) := by decide +kernel
theorem dX3_step_19 : decode cX3_step 19 = .ok (.getfield 80, 3) := by decide +kernel
theorem dX3_step_22 : decode cX3_step 22 = .ok (.iconst 1, 1) := by decide +kernel
theorem dX3_step_23 : decode cX3_step 23 = .ok (.iadd, 1) := by decide +kernel
theorem dX3_step_24 : decode cX3_step 24 = .ok (.putfield 80, 3) := by decide +kernel
theorem dX3_step_27 : decode cX3_step 27 = .ok (.iconst 1, 1) := by decide +kernel
theorem dX3_step_28 : decode cX3_step 28 = .ok (.ireturn, 1) := by decide +kernel
abbrev rm_X3_step : Room := { frames := 3, cells := 0, slots := 0, locals := 64 }
def wp_X3_step (a : Nat) (p1 : Int32) (S : PS) (Q : Int32 → PS → Prop) : Prop :=
  (if fI S 26 a < 3000 then
 (∀ S1, S1 = sI S 26 a ((fI S 26 a) + 1) → Q 1 S1)
 else
 wp_X3_tell a 5 p1 S (fun (r3 : Int32) (S2 : PS) => 
 Q r3 S2))
set_option maxRecDepth 100000 in
set_option maxHeartbeats 4000000 in
theorem c_X3_step {l : Launch} {E : EE} {A : Nat → Prop} {a : Nat} {p1 : Int32} {S : PS} {Q : Int32 → PS → Prop} (r_a : Rf S a 3) (h : wp_X3_step a p1 S Q) : MtI l yX3_step (.code yX3_step cX3_step 2 (some .boolean)) rm_X3_step E A [.ref a, .int p1] S (fun r S1 => nz r ∧ Q r S1) := by
  refine MtI.of (by decide) (Nat.le_of_ble_eq_true rfl) (fun X F hQ hN => ?_)
  show VV X (0, 0) S [(0, .ref a), (1, .int p1)] [] 0
  unfold wp_X3_step at h
  refine v_aload_n F dX3_step_0 0 rfl rfl ?_
  refine g_X3_80 F r_a dX3_step_1 ?_
  refine v_sipush (v := 3000) F dX3_step_4 (by decide) ?_
  refine v_icmp_lt (tgt := 17) F dX3_step_7 (by decide) h (fun h => ?_) (fun h => ?_)
  · refine v_aload_n F dX3_step_17 0 rfl rfl ?_
    refine v_dup F dX3_step_18 rfl ?_
    refine g_X3_80 F r_a dX3_step_19 ?_
    refine v_iconst (v := 1) F dX3_step_22 (by decide) ?_
    refine v_iadd F dX3_step_23 ?_
    refine p_X3_80 F r_a h dX3_step_24 (fun S1 h hE => ?_)
    have r_a := r_a.tr hE
    refine v_iconst (v := 1) F dX3_step_27 (by decide) ?_
    exact v_zret F hQ (by decide) ⟨nz1, h⟩ (by decide) dX3_step_28
  · refine v_aload_n F dX3_step_10 0 rfl rfl ?_
    refine v_iconst (v := 5) F dX3_step_11 (by decide) ?_
    refine v_iload_n F dX3_step_12 1 rfl rfl ?_
    refine v_cI0 (v_runV F k_X3_149 rfl (c_X3_tell r_a h) r_a rfl rfl (Nat.le_of_ble_eq_true rfl) (by decide) (by decide) dX3_step_13) ⟨rfl, rfl⟩ (fun r3 S2 h hE => ?_)
    obtain ⟨nz_r3, h⟩ := h
    have r_a := r_a.tr hE
    exact v_zret F hQ nz_r3 ⟨nz_r3, h⟩ (by decide) dX3_step_16
theorem dX3_nextRound_0 : decode cX3_nextRound 0 = .ok (.aload_n 1, 1) := by decide +kernel
theorem dX3_nextRound_1 : decode cX3_nextRound 1 = .ok (.getfield 190, 3) := by decide +kernel
theorem dX3_nextRound_4 : decode cX3_nextRound 4 = .ok (.ifCond .gt 15, 3) := by decide +kernel
theorem dX3_nextRound_7 : decode cX3_nextRound 7 = .ok (.aload_n 0, 1) := by decide +kernel
theorem dX3_nextRound_8 : decode cX3_nextRound 8 = .ok (.dup, 1) := by decide +kernel
theorem dX3_nextRound_9 : decode cX3_nextRound 9 = .ok (.getfield 48, 3) := by decide +kernel
theorem dX3_nextRound_12 : decode cX3_nextRound 12 = .ok (.iconst 1, 1) := by decide +kernel
theorem dX3_nextRound_13 : decode cX3_nextRound 13 = .ok (.isub, 1) := by decide +kernel
theorem dX3_nextRound_14 : decode cX3_nextRound 14 = .ok (.putfield 48, 3) := by decide +kernel
theorem dX3_nextRound_17 : decode cX3_nextRound 17 = .ok (.iconst 1, 1) := by decide +kernel
theorem dX3_nextRound_18 : decode cX3_nextRound 18 = .ok (.ireturn, 1) := by decide +kernel
theorem dX3_nextRound_19 : decode cX3_nextRound 19 = .ok (.aload_n 1, 1) := by decide +kernel
theorem dX3_nextRound_20 : decode cX3_nextRound 20 = .ok (.dup, 1) := by decide +kernel
theorem dX3_nextRound_21 : decode cX3_nextRound 21 = .ok (.getfield 190, 3) := by decide +kernel
theorem dX3_nextRound_24 : decode cX3_nextRound 24 = .ok (.iconst 1, 1) := by decide +kernel
theorem dX3_nextRound_25 : decode cX3_nextRound 25 = .ok (.isub, 1) := by decide +kernel
theorem dX3_nextRound_26 : decode cX3_nextRound 26 = .ok (.putfield 190, 3) := by decide +kernel
theorem dX3_nextRound_29 : decode cX3_nextRound 29 = .ok (.aload_n 1, 1) := by decide +kernel
theorem dX3_nextRound_30 : decode cX3_nextRound 30 = .ok (.aload_n 1, 1) := by decide +kernel
theorem dX3_nextRound_31 : decode cX3_nextRound 31 = .ok (.getfield 146, 3) := by decide +kernel
theorem dX3_nextRound_34 : decode cX3_nextRound 34 = .ok (.iconst 1, 1) := by decide +kernel
theorem dX3_nextRound_35 : decode cX3_nextRound 35 = .ok (.iadd, 1) := by decide +kernel
theorem dX3_nextRound_36 : decode cX3_nextRound 36 = .ok (.putfield 59, 3) := by decide +kernel
theorem dX3_nextRound_39 : decode cX3_nextRound 39 = .ok (.aload_n 0, 1) := by decide +kernel
theorem dX3_nextRound_40 : decode cX3_nextRound 40 = .ok (.aload_n 1, 1) := by decide +kernel
theorem dX3_nextRound_41 : decode cX3_nextRound 41 = .ok (.getfield 146, 3) := by decide +kernel
theorem dX3_nextRound_44 : decode cX3_nextRound 44 = .ok (.invokevirtual 69, 3) := by decide +kernel
theorem dX3_nextRound_47 : decode cX3_nextRound 47 = .ok (.ireturn, 1) := by decide +kernel
abbrev rm_X3_nextRound : Room := { frames := 4, cells := 0, slots := 0, locals := 85 }
def wp_X3_nextRound (a : Nat) (p1 : Nat) (S : PS) (Q : Int32 → PS → Prop) : Prop :=
  (if 0 < fI S 5 p1 then
 (∀ S1, S1 = sI S 5 p1 ((fI S 5 p1) - 1) → (∀ S2, S2 = sI S1 3 p1 ((fI S1 2 p1) + 1) → wp_X3_step a (fI S2 2 p1) S2 (fun (r4 : Int32) (S3 : PS) => 
 Q r4 S3)))
 else
 (∀ S5, S5 = sI S 24 a ((fI S 24 a) - 1) → Q 1 S5))
set_option maxRecDepth 100000 in
set_option maxHeartbeats 4000000 in
theorem c_X3_nextRound {l : Launch} {E : EE} {A : Nat → Prop} {a : Nat} {p1 : Nat} {S : PS} {Q : Int32 → PS → Prop} (r_a : Rf S a 3) (r_p1 : Rf S p1 1) (h : wp_X3_nextRound a p1 S Q) : MtI l yX3_nextRound (.code yX3_nextRound cX3_nextRound 2 (some .boolean)) rm_X3_nextRound E A [.ref a, .ref p1] S (fun r S1 => nz r ∧ Q r S1) := by
  refine MtI.of (by decide) (Nat.le_of_ble_eq_true rfl) (fun X F hQ hN => ?_)
  show VV X (0, 0) S [(0, .ref a), (1, .ref p1)] [] 0
  unfold wp_X3_nextRound at h
  refine v_aload_n F dX3_nextRound_0 1 rfl rfl ?_
  refine g_X3_190 F r_p1 dX3_nextRound_1 ?_
  refine v_if_gt (tgt := 19) F dX3_nextRound_4 (by decide) h (fun h => ?_) (fun h => ?_)
  · refine v_aload_n F dX3_nextRound_19 1 rfl rfl ?_
    refine v_dup F dX3_nextRound_20 rfl ?_
    refine g_X3_190 F r_p1 dX3_nextRound_21 ?_
    refine v_iconst (v := 1) F dX3_nextRound_24 (by decide) ?_
    refine v_isub F dX3_nextRound_25 ?_
    refine p_X3_190 F r_p1 h dX3_nextRound_26 (fun S1 h hE => ?_)
    have r_a := r_a.tr hE
    have r_p1 := r_p1.tr hE
    refine v_aload_n F dX3_nextRound_29 1 rfl rfl ?_
    refine v_aload_n F dX3_nextRound_30 1 rfl rfl ?_
    refine g_X3_146 F r_p1 dX3_nextRound_31 ?_
    refine v_iconst (v := 1) F dX3_nextRound_34 (by decide) ?_
    refine v_iadd F dX3_nextRound_35 ?_
    refine p_X3_59 F r_p1 h dX3_nextRound_36 (fun S2 h hE => ?_)
    have r_a := r_a.tr hE
    have r_p1 := r_p1.tr hE
    refine v_aload_n F dX3_nextRound_39 0 rfl rfl ?_
    refine v_aload_n F dX3_nextRound_40 1 rfl rfl ?_
    refine g_X3_146 F r_p1 dX3_nextRound_41 ?_
    refine v_cI0 (v_runV F k_X3_69 rfl (c_X3_step r_a h) r_a rfl rfl (Nat.le_of_ble_eq_true rfl) (by decide) (by decide) dX3_nextRound_44) ⟨rfl, rfl⟩ (fun r4 S3 h hE => ?_)
    obtain ⟨nz_r4, h⟩ := h
    have r_a := r_a.tr hE
    have r_p1 := r_p1.tr hE
    exact v_zret F hQ nz_r4 ⟨nz_r4, h⟩ (by decide) dX3_nextRound_47
  · refine v_aload_n F dX3_nextRound_7 0 rfl rfl ?_
    refine v_dup F dX3_nextRound_8 rfl ?_
    refine g_X3_48 F r_a dX3_nextRound_9 ?_
    refine v_iconst (v := 1) F dX3_nextRound_12 (by decide) ?_
    refine v_isub F dX3_nextRound_13 ?_
    refine p_X3_48 F r_a h dX3_nextRound_14 (fun S5 h hE => ?_)
    have r_a := r_a.tr hE
    have r_p1 := r_p1.tr hE
    refine v_iconst (v := 1) F dX3_nextRound_17 (by decide) ?_
    exact v_zret F hQ (by decide) ⟨nz1, h⟩ (by decide) dX3_nextRound_18
theorem dX3_keepTie_0 : decode cX3_keepTie 0 = .ok (.aload_n 0, 1) := by decide +kernel
theorem dX3_keepTie_1 : decode cX3_keepTie 1 = .ok (.getfield 25, 3) := by decide +kernel
theorem dX3_keepTie_4 : decode cX3_keepTie 4 = .ok (.aload_n 0, 1) := by decide +kernel
theorem dX3_keepTie_5 : decode cX3_keepTie 5 = .ok (.getfield 83, 3) := by decide +kernel
theorem dX3_keepTie_8 : decode cX3_keepTie 8 = .ok (.invokevirtual 247, 3) := by decide +kernel
theorem dX3_keepTie_11 : decode cX3_keepTie 11 = .ok (.istore_n 3, 1) := by decide +kernel
theorem dX3_keepTie_12 : decode cX3_keepTie 12 = .ok (.iload_n 3, 1) := by decide +kernel
theorem dX3_keepTie_13 : decode cX3_keepTie 13 = .ok (.iconst (-1), 1) := by decide +kernel
theorem dX3_keepTie_14 : decode cX3_keepTie 14 = .ok (.if_icmp .eq 32, 3) := by decide +kernel
theorem dX3_keepTie_17 : decode cX3_keepTie 17 = .ok (.aload_n 0, 1) := by decide +kernel
theorem dX3_keepTie_18 : decode cX3_keepTie 18 = .ok (.getfield 25, 3) := by decide +kernel
theorem dX3_keepTie_21 : decode cX3_keepTie 21 = .ok (.aload_n 0, 1) := by decide +kernel
theorem dX3_keepTie_22 : decode cX3_keepTie 22 = .ok (.getfield 83, 3) := by decide +kernel
theorem dX3_keepTie_25 : decode cX3_keepTie 25 = .ok (.invokevirtual 250, 3) := by decide +kernel
theorem dX3_keepTie_28 : decode cX3_keepTie 28 = .ok (.lload_n 1, 1) := by decide +kernel
theorem dX3_keepTie_29 : decode cX3_keepTie 29 = .ok (.lcmp, 1) := by decide +kernel
theorem dX3_keepTie_30 : decode cX3_keepTie 30 = .ok (.ifCond .eq 16, 3) := by decide +kernel
theorem dX3_keepTie_33 : decode cX3_keepTie 33 = .ok (.aload_n 0, 1) := by decide +kernel
theorem dX3_keepTie_34 : decode cX3_keepTie 34 = .ok (.getfield 15, 3) := by decide +kernel
theorem dX3_keepTie_37 : decode cX3_keepTie 37 = .ok (.bipush 6, 2) := by decide +kernel
theorem dX3_keepTie_39 : decode cX3_keepTie 39 = .ok (.iload_n 3, 1) := by decide +kernel
theorem dX3_keepTie_40 : decode cX3_keepTie 40 = .ok (.invokevirtual 42, 3) := by decide +kernel
theorem dX3_keepTie_43 : decode cX3_keepTie 43 = .ok (.ifCond .eq 7, 3) := by decide +kernel
theorem dX3_keepTie_46 : decode cX3_keepTie 46 = .ok (.iconst 1, 1) := by decide +kernel
theorem dX3_keepTie_47 : decode cX3_keepTie 47 = .ok (.goto 4, 3) := by decide +kernel
theorem dX3_keepTie_50 : decode cX3_keepTie 50 = .ok (.iconst 0, 1) := by decide +kernel
theorem dX3_keepTie_51 : decode cX3_keepTie 51 = .ok (.ireturn, 1) := by decide +kernel
abbrev rm_X3_keepTie : Room := { frames := 2, cells := 0, slots := 0, locals := 43 }
def wp_X3_keepTie (a : Nat) (p1 : Int64) (S : PS) (Q : Int32 → PS → Prop) : Prop :=
  (∃ b1, fR S 25 a = some b1 ∧ wp_X8_tiePlace b1 (fI S 27 a) S (fun (r3 : Int32) (S2 : PS) => 
 (if r3 = (-1) then
 Q 1 S2
 else
 (∃ b4, fR S2 25 a = some b4 ∧ wp_X8_latestPitches b4 (fI S2 27 a) S2 (fun (r6 : Int64) (S5 : PS) => 
 (if r6 = p1 then
 Q 1 S5
 else
 (∃ b7, fR S5 22 a = some b7 ∧ wp_X0_tell b7 6 r3 S5 (fun (r9 : Int32) (S8 : PS) => 
 (if r9 = 0 then
 Q 0 S8
 else
 Q 1 S8)))))))))
set_option maxRecDepth 100000 in
set_option maxHeartbeats 4000000 in
theorem c_X3_keepTie {l : Launch} {E : EE} {A : Nat → Prop} {a : Nat} {p1 : Int64} {S : PS} {Q : Int32 → PS → Prop} (r_a : Rf S a 3) (h : wp_X3_keepTie a p1 S Q) : MtI l yX3_keepTie (.code yX3_keepTie cX3_keepTie 4 (some .boolean)) rm_X3_keepTie E A [.ref a, .long p1] S (fun r S1 => nz r ∧ Q r S1) := by
  refine MtI.of (by decide) (Nat.le_of_ble_eq_true rfl) (fun X F hQ hN => ?_)
  show VV X (0, 0) S [(0, .ref a), (1, .long p1)] [] 0
  unfold wp_X3_keepTie at h
  refine v_aload_n F dX3_keepTie_0 0 rfl rfl ?_
  refine g_X3_25 F r_a h dX3_keepTie_1 (fun b1 r_b1 h => ?_)
  refine v_aload_n F dX3_keepTie_4 0 rfl rfl ?_
  refine g_X3_83 F r_a dX3_keepTie_5 ?_
  refine v_cI0 (v_runV F k_X3_247 rfl (c_X8_tiePlace r_b1 h) r_b1 rfl rfl (Nat.le_of_ble_eq_true rfl) (by decide) (by decide) dX3_keepTie_8) ⟨rfl, rfl⟩ (fun r3 S2 h hE => ?_)
  have r_a := r_a.tr hE
  refine v_istore_n (lv1 := [(3, .int r3), (0, .ref a), (1, .long p1)]) F dX3_keepTie_11 rfl (by rw [hN]; decide) rfl ?_
  refine v_iload_n F dX3_keepTie_12 0 rfl rfl ?_
  refine v_iconst (v := (-1)) F dX3_keepTie_13 (by decide) ?_
  refine v_icmp_eq (tgt := 46) F dX3_keepTie_14 (by decide) h (fun h => ?_) (fun h => ?_)
  · refine v_iconst (v := 1) F dX3_keepTie_46 (by decide) ?_
    refine v_goto (tgt := 51) F dX3_keepTie_47 (by decide) ?_
    exact v_zret F hQ (by decide) ⟨nz1, h⟩ (by decide) dX3_keepTie_51
  · refine v_aload_n F dX3_keepTie_17 1 rfl rfl ?_
    refine g_X3_25 F r_a h dX3_keepTie_18 (fun b4 r_b4 h => ?_)
    refine v_aload_n F dX3_keepTie_21 1 rfl rfl ?_
    refine g_X3_83 F r_a dX3_keepTie_22 ?_
    refine v_cL0 (v_runV F k_X3_250 rfl (c_X8_latestPitches r_b4 h) r_b4 rfl rfl (Nat.le_of_ble_eq_true rfl) (by decide) (by decide) dX3_keepTie_25) ⟨rfl, rfl⟩ (fun r6 S5 h hE => ?_)
    have r_a := r_a.tr hE
    refine v_lload_n F dX3_keepTie_28 2 rfl rfl ?_
    refine v_lcmp_eq (tgt := 46) F dX3_keepTie_29 dX3_keepTie_30 (by decide) h (fun h => ?_) (fun h => ?_)
    · refine v_iconst (v := 1) F dX3_keepTie_46 (by decide) ?_
      refine v_goto (tgt := 51) F dX3_keepTie_47 (by decide) ?_
      exact v_zret F hQ (by decide) ⟨nz1, h⟩ (by decide) dX3_keepTie_51
    · refine v_aload_n F dX3_keepTie_33 1 rfl rfl ?_
      refine g_X3_15 F r_a h dX3_keepTie_34 (fun b7 r_b7 h => ?_)
      refine v_bipush (v := 6) F dX3_keepTie_37 (by decide) ?_
      refine v_iload_n F dX3_keepTie_39 0 rfl rfl ?_
      refine v_cI0 (v_runV F k_X3_42 rfl (c_X0_tell r_b7 h) r_b7 rfl rfl (Nat.le_of_ble_eq_true rfl) (by decide) (by decide) dX3_keepTie_40) ⟨rfl, rfl⟩ (fun r9 S8 h hE => ?_)
      obtain ⟨nz_r9, h⟩ := h
      have r_a := r_a.tr hE
      refine v_if_eq (tgt := 50) F dX3_keepTie_43 (by decide) h (fun h => ?_) (fun h => ?_)
      · refine v_iconst (v := 0) F dX3_keepTie_50 (by decide) ?_
        exact v_zret F hQ (by decide) ⟨nz0, h⟩ (by decide) dX3_keepTie_51
      · refine v_iconst (v := 1) F dX3_keepTie_46 (by decide) ?_
        refine v_goto (tgt := 51) F dX3_keepTie_47 (by decide) ?_
        exact v_zret F hQ (by decide) ⟨nz1, h⟩ (by decide) dX3_keepTie_51
theorem dX3_append_0 : decode cX3_append 0 = .ok (.aload_n 0, 1) := by decide +kernel
theorem dX3_append_1 : decode cX3_append 1 = .ok (.getfield 25, 3) := by decide +kernel
theorem dX3_append_4 : decode cX3_append 4 = .ok (.getfield 254, 3) := by decide +kernel
theorem dX3_append_7 : decode cX3_append 7 = .ok (.sipush 300, 3) := by decide +kernel
theorem dX3_append_10 : decode cX3_append 10 = .ok (.if_icmp .ge 17, 3) := by decide +kernel
theorem dX3_append_13 : decode cX3_append 13 = .ok (.aload_n 0, 1) := by decide +kernel
theorem dX3_append_14 : decode cX3_append 14 = .ok (.getfield 86, 3) := by decide +kernel
theorem dX3_append_17 : decode cX3_append 17 = .ok (.lload 4, 2) := by decide +kernel
theorem dX3_append_19 : decode cX3_append 19 = .ok (.ladd, 1) := by decide +kernel
theorem dX3_append_20 : decode cX3_append 20 = .ok (.ldc2_w 257, 3) := by decide +kernel
theorem dX3_append_23 : decode cX3_append 23 = .ok (.lcmp, 1) := by decide +kernel
theorem dX3_append_24 : decode cX3_append 24 = .ok (.ifCond .le 13, 3) := by decide +kernel
theorem dX3_append_27 : decode cX3_append 27 = .ok (.aload_n 0, 1) := by decide +kernel
theorem dX3_append_28 : decode cX3_append 28 = .ok (.getfield 15, 3) := by decide +kernel
theorem dX3_append_31 : decode cX3_append 31 = .ok (.iconst 5, 1) := by decide +kernel
theorem dX3_append_32 : decode cX3_append 32 = .ok (.iload_n 1, 1) := by decide +kernel
theorem dX3_append_33 : decode cX3_append 33 = .ok (.invokevirtual 42, 3) := by decide +kernel
theorem dX3_append_36 : decode cX3_append 36 = .ok (.ireturn, 1) := by decide +kernel
theorem dX3_append_37 : decode cX3_append 37 = .ok (.aload_n 0, 1) := by decide +kernel
theorem dX3_append_38 : decode cX3_append 38 = .ok (.getfield 25, 3) := by decide +kernel
theorem dX3_append_41 : decode cX3_append 41 = .ok (.aload_n 0, 1) := by decide +kernel
theorem dX3_append_42 : decode cX3_append 42 = .ok (.getfield 83, 3) := by decide +kernel
theorem dX3_append_45 : decode cX3_append 45 = .ok (.aload_n 0, 1) := by decide +kernel
theorem dX3_append_46 : decode cX3_append 46 = .ok (.getfield 86, 3) := by decide +kernel
theorem dX3_append_49 : decode cX3_append 49 = .ok (.lload 4, 2) := by decide +kernel
theorem dX3_append_51 : decode cX3_append 51 = .ok (.lload_n 2, 1) := by decide +kernel
theorem dX3_append_52 : decode cX3_append 52 = .ok (.invokevirtual 259, 3) := by decide +kernel
theorem dX3_append_55 : decode cX3_append 55 = .ok (.aload_n 0, 1) := by decide +kernel
theorem dX3_append_56 : decode cX3_append 56 = .ok (.dup, 1) := by decide +kernel
theorem dX3_append_57 : decode cX3_append 57 = .ok (.getfield 86, 3) := by decide +kernel
theorem dX3_append_60 : decode cX3_append 60 = .ok (.lload 4, 2) := by decide +kernel
theorem dX3_append_62 : decode cX3_append 62 = .ok (.ladd, 1) := by decide +kernel
theorem dX3_append_63 : decode cX3_append 63 = .ok (.putfield 86, 3) := by decide +kernel
theorem dX3_append_66 : decode cX3_append 66 = .ok (.iconst 1, 1) := by decide +kernel
theorem dX3_append_67 : decode cX3_append 67 = .ok (.ireturn, 1) := by decide +kernel
abbrev rm_X3_append : Room := { frames := 2, cells := 0, slots := 0, locals := 50 }
def wp_X3_append (a : Nat) (p1 : Int32) (p2 : Int64) (p3 : Int64) (S : PS) (Q : Int32 → PS → Prop) : Prop :=
  (∃ b1, fR S 25 a = some b1 ∧ (∀ K27_3 : PS → Prop, (∀ (S2 : PS),
 (∃ b4, fR S2 22 a = some b4 ∧ wp_X0_tell b4 5 p1 S2 (fun (r6 : Int32) (S5 : PS) => 
 Q r6 S5))
 → K27_3 S2) →
 (if 300 ≤ fI S 70 b1 then
 K27_3 S
 else
 (if (fL S 28 a) + p3 ≤ 3870720000 then
 (∃ b7, fR S 25 a = some b7 ∧ wp_X8_addEvent b7 (fI S 27 a) (fL S 28 a) p3 p2 S (fun (S8 : PS) => 
 (∀ S9, S9 = sL S8 28 a ((fL S8 28 a) + p3) → Q 1 S9)))
 else
 K27_3 S))))
set_option maxRecDepth 100000 in
set_option maxHeartbeats 4000000 in
theorem c_X3_append {l : Launch} {E : EE} {A : Nat → Prop} {a : Nat} {p1 : Int32} {p2 : Int64} {p3 : Int64} {S : PS} {Q : Int32 → PS → Prop} (r_a : Rf S a 3) (h : wp_X3_append a p1 p2 p3 S Q) : MtI l yX3_append (.code yX3_append cX3_append 6 (some .boolean)) rm_X3_append E A [.ref a, .int p1, .long p2, .long p3] S (fun r S1 => nz r ∧ Q r S1) := by
  refine MtI.of (by decide) (Nat.le_of_ble_eq_true rfl) (fun X F hQ hN => ?_)
  show VV X (0, 0) S [(0, .ref a), (1, .int p1), (2, .long p2), (4, .long p3)] [] 0
  unfold wp_X3_append at h
  refine v_aload_n F dX3_append_0 0 rfl rfl ?_
  refine g_X3_25 F r_a h dX3_append_1 (fun b1 r_b1 h => ?_)
  refine g_X3_254 F r_b1 dX3_append_4 ?_
  refine v_sipush (v := 300) F dX3_append_7 (by decide) ?_
  have h := h (fun (S2 : PS) => Rf S2 a 3 → VV X (0, 0) S2 [(0, .ref a), (1, .int p1)] [] 27) (by
    intro S2 h r_a
    refine v_aload_n F dX3_append_27 0 rfl rfl ?_
    refine g_X3_15 F r_a h dX3_append_28 (fun b4 r_b4 h => ?_)
    refine v_iconst (v := 5) F dX3_append_31 (by decide) ?_
    refine v_iload_n F dX3_append_32 1 rfl rfl ?_
    refine v_cI0 (v_runV F k_X3_42 rfl (c_X0_tell r_b4 h) r_b4 rfl rfl (Nat.le_of_ble_eq_true rfl) (by decide) (by decide) dX3_append_33) ⟨rfl, rfl⟩ (fun r6 S5 h hE => ?_)
    obtain ⟨nz_r6, h⟩ := h
    have r_a := r_a.tr hE
    exact v_zret F hQ nz_r6 ⟨nz_r6, h⟩ (by decide) dX3_append_36)
  refine v_icmp_ge (tgt := 27) F dX3_append_10 (by decide) h (fun h => ?_) (fun h => ?_)
  · exact v_sub [0, 1] rfl (h r_a)
  · refine v_aload_n F dX3_append_13 0 rfl rfl ?_
    refine g_X3_86 F r_a dX3_append_14 ?_
    refine v_lload F dX3_append_17 3 rfl ?_
    refine v_ladd F dX3_append_19 ?_
    refine v_ldc2 F kc_X3_257 dX3_append_20 ?_
    refine v_lcmp_le (tgt := 37) F dX3_append_23 dX3_append_24 (by decide) h (fun h => ?_) (fun h => ?_)
    · refine v_aload_n F dX3_append_37 0 rfl rfl ?_
      refine g_X3_25 F r_a h dX3_append_38 (fun b7 r_b7 h => ?_)
      refine v_aload_n F dX3_append_41 0 rfl rfl ?_
      refine g_X3_83 F r_a dX3_append_42 ?_
      refine v_aload_n F dX3_append_45 0 rfl rfl ?_
      refine g_X3_86 F r_a dX3_append_46 ?_
      refine v_lload F dX3_append_49 3 rfl ?_
      refine v_lload_n F dX3_append_51 2 rfl rfl ?_
      refine v_cV0 (v_runV F k_X3_259 rfl (c_X8_addEvent r_b7 h) r_b7 rfl rfl (Nat.le_of_ble_eq_true rfl) (by decide) (by decide) dX3_append_52) ⟨rfl, rfl⟩ (fun  S8 h hE => ?_)
      have r_a := r_a.tr hE
      refine v_aload_n F dX3_append_55 0 rfl rfl ?_
      refine v_dup F dX3_append_56 rfl ?_
      refine g_X3_86 F r_a dX3_append_57 ?_
      refine v_lload F dX3_append_60 3 rfl ?_
      refine v_ladd F dX3_append_62 ?_
      refine p_X3_86 F r_a h dX3_append_63 (fun S9 h hE => ?_)
      have r_a := r_a.tr hE
      refine v_iconst (v := 1) F dX3_append_66 (by decide) ?_
      exact v_zret F hQ (by decide) ⟨nz1, h⟩ (by decide) dX3_append_67
    · exact v_sub [0, 1] rfl (h r_a)
theorem dX3_closeVoices_0 : decode cX3_closeVoices 0 = .ok (.aload_n 0, 1) := by decide +kernel
theorem dX3_closeVoices_1 : decode cX3_closeVoices 1 = .ok (.dup, 1) := by decide +kernel
theorem dX3_closeVoices_2 : decode cX3_closeVoices 2 = .ok (.getfield 48, 3) := by decide +kernel
theorem dX3_closeVoices_5 : decode cX3_closeVoices 5 = .ok (.iconst 1, 1) := by decide +kernel
theorem dX3_closeVoices_6 : decode cX3_closeVoices 6 = .ok (.isub, 1) := by decide +kernel
theorem dX3_closeVoices_7 : decode cX3_closeVoices 7 = .ok (.putfield 48, 3) := by decide +kernel
theorem dX3_closeVoices_10 : decode cX3_closeVoices 10 = .ok (.aload_n 0, 1) := by decide +kernel
theorem dX3_closeVoices_11 : decode cX3_closeVoices 11 = .ok (.dup, 1) := by decide +kernel
theorem dX3_closeVoices_12 : decode cX3_closeVoices 12 = .ok (.getfield 119, 3) := by decide +kernel
theorem dX3_closeVoices_15 : decode cX3_closeVoices 15 = .ok (.iconst 1, 1) := by decide +kernel
theorem dX3_closeVoices_16 : decode cX3_closeVoices 16 = .ok (.isub, 1) := by decide +kernel
theorem dX3_closeVoices_17 : decode cX3_closeVoices 17 = .ok (.putfield 119, 3) := by decide +kernel
theorem dX3_closeVoices_20 : decode cX3_closeVoices 20 = .ok (.aload_n 0, 1) := by decide +kernel
theorem dX3_closeVoices_21 : decode cX3_closeVoices 21 = .ok (.aload_n 1, 1) := by decide +kernel
theorem dX3_closeVoices_22 : decode cX3_closeVoices 22 = .ok (.getfield 207, 3) := by decide +kernel
theorem dX3_closeVoices_25 : decode cX3_closeVoices 25 = .ok (.putfield 83, 3) := by decide +kernel
theorem dX3_closeVoices_28 : decode cX3_closeVoices 28 = .ok (.aload_n 0, 1) := by decide +kernel
theorem dX3_closeVoices_29 : decode cX3_closeVoices 29 = .ok (.aload_n 1, 1) := by decide +kernel
theorem dX3_closeVoices_30 : decode cX3_closeVoices 30 = .ok (.getfield 212, 3) := by decide +kernel
theorem dX3_closeVoices_33 : decode cX3_closeVoices 33 = .ok (.putfield 86, 3) := by decide +kernel
theorem dX3_closeVoices_36 : decode cX3_closeVoices 36 = .ok (.aload_n 0, 1) := by decide +kernel
theorem dX3_closeVoices_37 : decode cX3_closeVoices 37 = .ok (.aload_n 1, 1) := by decide +kernel
theorem dX3_closeVoices_38 : decode cX3_closeVoices 38 = .ok (.getfield 218, 3) := by decide +kernel
theorem dX3_closeVoices_41 : decode cX3_closeVoices 41 = .ok (.putfield 92, 3) := by decide +kernel
theorem dX3_closeVoices_44 : decode cX3_closeVoices 44 = .ok (.aload_n 0, 1) := by decide +kernel
theorem dX3_closeVoices_45 : decode cX3_closeVoices 45 = .ok (.aload_n 1, 1) := by decide +kernel
theorem dX3_closeVoices_46 : decode cX3_closeVoices 46 = .ok (.getfield 221, 3) := by decide +kernel
theorem dX3_closeVoices_49 : decode cX3_closeVoices 49 = .ok (.putfield 95, 3) := by decide +kernel
theorem dX3_closeVoices_52 : decode cX3_closeVoices 52 = .ok (.aload_n 1, 1) := by decide +kernel
theorem dX3_closeVoices_53 : decode cX3_closeVoices 53 = .ok (.getfield 215, 3) := by decide +kernel
theorem dX3_closeVoices_56 : decode cX3_closeVoices 56 = .ok (.aload_n 0, 1) := by decide +kernel
theorem dX3_closeVoices_57 : decode cX3_closeVoices 57 = .ok (.getfield 86, 3) := by decide +kernel
theorem dX3_closeVoices_60 : decode cX3_closeVoices 60 = .ok (.lsub, 1) := by decide +kernel
theorem dX3_closeVoices_61 : decode cX3_closeVoices 61 = .ok (.lstore_n 2, 1) := by decide +kernel
theorem dX3_closeVoices_62 : decode cX3_closeVoices 62 = .ok (.aload_n 0, 1) := by decide +kernel
theorem dX3_closeVoices_63 : decode cX3_closeVoices 63 = .ok (.getfield 9, 3) := by decide +kernel
theorem dX3_closeVoices_66 : decode cX3_closeVoices 66 = .ok (.aload_n 1, 1) := by decide +kernel
theorem dX3_closeVoices_67 : decode cX3_closeVoices 67 = .ok (.getfield 146, 3) := by decide +kernel
theorem dX3_closeVoices_70 : decode cX3_closeVoices 70 = .ok (.invokevirtual 142, 3) := by decide +kernel
theorem dX3_closeVoices_73 : decode cX3_closeVoices 73 = .ok (.istore 4, 2) := by decide +kernel
theorem dX3_closeVoices_75 : decode cX3_closeVoices 75 = .ok (.lload_n 2, 1) := by decide +kernel
theorem dX3_closeVoices_76 : decode cX3_closeVoices 76 = .ok (.lconst 0, 1) := by decide +kernel
theorem dX3_closeVoices_77 : decode cX3_closeVoices 77 = .ok (.lcmp, 1) := by decide +kernel
theorem dX3_closeVoices_78 : decode cX3_closeVoices 78 = .ok (.ifCond .eq 22, 3) := by decide +kernel
theorem dX3_closeVoices_81 : decode cX3_closeVoices 81 = .ok (.aload_n 0, 1) := by decide +kernel
theorem dX3_closeVoices_82 : decode cX3_closeVoices 82 = .ok (.lconst 0, 1) := by decide +kernel
theorem dX3_closeVoices_83 : decode cX3_closeVoices 83 = .ok (.invokevirtual 240, 3) := by decide +kernel
theorem dX3_closeVoices_86 : decode cX3_closeVoices 86 = .ok (.ifCond .eq 18, 3) := by decide +kernel
theorem dX3_closeVoices_89 : decode cX3_closeVoices 89 = .ok (.aload_n 0, 1) := by decide +kernel
theorem dX3_closeVoices_90 : decode cX3_closeVoices 90 = .ok (.iload 4, 2) := by decide +kernel
theorem dX3_closeVoices_92 : decode cX3_closeVoices 92 = .ok (.lconst 0, 1) := by decide +kernel
theorem dX3_closeVoices_93 : decode cX3_closeVoices 93 = .ok (.lload_n 2, 1) := by decide +kernel
theorem dX3_closeVoices_94 : decode cX3_closeVoices 94 = .ok (.invokevirtual 243, 3) := by decide +kernel
theorem dX3_closeVoices_97 : decode cX3_closeVoices 97 = .ok (.ifCond .eq 7, 3) := by decide +kernel
theorem dX3_closeVoices_100 : decode cX3_closeVoices 100 = .ok (.iconst 1, 1) := by decide +kernel
theorem dX3_closeVoices_101 : decode cX3_closeVoices 101 = .ok (.goto 4, 3) := by decide +kernel
theorem dX3_closeVoices_104 : decode cX3_closeVoices 104 = .ok (.iconst 0, 1) := by decide +kernel
theorem dX3_closeVoices_105 : decode cX3_closeVoices 105 = .ok (.ireturn, 1) := by decide +kernel
abbrev rm_X3_closeVoices : Room := { frames := 3, cells := 0, slots := 0, locals := 75 }
def wp_X3_closeVoices (a : Nat) (p1 : Nat) (S : PS) (Q : Int32 → PS → Prop) : Prop :=
  (∀ S1, S1 = sI S 24 a ((fI S 24 a) - 1) → (∀ S2, S2 = sI S1 38 a ((fI S1 38 a) - 1) → (∀ S3, S3 = sI S2 27 a (fI S2 10 p1) → (∀ S4, S4 = sL S3 28 a (fL S3 13 p1) → (∀ S5, S5 = sL S4 29 a (fL S4 14 p1) → (∀ S6, S6 = sI S5 30 a (fI S5 15 p1) → (∀ v7, v7 = (fL S6 16 p1) - (fL S6 28 a) → (∃ b8, fR S6 21 a = some b8 ∧ wp_X6_placeOf b8 (fI S6 2 p1) S6 (fun (r10 : Int32) (S9 : PS) => 
 (if v7 = 0 then
 Q 1 S9
 else
 wp_X3_keepTie a 0 S9 (fun (r12 : Int32) (S11 : PS) => 
 (if r12 = 0 then
 Q 0 S11
 else
 wp_X3_append a r10 0 v7 S11 (fun (r14 : Int32) (S13 : PS) => 
 (if r14 = 0 then
 Q 0 S13
 else
 Q 1 S13))))))))))))))
set_option maxRecDepth 100000 in
set_option maxHeartbeats 4000000 in
theorem c_X3_closeVoices {l : Launch} {E : EE} {A : Nat → Prop} {a : Nat} {p1 : Nat} {S : PS} {Q : Int32 → PS → Prop} (r_a : Rf S a 3) (r_p1 : Rf S p1 1) (h : wp_X3_closeVoices a p1 S Q) : MtI l yX3_closeVoices (.code yX3_closeVoices cX3_closeVoices 5 (some .boolean)) rm_X3_closeVoices E A [.ref a, .ref p1] S (fun r S1 => nz r ∧ Q r S1) := by
  refine MtI.of (by decide) (Nat.le_of_ble_eq_true rfl) (fun X F hQ hN => ?_)
  show VV X (0, 0) S [(0, .ref a), (1, .ref p1)] [] 0
  unfold wp_X3_closeVoices at h
  refine v_aload_n F dX3_closeVoices_0 0 rfl rfl ?_
  refine v_dup F dX3_closeVoices_1 rfl ?_
  refine g_X3_48 F r_a dX3_closeVoices_2 ?_
  refine v_iconst (v := 1) F dX3_closeVoices_5 (by decide) ?_
  refine v_isub F dX3_closeVoices_6 ?_
  refine p_X3_48 F r_a h dX3_closeVoices_7 (fun S1 h hE => ?_)
  have r_a := r_a.tr hE
  have r_p1 := r_p1.tr hE
  refine v_aload_n F dX3_closeVoices_10 0 rfl rfl ?_
  refine v_dup F dX3_closeVoices_11 rfl ?_
  refine g_X3_119 F r_a dX3_closeVoices_12 ?_
  refine v_iconst (v := 1) F dX3_closeVoices_15 (by decide) ?_
  refine v_isub F dX3_closeVoices_16 ?_
  refine p_X3_119 F r_a h dX3_closeVoices_17 (fun S2 h hE => ?_)
  have r_a := r_a.tr hE
  have r_p1 := r_p1.tr hE
  refine v_aload_n F dX3_closeVoices_20 0 rfl rfl ?_
  refine v_aload_n F dX3_closeVoices_21 1 rfl rfl ?_
  refine g_X3_207 F r_p1 dX3_closeVoices_22 ?_
  refine p_X3_83 F r_a h dX3_closeVoices_25 (fun S3 h hE => ?_)
  have r_a := r_a.tr hE
  have r_p1 := r_p1.tr hE
  refine v_aload_n F dX3_closeVoices_28 0 rfl rfl ?_
  refine v_aload_n F dX3_closeVoices_29 1 rfl rfl ?_
  refine g_X3_212 F r_p1 dX3_closeVoices_30 ?_
  refine p_X3_86 F r_a h dX3_closeVoices_33 (fun S4 h hE => ?_)
  have r_a := r_a.tr hE
  have r_p1 := r_p1.tr hE
  refine v_aload_n F dX3_closeVoices_36 0 rfl rfl ?_
  refine v_aload_n F dX3_closeVoices_37 1 rfl rfl ?_
  refine g_X3_218 F r_p1 dX3_closeVoices_38 ?_
  refine p_X3_92 F r_a h dX3_closeVoices_41 (fun S5 h hE => ?_)
  have r_a := r_a.tr hE
  have r_p1 := r_p1.tr hE
  refine v_aload_n F dX3_closeVoices_44 0 rfl rfl ?_
  refine v_aload_n F dX3_closeVoices_45 1 rfl rfl ?_
  refine g_X3_221 F r_p1 dX3_closeVoices_46 ?_
  refine p_X3_95 F r_a h dX3_closeVoices_49 (fun S6 h hE => ?_)
  have r_a := r_a.tr hE
  have r_p1 := r_p1.tr hE
  refine v_aload_n F dX3_closeVoices_52 1 rfl rfl ?_
  refine g_X3_215 F r_p1 dX3_closeVoices_53 ?_
  refine v_aload_n F dX3_closeVoices_56 0 rfl rfl ?_
  refine g_X3_86 F r_a dX3_closeVoices_57 ?_
  refine v_lsub F dX3_closeVoices_60 ?_
  refine v_topl (fun v7 e_v7 => ?_)
  have h := h v7 e_v7
  refine v_lstore_n (lv1 := [(2, .long v7), (0, .ref a), (1, .ref p1)]) F dX3_closeVoices_61 rfl (by rw [hN]; decide) rfl ?_
  refine v_aload_n F dX3_closeVoices_62 1 rfl rfl ?_
  refine g_X3_9 F r_a h dX3_closeVoices_63 (fun b8 r_b8 h => ?_)
  refine v_aload_n F dX3_closeVoices_66 2 rfl rfl ?_
  refine g_X3_146 F r_p1 dX3_closeVoices_67 ?_
  refine v_cI0 (v_runV F k_X3_142 rfl (c_X6_placeOf r_b8 h) r_b8 rfl rfl (Nat.le_of_ble_eq_true rfl) (by decide) (by decide) dX3_closeVoices_70) ⟨rfl, rfl⟩ (fun r10 S9 h hE => ?_)
  have r_a := r_a.tr hE
  have r_p1 := r_p1.tr hE
  refine v_istore (lv1 := [(4, .int r10), (2, .long v7), (0, .ref a), (1, .ref p1)]) F dX3_closeVoices_73 (by rw [hN]; decide) rfl ?_
  refine v_lload_n F dX3_closeVoices_75 1 rfl rfl ?_
  refine v_lconst (v := 0) F dX3_closeVoices_76 (by decide) ?_
  refine v_lcmp_eq (tgt := 100) F dX3_closeVoices_77 dX3_closeVoices_78 (by decide) h (fun h => ?_) (fun h => ?_)
  · refine v_iconst (v := 1) F dX3_closeVoices_100 (by decide) ?_
    refine v_goto (tgt := 105) F dX3_closeVoices_101 (by decide) ?_
    exact v_zret F hQ (by decide) ⟨nz1, h⟩ (by decide) dX3_closeVoices_105
  · refine v_aload_n F dX3_closeVoices_81 2 rfl rfl ?_
    refine v_lconst (v := 0) F dX3_closeVoices_82 (by decide) ?_
    refine v_cI0 (v_runV F k_X3_240 rfl (c_X3_keepTie r_a h) r_a rfl rfl (Nat.le_of_ble_eq_true rfl) (by decide) (by decide) dX3_closeVoices_83) ⟨rfl, rfl⟩ (fun r12 S11 h hE => ?_)
    obtain ⟨nz_r12, h⟩ := h
    have r_a := r_a.tr hE
    have r_p1 := r_p1.tr hE
    refine v_if_eq (tgt := 104) F dX3_closeVoices_86 (by decide) h (fun h => ?_) (fun h => ?_)
    · refine v_iconst (v := 0) F dX3_closeVoices_104 (by decide) ?_
      exact v_zret F hQ (by decide) ⟨nz0, h⟩ (by decide) dX3_closeVoices_105
    · refine v_aload_n F dX3_closeVoices_89 2 rfl rfl ?_
      refine v_iload F dX3_closeVoices_90 0 rfl ?_
      refine v_lconst (v := 0) F dX3_closeVoices_92 (by decide) ?_
      refine v_lload_n F dX3_closeVoices_93 1 rfl rfl ?_
      refine v_cI0 (v_runV F k_X3_243 rfl (c_X3_append r_a h) r_a rfl rfl (Nat.le_of_ble_eq_true rfl) (by decide) (by decide) dX3_closeVoices_94) ⟨rfl, rfl⟩ (fun r14 S13 h hE => ?_)
      obtain ⟨nz_r14, h⟩ := h
      have r_a := r_a.tr hE
      have r_p1 := r_p1.tr hE
      refine v_if_eq (tgt := 104) F dX3_closeVoices_97 (by decide) h (fun h => ?_) (fun h => ?_)
      · refine v_iconst (v := 0) F dX3_closeVoices_104 (by decide) ?_
        exact v_zret F hQ (by decide) ⟨nz0, h⟩ (by decide) dX3_closeVoices_105
      · refine v_iconst (v := 1) F dX3_closeVoices_100 (by decide) ?_
        refine v_goto (tgt := 105) F dX3_closeVoices_101 (by decide) ?_
        exact v_zret F hQ (by decide) ⟨nz1, h⟩ (by decide) dX3_closeVoices_105
theorem dX3_nextVoice_0 : decode cX3_nextVoice 0 = .ok (.aload_n 1, 1) := by decide +kernel
theorem dX3_nextVoice_1 : decode cX3_nextVoice 1 = .ok (.getfield 212, 3) := by decide +kernel
theorem dX3_nextVoice_4 : decode cX3_nextVoice 4 = .ok (.ldc2_w 210, 3) := by decide +kernel
theorem dX3_nextVoice_7 : decode cX3_nextVoice 7 = .ok (.lcmp, 1) := by decide +kernel
theorem dX3_nextVoice_8 : decode cX3_nextVoice 8 = .ok (.ifCond .ne 30, 3) := by decide +kernel
theorem dX3_nextVoice_11 : decode cX3_nextVoice 11 = .ok (.aload_n 1, 1) := by decide +kernel
theorem dX3_nextVoice_12 : decode cX3_nextVoice 12 = .ok (.aload_n 0, 1) := by decide +kernel
theorem dX3_nextVoice_13 : decode cX3_nextVoice 13 = .ok (.getfield 86, 3) := by decide +kernel
theorem dX3_nextVoice_16 : decode cX3_nextVoice 16 = .ok (.putfield 212, 3) := by decide +kernel
theorem dX3_nextVoice_19 : decode cX3_nextVoice 19 = .ok (.aload_n 1, 1) := by decide +kernel
theorem dX3_nextVoice_20 : decode cX3_nextVoice 20 = .ok (.aload_n 0, 1) := by decide +kernel
theorem dX3_nextVoice_21 : decode cX3_nextVoice 21 = .ok (.getfield 92, 3) := by decide +kernel
theorem dX3_nextVoice_24 : decode cX3_nextVoice 24 = .ok (.putfield 218, 3) := by decide +kernel
theorem dX3_nextVoice_27 : decode cX3_nextVoice 27 = .ok (.aload_n 1, 1) := by decide +kernel
theorem dX3_nextVoice_28 : decode cX3_nextVoice 28 = .ok (.aload_n 0, 1) := by decide +kernel
theorem dX3_nextVoice_29 : decode cX3_nextVoice 29 = .ok (.getfield 95, 3) := by decide +kernel
theorem dX3_nextVoice_32 : decode cX3_nextVoice 32 = .ok (.putfield 221, 3) := by decide +kernel
theorem dX3_nextVoice_35 : decode cX3_nextVoice 35 = .ok (.goto 12, 3) := by decide +kernel
theorem dX3_nextVoice_38 : decode cX3_nextVoice 38 = .ok (.aload_n 0, 1) := by decide +kernel
theorem dX3_nextVoice_39 : decode cX3_nextVoice 39 = .ok (.invokevirtual 125, 3) := by decide +kernel
theorem dX3_nextVoice_42 : decode cX3_nextVoice 42 = .ok (.ifCond .ne 5, 3) := by decide +kernel
theorem dX3_nextVoice_45 : decode cX3_nextVoice 45 = .ok (.iconst 0, 1) := by decide +kernel
theorem dX3_nextVoice_46 : decode cX3_nextVoice 46 = .ok (.ireturn, 1) := by decide +kernel
theorem dX3_nextVoice_47 : decode cX3_nextVoice 47 = .ok (.aload_n 1, 1) := by decide +kernel
theorem dX3_nextVoice_48 : decode cX3_nextVoice 48 = .ok (.aload_n 1, 1) := by decide +kernel
theorem dX3_nextVoice_49 : decode cX3_nextVoice 49 = .ok (.getfield 215, 3) := by decide +kernel
theorem dX3_nextVoice_52 : decode cX3_nextVoice 52 = .ok (.aload_n 0, 1) := by decide +kernel
theorem dX3_nextVoice_53 : decode cX3_nextVoice 53 = .ok (.getfield 86, 3) := by decide +kernel
theorem dX3_nextVoice_56 : decode cX3_nextVoice 56 = .ok (.invokestatic 224, 3) := by decide +kernel
theorem dX3_nextVoice_59 : decode cX3_nextVoice 59 = .ok (.putfield 215, 3) := by decide +kernel
theorem dX3_nextVoice_62 : decode cX3_nextVoice 62 = .ok (.aload_n 1, 1) := by decide +kernel
theorem dX3_nextVoice_63 : decode cX3_nextVoice 63 = .ok (.getfield 62, 3) := by decide +kernel
theorem dX3_nextVoice_66 : decode cX3_nextVoice 66 = .ok (.istore_n 2, 1) := by decide +kernel
theorem dX3_nextVoice_67 : decode cX3_nextVoice 67 = .ok (.iload_n 2, 1) := by decide +kernel
theorem dX3_nextVoice_68 : decode cX3_nextVoice 68 = .ok (.aload_n 0, 1) := by decide +kernel
theorem dX3_nextVoice_69 : decode cX3_nextVoice 69 = .ok (.getfield 9, 3) := by decide +kernel
theorem dX3_nextVoice_72 : decode cX3_nextVoice 72 = .ok (.aload_n 1, 1) := by decide +kernel
theorem dX3_nextVoice_73 : decode cX3_nextVoice 73 = .ok (.getfield 146, 3) := by decide +kernel
theorem dX3_nextVoice_76 : decode cX3_nextVoice 76 = .ok (.invokevirtual 65, 3) := by decide +kernel
theorem dX3_nextVoice_79 : decode cX3_nextVoice 79 = .ok (.if_icmp .lt 9, 3) := by decide +kernel
theorem dX3_nextVoice_82 : decode cX3_nextVoice 82 = .ok (.aload_n 0, 1) := by decide +kernel
theorem dX3_nextVoice_83 : decode cX3_nextVoice 83 = .ok (.aload_n 1, 1) := by decide +kernel
theorem dX3_nextVoice_84 : decode cX3_nextVoice 84 = .ok (.invokevirtual 230, 3) := by decide +kernel
theorem dX3_nextVoice_87 : decode cX3_nextVoice 87 = .ok (.ireturn, 1) := by decide +kernel
theorem dX3_nextVoice_88 : decode cX3_nextVoice 88 = .ok (.aload_n 0, 1) := by decide +kernel
theorem dX3_nextVoice_89 : decode cX3_nextVoice 89 = .ok (.getfield 25, 3) := by decide +kernel
theorem dX3_nextVoice_92 : decode cX3_nextVoice 92 = .ok (.getfield 233, 3) := by decide +kernel
theorem dX3_nextVoice_95 : decode cX3_nextVoice 95 = .ok (.bipush 12, 2) := by decide +kernel
theorem dX3_nextVoice_97 : decode cX3_nextVoice 97 = .ok (.if_icmp .lt 13, 3) := by decide +kernel
theorem dX3_nextVoice_100 : decode cX3_nextVoice 100 = .ok (.aload_n 0, 1) := by decide +kernel
theorem dX3_nextVoice_101 : decode cX3_nextVoice 101 = .ok (.iconst 5, 1) := by decide +kernel
theorem dX3_nextVoice_102 : decode cX3_nextVoice 102 = .ok (.aload_n 1, 1) := by decide +kernel
theorem dX3_nextVoice_103 : decode cX3_nextVoice 103 = .ok (.getfield 146, 3) := by decide +kernel
theorem dX3_nextVoice_106 : decode cX3_nextVoice 106 = .ok (.invokevirtual 149, 3) := by decide +kernel
theorem dX3_nextVoice_109 : decode cX3_nextVoice 109 = .ok (.ireturn, 1) := by decide +kernel
theorem dX3_nextVoice_110 : decode cX3_nextVoice 110 = .ok (.aload_n 0, 1) := by decide +kernel
theorem dX3_nextVoice_111 : decode cX3_nextVoice 111 = .ok (.aload_n 0, 1) := by decide +kernel
theorem dX3_nextVoice_112 : decode cX3_nextVoice 112 = .ok (.getfield 25, 3) := by decide +kernel
theorem dX3_nextVoice_115 : decode cX3_nextVoice 115 = .ok (.aload_n 1, 1) := by decide +kernel
theorem dX3_nextVoice_116 : decode cX3_nextVoice 116 = .ok (.getfield 208, 3) := by decide +kernel
theorem dX3_nextVoice_119 : decode cX3_nextVoice 119 = .ok (.invokevirtual 236, 3) := by decide +kernel
theorem dX3_nextVoice_122 : decode cX3_nextVoice 122 = .ok (.putfield 83, 3) := by decide +kernel
theorem dX3_nextVoice_125 : decode cX3_nextVoice 125 = .ok (.aload_n 0, 1) := by decide +kernel
theorem dX3_nextVoice_126 : decode cX3_nextVoice 126 = .ok (.aload_n 1, 1) := by decide +kernel
theorem dX3_nextVoice_127 : decode cX3_nextVoice 127 = .ok (.getfield 208, 3) := by decide +kernel
theorem dX3_nextVoice_130 : decode cX3_nextVoice 130 = .ok (.putfield 86, 3) := by decide +kernel
theorem dX3_nextVoice_133 : decode cX3_nextVoice 133 = .ok (.aload_n 0, 1) := by decide +kernel
theorem dX3_nextVoice_134 : decode cX3_nextVoice 134 = .ok (.aload_n 1, 1) := by decide +kernel
theorem dX3_nextVoice_135 : decode cX3_nextVoice 135 = .ok (.getfield 209, 3) := by decide +kernel
theorem dX3_nextVoice_138 : decode cX3_nextVoice 138 = .ok (.putfield 92, 3) := by decide +kernel
theorem dX3_nextVoice_141 : decode cX3_nextVoice 141 = .ok (.aload_n 0, 1) := by decide +kernel
theorem dX3_nextVoice_142 : decode cX3_nextVoice 142 = .ok (.aload_n 1, 1) := by decide +kernel
theorem dX3_nextVoice_143 : decode cX3_nextVoice 143 = .ok (.getfield 181, 3) := by decide +kernel
theorem dX3_nextVoice_146 : decode cX3_nextVoice 146 = .ok (.putfield 95, 3) := by decide +kernel
theorem dX3_nextVoice_149 : decode cX3_nextVoice 149 = .ok (.aload_n 1, 1) := by decide +kernel
theorem dX3_nextVoice_150 : decode cX3_nextVoice 150 = .ok (.iload_n 2, 1) := by decide +kernel
theorem dX3_nextVoice_151 : decode cX3_nextVoice 151 = .ok (.iconst 1, 1) := by decide +kernel
theorem dX3_nextVoice_152 : decode cX3_nextVoice 152 = .ok (.iadd, 1) := by decide +kernel
theorem dX3_nextVoice_153 : decode cX3_nextVoice 153 = .ok (.putfield 59, 3) := by decide +kernel
theorem dX3_nextVoice_156 : decode cX3_nextVoice 156 = .ok (.aload_n 1, 1) := by decide +kernel
theorem dX3_nextVoice_157 : decode cX3_nextVoice 157 = .ok (.aload_n 0, 1) := by decide +kernel
theorem dX3_nextVoice_158 : decode cX3_nextVoice 158 = .ok (.getfield 9, 3) := by decide +kernel
theorem dX3_nextVoice_161 : decode cX3_nextVoice 161 = .ok (.iload_n 2, 1) := by decide +kernel
theorem dX3_nextVoice_162 : decode cX3_nextVoice 162 = .ok (.invokevirtual 65, 3) := by decide +kernel
theorem dX3_nextVoice_165 : decode cX3_nextVoice 165 = .ok (.putfield 62, 3) := by decide +kernel
theorem dX3_nextVoice_168 : decode cX3_nextVoice 168 = .ok (.iconst 1, 1) := by decide +kernel
theorem dX3_nextVoice_169 : decode cX3_nextVoice 169 = .ok (.ireturn, 1) := by decide +kernel
abbrev rm_X3_nextVoice : Room := { frames := 4, cells := 0, slots := 0, locals := 99 }
def wp_X3_nextVoice (a : Nat) (p1 : Nat) (S : PS) (Q : Int32 → PS → Prop) : Prop :=
  (∀ K47_2 : PS → Prop, (∀ (S1 : PS),
 (∀ S3, S3 = sL S1 16 p1 (if fL S1 28 a < fL S1 16 p1 then fL S1 16 p1 else fL S1 28 a) → (∀ v4, v4 = fI S3 4 p1 → (∃ b5, fR S3 21 a = some b5 ∧ wp_X6_behind b5 (fI S3 2 p1) S3 (fun (r7 : Int32) (S6 : PS) => 
 (if v4 < r7 then
 (∃ b8, fR S6 25 a = some b8 ∧ (if fI S6 79 b8 < 12 then
 (∃ b9, fR S6 25 a = some b9 ∧ wp_X8_addVoice b9 (fL S6 11 p1) S6 (fun (r11 : Int32) (S10 : PS) => 
 (∀ S12, S12 = sI S10 27 a r11 → (∀ S13, S13 = sL S12 28 a (fL S12 11 p1) → (∀ S14, S14 = sL S13 29 a (fL S13 12 p1) → (∀ S15, S15 = sI S14 30 a (fI S14 6 p1) → (∀ S16, S16 = sI S15 3 p1 (v4 + 1) → (∃ b17, fR S16 21 a = some b17 ∧ wp_X6_behind b17 v4 S16 (fun (r19 : Int32) (S18 : PS) => 
 (∀ S20, S20 = sI S18 4 p1 r19 → Q 1 S20))))))))))
 else
 wp_X3_tell a 5 (fI S6 2 p1) S6 (fun (r22 : Int32) (S21 : PS) => 
 Q r22 S21)))
 else
 wp_X3_closeVoices a p1 S6 (fun (r24 : Int32) (S23 : PS) => 
 Q r24 S23))))))
 → K47_2 S1) →
 (if fL S 13 p1 = (-1) then
 (∀ S27, S27 = sL S 13 p1 (fL S 28 a) → (∀ S28, S28 = sL S27 14 p1 (fL S27 29 a) → (∀ S29, S29 = sI S28 15 p1 (fI S28 30 a) → K47_2 S29)))
 else
 wp_X3_endVoice a S (fun (r26 : Int32) (S25 : PS) => 
 (if r26 = 0 then
 Q 0 S25
 else
 K47_2 S25))))
set_option maxRecDepth 100000 in
set_option maxHeartbeats 4000000 in
theorem c_X3_nextVoice {l : Launch} {E : EE} {A : Nat → Prop} {a : Nat} {p1 : Nat} {S : PS} {Q : Int32 → PS → Prop} (r_a : Rf S a 3) (r_p1 : Rf S p1 1) (h : wp_X3_nextVoice a p1 S Q) : MtI l yX3_nextVoice (.code yX3_nextVoice cX3_nextVoice 3 (some .boolean)) rm_X3_nextVoice E A [.ref a, .ref p1] S (fun r S1 => nz r ∧ Q r S1) := by
  refine MtI.of (by decide) (Nat.le_of_ble_eq_true rfl) (fun X F hQ hN => ?_)
  show VV X (0, 0) S [(0, .ref a), (1, .ref p1)] [] 0
  unfold wp_X3_nextVoice at h
  refine v_aload_n F dX3_nextVoice_0 1 rfl rfl ?_
  refine g_X3_212 F r_p1 dX3_nextVoice_1 ?_
  refine v_ldc2 F kc_X3_210 dX3_nextVoice_4 ?_
  have h := h (fun (S1 : PS) => Rf S1 a 3 → Rf S1 p1 1 → VV X (0, 0) S1 [(0, .ref a), (1, .ref p1)] [] 47) (by
    intro S1 h r_a r_p1
    refine v_aload_n F dX3_nextVoice_47 1 rfl rfl ?_
    refine v_aload_n F dX3_nextVoice_48 1 rfl rfl ?_
    refine g_X3_215 F r_p1 dX3_nextVoice_49 ?_
    refine v_aload_n F dX3_nextVoice_52 0 rfl rfl ?_
    refine g_X3_86 F r_a dX3_nextVoice_53 ?_
    refine v_mmaxl F k_X3_224 (by decide) (Nat.le_of_ble_eq_true rfl) dX3_nextVoice_56 ?_
    refine p_X3_215 F r_p1 h dX3_nextVoice_59 (fun S3 h hE => ?_)
    have r_a := r_a.tr hE
    have r_p1 := r_p1.tr hE
    refine v_aload_n F dX3_nextVoice_62 1 rfl rfl ?_
    refine g_X3_62 F r_p1 dX3_nextVoice_63 ?_
    refine v_topi (fun v4 e_v4 => ?_)
    have h := h v4 e_v4
    refine v_istore_n (lv1 := [(2, .int v4), (0, .ref a), (1, .ref p1)]) F dX3_nextVoice_66 rfl (by rw [hN]; decide) rfl ?_
    refine v_iload_n F dX3_nextVoice_67 0 rfl rfl ?_
    refine v_aload_n F dX3_nextVoice_68 1 rfl rfl ?_
    refine g_X3_9 F r_a h dX3_nextVoice_69 (fun b5 r_b5 h => ?_)
    refine v_aload_n F dX3_nextVoice_72 2 rfl rfl ?_
    refine g_X3_146 F r_p1 dX3_nextVoice_73 ?_
    refine v_cI0 (v_runV F k_X3_65 rfl (c_X6_behind r_b5 h) r_b5 rfl rfl (Nat.le_of_ble_eq_true rfl) (by decide) (by decide) dX3_nextVoice_76) ⟨rfl, rfl⟩ (fun r7 S6 h hE => ?_)
    have r_a := r_a.tr hE
    have r_p1 := r_p1.tr hE
    refine v_icmp_lt (tgt := 88) F dX3_nextVoice_79 (by decide) h (fun h => ?_) (fun h => ?_)
    · refine v_aload_n F dX3_nextVoice_88 1 rfl rfl ?_
      refine g_X3_25 F r_a h dX3_nextVoice_89 (fun b8 r_b8 h => ?_)
      refine g_X3_233 F r_b8 dX3_nextVoice_92 ?_
      refine v_bipush (v := 12) F dX3_nextVoice_95 (by decide) ?_
      refine v_icmp_lt (tgt := 110) F dX3_nextVoice_97 (by decide) h (fun h => ?_) (fun h => ?_)
      · refine v_aload_n F dX3_nextVoice_110 1 rfl rfl ?_
        refine v_aload_n F dX3_nextVoice_111 1 rfl rfl ?_
        refine g_X3_25 F r_a h dX3_nextVoice_112 (fun b9 r_b9 h => ?_)
        refine v_aload_n F dX3_nextVoice_115 2 rfl rfl ?_
        refine g_X3_208 F r_p1 dX3_nextVoice_116 ?_
        refine v_cI0 (v_runV F k_X3_236 rfl (c_X8_addVoice r_b9 h) r_b9 rfl rfl (Nat.le_of_ble_eq_true rfl) (by decide) (by decide) dX3_nextVoice_119) ⟨rfl, rfl⟩ (fun r11 S10 h hE => ?_)
        have r_a := r_a.tr hE
        have r_p1 := r_p1.tr hE
        refine p_X3_83 F r_a h dX3_nextVoice_122 (fun S12 h hE => ?_)
        have r_a := r_a.tr hE
        have r_p1 := r_p1.tr hE
        refine v_aload_n F dX3_nextVoice_125 1 rfl rfl ?_
        refine v_aload_n F dX3_nextVoice_126 2 rfl rfl ?_
        refine g_X3_208 F r_p1 dX3_nextVoice_127 ?_
        refine p_X3_86 F r_a h dX3_nextVoice_130 (fun S13 h hE => ?_)
        have r_a := r_a.tr hE
        have r_p1 := r_p1.tr hE
        refine v_aload_n F dX3_nextVoice_133 1 rfl rfl ?_
        refine v_aload_n F dX3_nextVoice_134 2 rfl rfl ?_
        refine g_X3_209 F r_p1 dX3_nextVoice_135 ?_
        refine p_X3_92 F r_a h dX3_nextVoice_138 (fun S14 h hE => ?_)
        have r_a := r_a.tr hE
        have r_p1 := r_p1.tr hE
        refine v_aload_n F dX3_nextVoice_141 1 rfl rfl ?_
        refine v_aload_n F dX3_nextVoice_142 2 rfl rfl ?_
        refine g_X3_181 F r_p1 dX3_nextVoice_143 ?_
        refine p_X3_95 F r_a h dX3_nextVoice_146 (fun S15 h hE => ?_)
        have r_a := r_a.tr hE
        have r_p1 := r_p1.tr hE
        refine v_aload_n F dX3_nextVoice_149 2 rfl rfl ?_
        refine v_iload_n F dX3_nextVoice_150 0 rfl rfl ?_
        refine v_iconst (v := 1) F dX3_nextVoice_151 (by decide) ?_
        refine v_iadd F dX3_nextVoice_152 ?_
        refine p_X3_59 F r_p1 h dX3_nextVoice_153 (fun S16 h hE => ?_)
        have r_a := r_a.tr hE
        have r_p1 := r_p1.tr hE
        refine v_aload_n F dX3_nextVoice_156 2 rfl rfl ?_
        refine v_aload_n F dX3_nextVoice_157 1 rfl rfl ?_
        refine g_X3_9 F r_a h dX3_nextVoice_158 (fun b17 r_b17 h => ?_)
        refine v_iload_n F dX3_nextVoice_161 0 rfl rfl ?_
        refine v_cI0 (v_runV F k_X3_65 rfl (c_X6_behind r_b17 h) r_b17 rfl rfl (Nat.le_of_ble_eq_true rfl) (by decide) (by decide) dX3_nextVoice_162) ⟨rfl, rfl⟩ (fun r19 S18 h hE => ?_)
        have r_a := r_a.tr hE
        have r_p1 := r_p1.tr hE
        refine p_X3_62 F r_p1 h dX3_nextVoice_165 (fun S20 h hE => ?_)
        have r_a := r_a.tr hE
        have r_p1 := r_p1.tr hE
        refine v_iconst (v := 1) F dX3_nextVoice_168 (by decide) ?_
        exact v_zret F hQ (by decide) ⟨nz1, h⟩ (by decide) dX3_nextVoice_169
      · refine v_aload_n F dX3_nextVoice_100 1 rfl rfl ?_
        refine v_iconst (v := 5) F dX3_nextVoice_101 (by decide) ?_
        refine v_aload_n F dX3_nextVoice_102 2 rfl rfl ?_
        refine g_X3_146 F r_p1 dX3_nextVoice_103 ?_
        refine v_cI0 (v_runV F k_X3_149 rfl (c_X3_tell r_a h) r_a rfl rfl (Nat.le_of_ble_eq_true rfl) (by decide) (by decide) dX3_nextVoice_106) ⟨rfl, rfl⟩ (fun r22 S21 h hE => ?_)
        obtain ⟨nz_r22, h⟩ := h
        have r_a := r_a.tr hE
        have r_p1 := r_p1.tr hE
        exact v_zret F hQ nz_r22 ⟨nz_r22, h⟩ (by decide) dX3_nextVoice_109
    · refine v_aload_n F dX3_nextVoice_82 1 rfl rfl ?_
      refine v_aload_n F dX3_nextVoice_83 2 rfl rfl ?_
      refine v_cI0 (v_runV F k_X3_230 rfl (c_X3_closeVoices r_a r_p1 h) r_a rfl rfl (Nat.le_of_ble_eq_true rfl) (by decide) (by decide) dX3_nextVoice_84) ⟨rfl, rfl⟩ (fun r24 S23 h hE => ?_)
      obtain ⟨nz_r24, h⟩ := h
      have r_a := r_a.tr hE
      have r_p1 := r_p1.tr hE
      exact v_zret F hQ nz_r24 ⟨nz_r24, h⟩ (by decide) dX3_nextVoice_87)
  refine v_lcmp_ne (tgt := 38) F dX3_nextVoice_7 dX3_nextVoice_8 (by decide) h (fun h => ?_) (fun h => ?_)
  · refine v_aload_n F dX3_nextVoice_38 0 rfl rfl ?_
    refine v_cI0 (v_runV F k_X3_125 rfl (c_X3_endVoice r_a h) r_a rfl rfl (Nat.le_of_ble_eq_true rfl) (by decide) (by decide) dX3_nextVoice_39) ⟨rfl, rfl⟩ (fun r26 S25 h hE => ?_)
    obtain ⟨nz_r26, h⟩ := h
    have r_a := r_a.tr hE
    have r_p1 := r_p1.tr hE
    refine v_if_ne (tgt := 47) F dX3_nextVoice_42 (by decide) h (fun h => ?_) (fun h => ?_)
    · exact v_sub [0, 1] rfl (h r_a r_p1)
    · refine v_iconst (v := 0) F dX3_nextVoice_45 (by decide) ?_
      exact v_zret F hQ (by decide) ⟨nz0, h⟩ (by decide) dX3_nextVoice_46
  · refine v_aload_n F dX3_nextVoice_11 1 rfl rfl ?_
    refine v_aload_n F dX3_nextVoice_12 0 rfl rfl ?_
    refine g_X3_86 F r_a dX3_nextVoice_13 ?_
    refine p_X3_212 F r_p1 h dX3_nextVoice_16 (fun S27 h hE => ?_)
    have r_a := r_a.tr hE
    have r_p1 := r_p1.tr hE
    refine v_aload_n F dX3_nextVoice_19 1 rfl rfl ?_
    refine v_aload_n F dX3_nextVoice_20 0 rfl rfl ?_
    refine g_X3_92 F r_a dX3_nextVoice_21 ?_
    refine p_X3_218 F r_p1 h dX3_nextVoice_24 (fun S28 h hE => ?_)
    have r_a := r_a.tr hE
    have r_p1 := r_p1.tr hE
    refine v_aload_n F dX3_nextVoice_27 1 rfl rfl ?_
    refine v_aload_n F dX3_nextVoice_28 0 rfl rfl ?_
    refine g_X3_95 F r_a dX3_nextVoice_29 ?_
    refine p_X3_221 F r_p1 h dX3_nextVoice_32 (fun S29 h hE => ?_)
    have r_a := r_a.tr hE
    have r_p1 := r_p1.tr hE
    refine v_goto (tgt := 47) F dX3_nextVoice_35 (by decide) ?_
    exact v_sub [0, 1] rfl (h r_a r_p1)
theorem dX3_end_0 : decode cX3_end 0 = .ok (.aload_n 0, 1) := by decide +kernel
theorem dX3_end_1 : decode cX3_end 1 = .ok (.getfield 9, 3) := by decide +kernel
theorem dX3_end_4 : decode cX3_end 4 = .ok (.aload_n 1, 1) := by decide +kernel
theorem dX3_end_5 : decode cX3_end 5 = .ok (.getfield 146, 3) := by decide +kernel
theorem dX3_end_8 : decode cX3_end 8 = .ok (.invokevirtual 150, 3) := by decide +kernel
theorem dX3_end_11 : decode cX3_end 11 = .ok (.lookupswitch 183 #[(36, 162), (76, 69), (82, 57), (84, 90), (88, 119), (91, 63)], 57) := by decide +kernel
theorem dX3_end_68 : decode cX3_end 68 = .ok (.aload_n 0, 1) := by decide +kernel
theorem dX3_end_69 : decode cX3_end 69 = .ok (.aload_n 1, 1) := by decide +kernel
theorem dX3_end_70 : decode cX3_end 70 = .ok (.invokevirtual 193, 3) := by decide +kernel
theorem dX3_end_73 : decode cX3_end 73 = .ok (.ireturn, 1) := by decide +kernel
theorem dX3_end_74 : decode cX3_end 74 = .ok (.aload_n 0, 1) := by decide +kernel
theorem dX3_end_75 : decode cX3_end 75 = .ok (.aload_n 1, 1) := by decide +kernel
theorem dX3_end_76 : decode cX3_end 76 = .ok (.invokevirtual 196, 3) := by decide +kernel
theorem dX3_end_79 : decode cX3_end 79 = .ok (.ireturn, 1) := by decide +kernel
theorem dX3_end_80 : decode cX3_end 80 = .ok (.aload_n 0, 1) := by decide +kernel
theorem dX3_end_81 : decode cX3_end 81 = .ok (.aload_n 1, 1) := by decide +kernel
theorem dX3_end_82 : decode cX3_end 82 = .ok (.getfield 181, 3) := by decide +kernel
theorem dX3_end_85 : decode cX3_end 85 = .ok (.putfield 95, 3) := by decide +kernel
theorem dX3_end_88 : decode cX3_end 88 = .ok (.aload_n 0, 1) := by decide +kernel
theorem dX3_end_89 : decode cX3_end 89 = .ok (.dup, 1) := by decide +kernel
theorem dX3_end_90 : decode cX3_end 90 = .ok (.getfield 98, 3) := by decide +kernel
theorem dX3_end_93 : decode cX3_end 93 = .ok (.iconst 1, 1) := by decide +kernel
theorem dX3_end_94 : decode cX3_end 94 = .ok (.isub, 1) := by decide +kernel
theorem dX3_end_95 : decode cX3_end 95 = .ok (.putfield 98, 3) := by decide +kernel
theorem dX3_end_98 : decode cX3_end 98 = .ok (.goto 96, 3) := by decide +kernel
theorem dX3_end_101 : decode cX3_end 101 = .ok (.aload_n 0, 1) := by decide +kernel
theorem dX3_end_102 : decode cX3_end 102 = .ok (.aload_n 1, 1) := by decide +kernel
theorem dX3_end_103 : decode cX3_end 103 = .ok (.getfield 182, 3) := by decide +kernel
theorem dX3_end_106 : decode cX3_end 106 = .ok (.putfield 104, 3) := by decide +kernel
theorem dX3_end_109 : decode cX3_end 109 = .ok (.aload_n 0, 1) := by decide +kernel
theorem dX3_end_110 : decode cX3_end 110 = .ok (.aload_n 1, 1) := by decide +kernel
theorem dX3_end_111 : decode cX3_end 111 = .ok (.getfield 183, 3) := by decide +kernel
theorem dX3_end_114 : decode cX3_end 114 = .ok (.putfield 107, 3) := by decide +kernel
theorem dX3_end_117 : decode cX3_end 117 = .ok (.aload_n 0, 1) := by decide +kernel
theorem dX3_end_118 : decode cX3_end 118 = .ok (.dup, 1) := by decide +kernel
theorem dX3_end_119 : decode cX3_end 119 = .ok (.getfield 101, 3) := by decide +kernel
theorem dX3_end_122 : decode cX3_end 122 = .ok (.iconst 1, 1) := by decide +kernel
theorem dX3_end_123 : decode cX3_end 123 = .ok (.isub, 1) := by decide +kernel
theorem dX3_end_124 : decode cX3_end 124 = .ok (.putfield 101, 3) := by decide +kernel
theorem dX3_end_127 : decode cX3_end 127 = .ok (.goto 67, 3) := by decide +kernel
theorem dX3_end_130 : decode cX3_end 130 = .ok (.aload_n 0, 1) := by decide +kernel
theorem dX3_end_131 : decode cX3_end 131 = .ok (.dup, 1) := by decide +kernel
theorem dX3_end_132 : decode cX3_end 132 = .ok (.getfield 110, 3) := by decide +kernel
theorem dX3_end_135 : decode cX3_end 135 = .ok (.aload_n 0, 1) := by decide +kernel
theorem dX3_end_136 : decode cX3_end 136 = .ok (.getfield 9, 3) := by decide +kernel
theorem dX3_end_139 : decode cX3_end 139 = .ok (.aload_n 1, 1) := by decide +kernel
theorem dX3_end_140 : decode cX3_end 140 = .ok (.getfield 146, 3) := by decide +kernel
theorem dX3_end_143 : decode cX3_end 143 = .ok (.invokevirtual 187, 3) := by decide +kernel
theorem dX3_end_146 : decode cX3_end 146 = .ok (.isub, 1) := by decide +kernel
theorem dX3_end_147 : decode cX3_end 147 = .ok (.putfield 110, 3) := by decide +kernel
theorem dX3_end_150 : decode cX3_end 150 = .ok (.aload_n 0, 1) := by decide +kernel
theorem dX3_end_151 : decode cX3_end 151 = .ok (.dup, 1) := by decide +kernel
theorem dX3_end_152 : decode cX3_end 152 = .ok (.getfield 113, 3) := by decide +kernel
theorem dX3_end_155 : decode cX3_end 155 = .ok (.aload_n 0, 1) := by decide +kernel
theorem dX3_end_156 : decode cX3_end 156 = .ok (.getfield 9, 3) := by decide +kernel
theorem dX3_end_159 : decode cX3_end 159 = .ok (.aload_n 1, 1) := by decide +kernel
theorem dX3_end_160 : decode cX3_end 160 = .ok (.getfield 146, 3) := by decide +kernel
theorem dX3_end_163 : decode cX3_end 163 = .ok (.invokevirtual 184, 3) := by decide +kernel
theorem dX3_end_166 : decode cX3_end 166 = .ok (.isub, 1) := by decide +kernel
theorem dX3_end_167 : decode cX3_end 167 = .ok (.putfield 113, 3) := by decide +kernel
theorem dX3_end_170 : decode cX3_end 170 = .ok (.goto 24, 3) := by decide +kernel
theorem dX3_end_173 : decode cX3_end 173 = .ok (.aload_n 0, 1) := by decide +kernel
theorem dX3_end_174 : decode cX3_end 174 = .ok (.aload_n 1, 1) := by decide +kernel
theorem dX3_end_175 : decode cX3_end 175 = .ok (.getfield 199, 3) := by decide +kernel
theorem dX3_end_178 : decode cX3_end 178 = .ok (.putfield 122, 3) := by decide +kernel
theorem dX3_end_181 : decode cX3_end 181 = .ok (.aload_n 0, 1) := by decide +kernel
theorem dX3_end_182 : decode cX3_end 182 = .ok (.dup, 1) := by decide +kernel
theorem dX3_end_183 : decode cX3_end 183 = .ok (.getfield 116, 3) := by decide +kernel
theorem dX3_end_186 : decode cX3_end 186 = .ok (.iconst 1, 1) := by decide +kernel
theorem dX3_end_187 : decode cX3_end 187 = .ok (.isub, 1) := by decide +kernel
theorem dX3_end_188 : decode cX3_end 188 = .ok (.putfield 116, 3) := by decide +kernel
theorem dX3_end_191 : decode cX3_end 191 = .ok (.goto 3, 3) := by decide +kernel
theorem dX3_end_194 : decode cX3_end 194 = .ok (.aload_n 0, 1) := by decide +kernel
theorem dX3_end_195 : decode cX3_end 195 = .ok (.dup, 1) := by decide +kernel
theorem dX3_end_196 : decode cX3_end 196 = .ok (.getfield 48, 3) := by decide +kernel
theorem dX3_end_199 : decode cX3_end 199 = .ok (.iconst 1, 1) := by decide +kernel
theorem dX3_end_200 : decode cX3_end 200 = .ok (.isub, 1) := by decide +kernel
theorem dX3_end_201 : decode cX3_end 201 = .ok (.putfield 48, 3) := by decide +kernel
theorem dX3_end_204 : decode cX3_end 204 = .ok (.iconst 1, 1) := by decide +kernel
theorem dX3_end_205 : decode cX3_end 205 = .ok (.ireturn, 1) := by decide +kernel
abbrev rm_X3_end : Room := { frames := 5, cells := 0, slots := 0, locals := 121 }
def wp_X3_end (a : Nat) (p1 : Nat) (S : PS) (Q : Int32 → PS → Prop) : Prop :=
  (∃ b1, fR S 21 a = some b1 ∧ wp_X6_kindOf b1 (fI S 2 p1) S (fun (r3 : Int32) (S2 : PS) => 
 (∀ K194_5 : PS → Prop, (∀ (S4 : PS),
 (∀ S6, S6 = sI S4 24 a ((fI S4 24 a) - 1) → Q 1 S6)
 → K194_5 S4) →
 (if r3 = 36 then
 (∀ S7, S7 = sI S2 39 a (fI S2 7 p1) → (∀ S8, S8 = sI S7 37 a ((fI S7 37 a) - 1) → K194_5 S8))
 else (if r3 = 76 then
 (∀ S10, S10 = sI S2 30 a (fI S2 6 p1) → (∀ S11, S11 = sI S10 31 a ((fI S10 31 a) - 1) → K194_5 S11))
 else (if r3 = 82 then
 wp_X3_nextRound a p1 S2 (fun (r14 : Int32) (S13 : PS) => 
 Q r14 S13)
 else (if r3 = 84 then
 (∀ S16, S16 = sL S2 33 a (fL S2 8 p1) → (∀ S17, S17 = sL S16 34 a (fL S16 9 p1) → (∀ S18, S18 = sI S17 32 a ((fI S17 32 a) - 1) → K194_5 S18)))
 else (if r3 = 88 then
 (∃ b20, fR S2 21 a = some b20 ∧ wp_X6_one b20 (fI S2 2 p1) S2 (fun (r22 : Int32) (S21 : PS) => 
 (∀ S23, S23 = sI S21 35 a ((fI S2 35 a) - r22) → (∃ b24, fR S23 21 a = some b24 ∧ wp_X6_two b24 (fI S23 2 p1) S23 (fun (r26 : Int32) (S25 : PS) => 
 (∀ S27, S27 = sI S25 36 a ((fI S23 36 a) - r26) → K194_5 S27))))))
 else (if r3 = 91 then
 wp_X3_nextVoice a p1 S2 (fun (r30 : Int32) (S29 : PS) => 
 Q r30 S29)
 else K194_5 S2)))))))))
set_option maxRecDepth 100000 in
set_option maxHeartbeats 4000000 in
theorem c_X3_end {l : Launch} {E : EE} {A : Nat → Prop} {a : Nat} {p1 : Nat} {S : PS} {Q : Int32 → PS → Prop} (r_a : Rf S a 3) (r_p1 : Rf S p1 1) (h : wp_X3_end a p1 S Q) : MtI l yX3_end (.code yX3_end cX3_end 2 (some .boolean)) rm_X3_end E A [.ref a, .ref p1] S (fun r S1 => nz r ∧ Q r S1) := by
  refine MtI.of (by decide) (Nat.le_of_ble_eq_true rfl) (fun X F hQ hN => ?_)
  show VV X (0, 0) S [(0, .ref a), (1, .ref p1)] [] 0
  unfold wp_X3_end at h
  refine v_aload_n F dX3_end_0 0 rfl rfl ?_
  refine g_X3_9 F r_a h dX3_end_1 (fun b1 r_b1 h => ?_)
  refine v_aload_n F dX3_end_4 1 rfl rfl ?_
  refine g_X3_146 F r_p1 dX3_end_5 ?_
  refine v_cI0 (v_runV F k_X3_150 rfl (c_X6_kindOf r_b1 h) r_b1 rfl rfl (Nat.le_of_ble_eq_true rfl) (by decide) (by decide) dX3_end_8) ⟨rfl, rfl⟩ (fun r3 S2 h hE => ?_)
  have r_a := r_a.tr hE
  have r_p1 := r_p1.tr hE
  have h := h (fun (S4 : PS) => Rf S4 a 3 → VV X (0, 0) S4 [(0, .ref a)] [] 194) (by
    intro S4 h r_a
    refine v_aload_n F dX3_end_194 0 rfl rfl ?_
    refine v_dup F dX3_end_195 rfl ?_
    refine g_X3_48 F r_a dX3_end_196 ?_
    refine v_iconst (v := 1) F dX3_end_199 (by decide) ?_
    refine v_isub F dX3_end_200 ?_
    refine p_X3_48 F r_a h dX3_end_201 (fun S6 h hE => ?_)
    have r_a := r_a.tr hE
    refine v_iconst (v := 1) F dX3_end_204 (by decide) ?_
    exact v_zret F hQ (by decide) ⟨nz1, h⟩ (by decide) dX3_end_205)
  refine v_case h (fun e9 h => ?_) (fun e9 h => ?_)
  · refine v_lookupL (l := [(36, 162), (76, 69), (82, 57), (84, 90), (88, 119), (91, 63)]) (off := 162) (tgt := 173) F dX3_end_11 rfl (by decide) (by rw [e9] <;> rfl) (by decide) ?_
    refine v_aload_n F dX3_end_173 0 rfl rfl ?_
    refine v_aload_n F dX3_end_174 1 rfl rfl ?_
    refine g_X3_199 F r_p1 dX3_end_175 ?_
    refine p_X3_122 F r_a h dX3_end_178 (fun S7 h hE => ?_)
    have r_a := r_a.tr hE
    have r_p1 := r_p1.tr hE
    refine v_aload_n F dX3_end_181 0 rfl rfl ?_
    refine v_dup F dX3_end_182 rfl ?_
    refine g_X3_116 F r_a dX3_end_183 ?_
    refine v_iconst (v := 1) F dX3_end_186 (by decide) ?_
    refine v_isub F dX3_end_187 ?_
    refine p_X3_116 F r_a h dX3_end_188 (fun S8 h hE => ?_)
    have r_a := r_a.tr hE
    have r_p1 := r_p1.tr hE
    refine v_goto (tgt := 194) F dX3_end_191 (by decide) ?_
    exact v_sub [0] rfl (h r_a)
  refine v_case h (fun e12 h => ?_) (fun e12 h => ?_)
  · refine v_lookupL (l := [(36, 162), (76, 69), (82, 57), (84, 90), (88, 119), (91, 63)]) (off := 69) (tgt := 80) F dX3_end_11 rfl (by decide) (by rw [e12] <;> rfl) (by decide) ?_
    refine v_aload_n F dX3_end_80 0 rfl rfl ?_
    refine v_aload_n F dX3_end_81 1 rfl rfl ?_
    refine g_X3_181 F r_p1 dX3_end_82 ?_
    refine p_X3_95 F r_a h dX3_end_85 (fun S10 h hE => ?_)
    have r_a := r_a.tr hE
    have r_p1 := r_p1.tr hE
    refine v_aload_n F dX3_end_88 0 rfl rfl ?_
    refine v_dup F dX3_end_89 rfl ?_
    refine g_X3_98 F r_a dX3_end_90 ?_
    refine v_iconst (v := 1) F dX3_end_93 (by decide) ?_
    refine v_isub F dX3_end_94 ?_
    refine p_X3_98 F r_a h dX3_end_95 (fun S11 h hE => ?_)
    have r_a := r_a.tr hE
    have r_p1 := r_p1.tr hE
    refine v_goto (tgt := 194) F dX3_end_98 (by decide) ?_
    exact v_sub [0] rfl (h r_a)
  refine v_case h (fun e15 h => ?_) (fun e15 h => ?_)
  · refine v_lookupL (l := [(36, 162), (76, 69), (82, 57), (84, 90), (88, 119), (91, 63)]) (off := 57) (tgt := 68) F dX3_end_11 rfl (by decide) (by rw [e15] <;> rfl) (by decide) ?_
    refine v_aload_n F dX3_end_68 0 rfl rfl ?_
    refine v_aload_n F dX3_end_69 1 rfl rfl ?_
    refine v_cI0 (v_runV F k_X3_193 rfl (c_X3_nextRound r_a r_p1 h) r_a rfl rfl (Nat.le_of_ble_eq_true rfl) (by decide) (by decide) dX3_end_70) ⟨rfl, rfl⟩ (fun r14 S13 h hE => ?_)
    obtain ⟨nz_r14, h⟩ := h
    have r_a := r_a.tr hE
    have r_p1 := r_p1.tr hE
    exact v_zret F hQ nz_r14 ⟨nz_r14, h⟩ (by decide) dX3_end_73
  refine v_case h (fun e19 h => ?_) (fun e19 h => ?_)
  · refine v_lookupL (l := [(36, 162), (76, 69), (82, 57), (84, 90), (88, 119), (91, 63)]) (off := 90) (tgt := 101) F dX3_end_11 rfl (by decide) (by rw [e19] <;> rfl) (by decide) ?_
    refine v_aload_n F dX3_end_101 0 rfl rfl ?_
    refine v_aload_n F dX3_end_102 1 rfl rfl ?_
    refine g_X3_182 F r_p1 dX3_end_103 ?_
    refine p_X3_104 F r_a h dX3_end_106 (fun S16 h hE => ?_)
    have r_a := r_a.tr hE
    have r_p1 := r_p1.tr hE
    refine v_aload_n F dX3_end_109 0 rfl rfl ?_
    refine v_aload_n F dX3_end_110 1 rfl rfl ?_
    refine g_X3_183 F r_p1 dX3_end_111 ?_
    refine p_X3_107 F r_a h dX3_end_114 (fun S17 h hE => ?_)
    have r_a := r_a.tr hE
    have r_p1 := r_p1.tr hE
    refine v_aload_n F dX3_end_117 0 rfl rfl ?_
    refine v_dup F dX3_end_118 rfl ?_
    refine g_X3_101 F r_a dX3_end_119 ?_
    refine v_iconst (v := 1) F dX3_end_122 (by decide) ?_
    refine v_isub F dX3_end_123 ?_
    refine p_X3_101 F r_a h dX3_end_124 (fun S18 h hE => ?_)
    have r_a := r_a.tr hE
    have r_p1 := r_p1.tr hE
    refine v_goto (tgt := 194) F dX3_end_127 (by decide) ?_
    exact v_sub [0] rfl (h r_a)
  refine v_case h (fun e28 h => ?_) (fun e28 h => ?_)
  · refine v_lookupL (l := [(36, 162), (76, 69), (82, 57), (84, 90), (88, 119), (91, 63)]) (off := 119) (tgt := 130) F dX3_end_11 rfl (by decide) (by rw [e28] <;> rfl) (by decide) ?_
    refine v_aload_n F dX3_end_130 0 rfl rfl ?_
    refine v_dup F dX3_end_131 rfl ?_
    refine g_X3_110 F r_a dX3_end_132 ?_
    refine v_aload_n F dX3_end_135 0 rfl rfl ?_
    refine g_X3_9 F r_a h dX3_end_136 (fun b20 r_b20 h => ?_)
    refine v_aload_n F dX3_end_139 1 rfl rfl ?_
    refine g_X3_146 F r_p1 dX3_end_140 ?_
    refine v_cI0 (v_runV F k_X3_187 rfl (c_X6_one r_b20 h) r_b20 rfl rfl (Nat.le_of_ble_eq_true rfl) (by decide) (by decide) dX3_end_143) ⟨rfl, rfl⟩ (fun r22 S21 h hE => ?_)
    have r_a := r_a.tr hE
    have r_p1 := r_p1.tr hE
    refine v_isub F dX3_end_146 ?_
    refine p_X3_110 F r_a h dX3_end_147 (fun S23 h hE => ?_)
    have r_a := r_a.tr hE
    have r_p1 := r_p1.tr hE
    refine v_aload_n F dX3_end_150 0 rfl rfl ?_
    refine v_dup F dX3_end_151 rfl ?_
    refine g_X3_113 F r_a dX3_end_152 ?_
    refine v_aload_n F dX3_end_155 0 rfl rfl ?_
    refine g_X3_9 F r_a h dX3_end_156 (fun b24 r_b24 h => ?_)
    refine v_aload_n F dX3_end_159 1 rfl rfl ?_
    refine g_X3_146 F r_p1 dX3_end_160 ?_
    refine v_cI0 (v_runV F k_X3_184 rfl (c_X6_two r_b24 h) r_b24 rfl rfl (Nat.le_of_ble_eq_true rfl) (by decide) (by decide) dX3_end_163) ⟨rfl, rfl⟩ (fun r26 S25 h hE => ?_)
    have r_a := r_a.tr hE
    have r_p1 := r_p1.tr hE
    refine v_isub F dX3_end_166 ?_
    refine p_X3_113 F r_a h dX3_end_167 (fun S27 h hE => ?_)
    have r_a := r_a.tr hE
    have r_p1 := r_p1.tr hE
    refine v_goto (tgt := 194) F dX3_end_170 (by decide) ?_
    exact v_sub [0] rfl (h r_a)
  refine v_case h (fun e31 h => ?_) (fun e31 h => ?_)
  · refine v_lookupL (l := [(36, 162), (76, 69), (82, 57), (84, 90), (88, 119), (91, 63)]) (off := 63) (tgt := 74) F dX3_end_11 rfl (by decide) (by rw [e31] <;> rfl) (by decide) ?_
    refine v_aload_n F dX3_end_74 0 rfl rfl ?_
    refine v_aload_n F dX3_end_75 1 rfl rfl ?_
    refine v_cI0 (v_runV F k_X3_196 rfl (c_X3_nextVoice r_a r_p1 h) r_a rfl rfl (Nat.le_of_ble_eq_true rfl) (by decide) (by decide) dX3_end_76) ⟨rfl, rfl⟩ (fun r30 S29 h hE => ?_)
    obtain ⟨nz_r30, h⟩ := h
    have r_a := r_a.tr hE
    have r_p1 := r_p1.tr hE
    exact v_zret F hQ nz_r30 ⟨nz_r30, h⟩ (by decide) dX3_end_79
  refine v_lookupL (l := [(36, 162), (76, 69), (82, 57), (84, 90), (88, 119), (91, 63)]) (off := 183) (tgt := 194) F dX3_end_11 rfl (by decide) (by rw [lv_osw (a := 36) e9 rfl, lv_osw (a := 76) e12 rfl, lv_osw (a := 82) e15 rfl, lv_osw (a := 84) e19 rfl, lv_osw (a := 88) e28 rfl, lv_osw (a := 91) e31 rfl]; rfl) (by decide) ?_
  exact v_sub [0] rfl (h r_a)
theorem dX3_given_0 : decode cX3_given 0 = .ok (.iload_n 1, 1) := by decide +kernel
theorem dX3_given_1 : decode cX3_given 1 = .ok (.iconst 1, 1) := by decide +kernel
theorem dX3_given_2 : decode cX3_given 2 = .ok (.iadd, 1) := by decide +kernel
theorem dX3_given_3 : decode cX3_given 3 = .ok (.istore_n 3, 1) := by decide +kernel
theorem dX3_given_4 : decode cX3_given 4 = .ok (.iconst 0, 1) := by decide +kernel
theorem dX3_given_5 : decode cX3_given 5 = .ok (.istore 4, 2) := by decide +kernel
theorem dX3_given_7 : decode cX3_given 7 = .ok (.iload 4, 2) := by decide +kernel
theorem dX3_given_9 : decode cX3_given 9 = .ok (.iload_n 2, 1) := by decide +kernel
theorem dX3_given_10 : decode cX3_given 10 = .ok (.if_icmp .ge 24, 3) := by decide +kernel
theorem dX3_given_13 : decode cX3_given 13 = .ok (.iload 4, 2) := by decide +kernel
theorem dX3_given_15 : decode cX3_given 15 = .ok (.iconst 4, 1) := by decide +kernel
theorem dX3_given_16 : decode cX3_given 16 = .ok (.if_icmp .ge 18, 3) := by decide +kernel
theorem dX3_given_19 : decode cX3_given 19 = .ok (.aload_n 0, 1) := by decide +kernel
theorem dX3_given_20 : decode cX3_given 20 = .ok (.getfield 9, 3) := by decide +kernel
theorem dX3_given_23 : decode cX3_given 23 = .ok (.iload_n 3, 1) := by decide +kernel
theorem dX3_given_24 : decode cX3_given 24 = .ok (.invokevirtual 65, 3) := by decide +kernel
theorem dX3_given_27 : decode cX3_given 27 = .ok (.istore_n 3, 1) := by decide +kernel
theorem dX3_given_28 : decode cX3_given 28 = .ok (.iinc 4 1, 3) := by decide +kernel
theorem dX3_given_31 : decode cX3_given 31 = .ok (.goto (-24), 3) := by decide +kernel
theorem dX3_given_34 : decode cX3_given 34 = .ok (.iload_n 3, 1) := by decide +kernel
theorem dX3_given_35 : decode cX3_given 35 = .ok (.ireturn, 1) := by decide +kernel
abbrev rm_X3_given : Room := { frames := 2, cells := 0, slots := 0, locals := 42 }
def wp_X3_given (a : Nat) (p1 : Int32) (p2 : Int32) (S : PS) (Q : Int32 → PS → Prop) : Prop :=
  (∀ v1, v1 = p1 + 1 → (∀ P7_2 : Int32 → Int32 → PS → Prop, (∀ (x3_3 : Int32) (x4_4 : Int32) (S5 : PS),
 (if p2 ≤ x4_4 then
 Q x3_3 S5
 else
 (if 4 ≤ x4_4 then
 Q x3_3 S5
 else
 (∃ b6, fR S5 21 a = some b6 ∧ wp_X6_behind b6 x3_3 S5 (fun (r8 : Int32) (S7 : PS) => 
 (∀ v9, v9 = x4_4 + 1 → P7_2 r8 v9 S7)))))
 → P7_2 x3_3 x4_4 S5) → P7_2 v1 0 S))
set_option maxRecDepth 100000 in
set_option maxHeartbeats 4000000 in
theorem c_X3_given {l : Launch} {E : EE} {A : Nat → Prop} {a : Nat} {p1 : Int32} {p2 : Int32} {S : PS} {Q : Int32 → PS → Prop} (r_a : Rf S a 3) (h : wp_X3_given a p1 p2 S Q) : MtI l yX3_given (.code yX3_given cX3_given 5 (some .int)) rm_X3_given E A [.ref a, .int p1, .int p2] S Q := by
  refine MtI.of (by decide) (Nat.le_of_ble_eq_true rfl) (fun X F hQ hN => ?_)
  show VV X (0, 0) S [(0, .ref a), (1, .int p1), (2, .int p2)] [] 0
  unfold wp_X3_given at h
  refine v_iload_n F dX3_given_0 1 rfl rfl ?_
  refine v_iconst (v := 1) F dX3_given_1 (by decide) ?_
  refine v_iadd F dX3_given_2 ?_
  refine v_topi (fun v1 e_v1 => ?_)
  have h := h v1 e_v1
  refine v_istore_n (lv1 := [(3, .int v1), (0, .ref a), (1, .int p1), (2, .int p2)]) F dX3_given_3 rfl (by rw [hN]; decide) rfl ?_
  refine v_iconst (v := 0) F dX3_given_4 (by decide) ?_
  refine v_istore (lv1 := [(4, .int 0), (3, .int v1), (0, .ref a), (1, .int p1), (2, .int p2)]) F dX3_given_5 (by rw [hN]; decide) rfl ?_
  refine v_sub [2, 4, 1, 0] rfl ?_
  refine h (fun (x3_3 : Int32) (x4_4 : Int32) (S5 : PS) => Rf S5 a 3 → VV X (0, 0) S5 [(0, .ref a), (2, .int p2), (3, .int x3_3), (4, .int x4_4)] [] 7) (fun x3_3 x4_4 S5 h r_a => ?_) r_a
  refine v_iload F dX3_given_7 3 rfl ?_
  refine v_iload_n F dX3_given_9 1 rfl rfl ?_
  refine v_icmp_ge (tgt := 34) F dX3_given_10 (by decide) h (fun h => ?_) (fun h => ?_)
  · refine v_iload_n F dX3_given_34 2 rfl rfl ?_
    exact v_iret F hQ h (by decide) dX3_given_35
  · refine v_iload F dX3_given_13 3 rfl ?_
    refine v_iconst (v := 4) F dX3_given_15 (by decide) ?_
    refine v_icmp_ge (tgt := 34) F dX3_given_16 (by decide) h (fun h => ?_) (fun h => ?_)
    · refine v_iload_n F dX3_given_34 2 rfl rfl ?_
      exact v_iret F hQ h (by decide) dX3_given_35
    · refine v_aload_n F dX3_given_19 0 rfl rfl ?_
      refine g_X3_9 F r_a h dX3_given_20 (fun b6 r_b6 h => ?_)
      refine v_iload_n F dX3_given_23 2 rfl rfl ?_
      refine v_cI0 (v_runV F k_X3_65 rfl (c_X6_behind r_b6 h) r_b6 rfl rfl (Nat.le_of_ble_eq_true rfl) (by decide) (by decide) dX3_given_24) ⟨rfl, rfl⟩ (fun r8 S7 h hE => ?_)
      have r_a := r_a.tr hE
      refine v_istore_n (lv1 := [(3, .int r8), (0, .ref a), (2, .int p2), (4, .int x4_4)]) F dX3_given_27 rfl (by rw [hN]; decide) rfl ?_
      obtain ⟨v9, e_v9⟩ : ∃ y : Int32, y = x4_4 + 1 := ⟨_, rfl⟩
      have h := h v9 e_v9
      refine v_iinc (v := v9) (lv1 := [(4, .int v9), (3, .int r8), (0, .ref a), (2, .int p2)]) F dX3_given_28 (q := 3) rfl (by rw [e_v9]; rfl) (by rw [hN]; decide) rfl ?_
      refine v_goto (tgt := 7) F dX3_given_31 (by decide) ?_
      exact v_sub [2, 3, 1, 0] rfl (h r_a)
theorem dX3_changeMeter_0 : decode cX3_changeMeter 0 = .ok (.aload_n 0, 1) := by decide +kernel
theorem dX3_changeMeter_1 : decode cX3_changeMeter 1 = .ok (.getfield 25, 3) := by decide +kernel
theorem dX3_changeMeter_4 : decode cX3_changeMeter 4 = .ok (.getfield 153, 3) := by decide +kernel
theorem dX3_changeMeter_7 : decode cX3_changeMeter 7 = .ok (.astore_n 2, 1) := by decide +kernel
theorem dX3_changeMeter_8 : decode cX3_changeMeter 8 = .ok (.aload_n 0, 1) := by decide +kernel
theorem dX3_changeMeter_9 : decode cX3_changeMeter 9 = .ok (.getfield 119, 3) := by decide +kernel
theorem dX3_changeMeter_12 : decode cX3_changeMeter 12 = .ok (.ifCond .gt 14, 3) := by decide +kernel
theorem dX3_changeMeter_15 : decode cX3_changeMeter 15 = .ok (.aload_n 2, 1) := by decide +kernel
theorem dX3_changeMeter_16 : decode cX3_changeMeter 16 = .ok (.aload_n 0, 1) := by decide +kernel
theorem dX3_changeMeter_17 : decode cX3_changeMeter 17 = .ok (.getfield 86, 3) := by decide +kernel
theorem dX3_changeMeter_20 : decode cX3_changeMeter 20 = .ok (.invokevirtual 157, 3) := by decide +kernel
theorem dX3_changeMeter_23 : decode cX3_changeMeter 23 = .ok (.ifCond .ne 11, 3) := by decide +kernel
theorem dX3_changeMeter_26 : decode cX3_changeMeter 26 = .ok (.aload_n 0, 1) := by decide +kernel
theorem dX3_changeMeter_27 : decode cX3_changeMeter 27 = .ok (.bipush 7, 2) := by decide +kernel
theorem dX3_changeMeter_29 : decode cX3_changeMeter 29 = .ok (.iload_n 1, 1) := by decide +kernel
theorem dX3_changeMeter_30 : decode cX3_changeMeter 30 = .ok (.invokevirtual 149, 3) := by decide +kernel
theorem dX3_changeMeter_33 : decode cX3_changeMeter 33 = .ok (.ireturn, 1) := by decide +kernel
theorem dX3_changeMeter_34 : decode cX3_changeMeter 34 = .ok (.aload_n 2, 1) := by decide +kernel
theorem dX3_changeMeter_35 : decode cX3_changeMeter 35 = .ok (.aload_n 0, 1) := by decide +kernel
theorem dX3_changeMeter_36 : decode cX3_changeMeter 36 = .ok (.getfield 86, 3) := by decide +kernel
theorem dX3_changeMeter_39 : decode cX3_changeMeter 39 = .ok (.aload_n 0, 1) := by decide +kernel
theorem dX3_changeMeter_40 : decode cX3_changeMeter 40 = .ok (.getfield 9, 3) := by decide +kernel
theorem dX3_changeMeter_43 : decode cX3_changeMeter 43 = .ok (.iload_n 1, 1) := by decide +kernel
theorem dX3_changeMeter_44 : decode cX3_changeMeter 44 = .ok (.invokevirtual 187, 3) := by decide +kernel
theorem dX3_changeMeter_47 : decode cX3_changeMeter 47 = .ok (.aload_n 0, 1) := by decide +kernel
theorem dX3_changeMeter_48 : decode cX3_changeMeter 48 = .ok (.getfield 9, 3) := by decide +kernel
theorem dX3_changeMeter_51 : decode cX3_changeMeter 51 = .ok (.iload_n 1, 1) := by decide +kernel
theorem dX3_changeMeter_52 : decode cX3_changeMeter 52 = .ok (.invokevirtual 184, 3) := by decide +kernel
theorem dX3_changeMeter_55 : decode cX3_changeMeter 55 = .ok (.invokevirtual 311, 3) := by decide +kernel
theorem dX3_changeMeter_58 : decode cX3_changeMeter 58 = .ok (.ifCond .ne 12, 3) := by decide +kernel
theorem dX3_changeMeter_61 : decode cX3_changeMeter 61 = .ok (.aload_n 0, 1) := by decide +kernel
theorem dX3_changeMeter_62 : decode cX3_changeMeter 62 = .ok (.iconst 5, 1) := by decide +kernel
theorem dX3_changeMeter_63 : decode cX3_changeMeter 63 = .ok (.iload_n 1, 1) := by decide +kernel
theorem dX3_changeMeter_64 : decode cX3_changeMeter 64 = .ok (.invokevirtual 149, 3) := by decide +kernel
theorem dX3_changeMeter_67 : decode cX3_changeMeter 67 = .ok (.ifCond .eq 7, 3) := by decide +kernel
theorem dX3_changeMeter_70 : decode cX3_changeMeter 70 = .ok (.iconst 1, 1) := by decide +kernel
theorem dX3_changeMeter_71 : decode cX3_changeMeter 71 = .ok (.goto 4, 3) := by decide +kernel
theorem dX3_changeMeter_74 : decode cX3_changeMeter 74 = .ok (.iconst 0, 1) := by decide +kernel
theorem dX3_changeMeter_75 : decode cX3_changeMeter 75 = .ok (.ireturn, 1) := by decide +kernel
abbrev rm_X3_changeMeter : Room := { frames := 3, cells := 0, slots := 0, locals := 107 }
def wp_X3_changeMeter (a : Nat) (p1 : Int32) (S : PS) (Q : Int32 → PS → Prop) : Prop :=
  (∃ b1, fR S 25 a = some b1 ∧ (∃ b2, fR S 83 b1 = some b2 ∧ (∀ K26_4 : PS → Prop, (∀ (S3 : PS),
 wp_X3_tell a 7 p1 S3 (fun (r6 : Int32) (S5 : PS) => 
 Q r6 S5)
 → K26_4 S3) →
 (if 0 < fI S 38 a then
 K26_4 S
 else
 wp_X2_beginsBar b2 (fL S 28 a) S (fun (r8 : Int32) (S7 : PS) => 
 (if r8 = 0 then
 K26_4 S7
 else
 (∃ b9, fR S7 21 a = some b9 ∧ wp_X6_one b9 p1 S7 (fun (r11 : Int32) (S10 : PS) => 
 (∃ b12, fR S10 21 a = some b12 ∧ wp_X6_two b12 p1 S10 (fun (r14 : Int32) (S13 : PS) => 
 wp_X2_change b2 (fL S7 28 a) r11 r14 S13 (fun (r16 : Int32) (S15 : PS) => 
 (if r16 = 0 then
 wp_X3_tell a 5 p1 S15 (fun (r18 : Int32) (S17 : PS) => 
 (if r18 = 0 then
 Q 0 S17
 else
 Q 1 S17))
 else
 Q 1 S15))))))))))))
set_option maxRecDepth 100000 in
set_option maxHeartbeats 4000000 in
theorem c_X3_changeMeter {l : Launch} {E : EE} {A : Nat → Prop} {a : Nat} {p1 : Int32} {S : PS} {Q : Int32 → PS → Prop} (r_a : Rf S a 3) (h : wp_X3_changeMeter a p1 S Q) : MtI l yX3_changeMeter (.code yX3_changeMeter cX3_changeMeter 3 (some .boolean)) rm_X3_changeMeter E A [.ref a, .int p1] S (fun r S1 => nz r ∧ Q r S1) := by
  refine MtI.of (by decide) (Nat.le_of_ble_eq_true rfl) (fun X F hQ hN => ?_)
  show VV X (0, 0) S [(0, .ref a), (1, .int p1)] [] 0
  unfold wp_X3_changeMeter at h
  refine v_aload_n F dX3_changeMeter_0 0 rfl rfl ?_
  refine g_X3_25 F r_a h dX3_changeMeter_1 (fun b1 r_b1 h => ?_)
  refine g_X3_153 F r_b1 h dX3_changeMeter_4 (fun b2 r_b2 h => ?_)
  refine v_astore_n (lv1 := [(2, .ref b2), (0, .ref a), (1, .int p1)]) F dX3_changeMeter_7 rfl (by rw [hN]; decide) rfl ?_
  refine v_aload_n F dX3_changeMeter_8 1 rfl rfl ?_
  refine g_X3_119 F r_a dX3_changeMeter_9 ?_
  have h := h (fun (S3 : PS) => Rf S3 a 3 → VV X (0, 0) S3 [(0, .ref a), (1, .int p1)] [] 26) (by
    intro S3 h r_a
    refine v_aload_n F dX3_changeMeter_26 0 rfl rfl ?_
    refine v_bipush (v := 7) F dX3_changeMeter_27 (by decide) ?_
    refine v_iload_n F dX3_changeMeter_29 1 rfl rfl ?_
    refine v_cI0 (v_runV F k_X3_149 rfl (c_X3_tell r_a h) r_a rfl rfl (Nat.le_of_ble_eq_true rfl) (by decide) (by decide) dX3_changeMeter_30) ⟨rfl, rfl⟩ (fun r6 S5 h hE => ?_)
    obtain ⟨nz_r6, h⟩ := h
    have r_a := r_a.tr hE
    exact v_zret F hQ nz_r6 ⟨nz_r6, h⟩ (by decide) dX3_changeMeter_33)
  refine v_if_gt (tgt := 26) F dX3_changeMeter_12 (by decide) h (fun h => ?_) (fun h => ?_)
  · exact v_sub [1, 2] rfl (h r_a)
  · refine v_aload_n F dX3_changeMeter_15 0 rfl rfl ?_
    refine v_aload_n F dX3_changeMeter_16 1 rfl rfl ?_
    refine g_X3_86 F r_a dX3_changeMeter_17 ?_
    refine v_cI0 (v_runV F k_X3_157 rfl (c_X2_beginsBar r_b2 h) r_b2 rfl rfl (Nat.le_of_ble_eq_true rfl) (by decide) (by decide) dX3_changeMeter_20) ⟨rfl, rfl⟩ (fun r8 S7 h hE => ?_)
    obtain ⟨nz_r8, h⟩ := h
    have r_b2 := r_b2.tr hE
    have r_a := r_a.tr hE
    refine v_if_ne (tgt := 34) F dX3_changeMeter_23 (by decide) h (fun h => ?_) (fun h => ?_)
    · refine v_aload_n F dX3_changeMeter_34 0 rfl rfl ?_
      refine v_aload_n F dX3_changeMeter_35 1 rfl rfl ?_
      refine g_X3_86 F r_a dX3_changeMeter_36 ?_
      refine v_aload_n F dX3_changeMeter_39 1 rfl rfl ?_
      refine g_X3_9 F r_a h dX3_changeMeter_40 (fun b9 r_b9 h => ?_)
      refine v_iload_n F dX3_changeMeter_43 2 rfl rfl ?_
      refine v_cI0 (v_runV F k_X3_187 rfl (c_X6_one r_b9 h) r_b9 rfl rfl (Nat.le_of_ble_eq_true rfl) (by decide) (by decide) dX3_changeMeter_44) ⟨rfl, rfl⟩ (fun r11 S10 h hE => ?_)
      have r_b2 := r_b2.tr hE
      have r_a := r_a.tr hE
      refine v_aload_n F dX3_changeMeter_47 1 rfl rfl ?_
      refine g_X3_9 F r_a h dX3_changeMeter_48 (fun b12 r_b12 h => ?_)
      refine v_iload_n F dX3_changeMeter_51 2 rfl rfl ?_
      refine v_cI0 (v_runV F k_X3_184 rfl (c_X6_two r_b12 h) r_b12 rfl rfl (Nat.le_of_ble_eq_true rfl) (by decide) (by decide) dX3_changeMeter_52) ⟨rfl, rfl⟩ (fun r14 S13 h hE => ?_)
      have r_b2 := r_b2.tr hE
      have r_a := r_a.tr hE
      refine v_cI0 (v_runV F k_X3_311 rfl (c_X2_change r_b2 h) r_b2 rfl rfl (Nat.le_of_ble_eq_true rfl) (by decide) (by decide) dX3_changeMeter_55) ⟨rfl, rfl⟩ (fun r16 S15 h hE => ?_)
      obtain ⟨nz_r16, h⟩ := h
      have r_b2 := r_b2.tr hE
      have r_a := r_a.tr hE
      refine v_if_ne (tgt := 70) F dX3_changeMeter_58 (by decide) h (fun h => ?_) (fun h => ?_)
      · refine v_iconst (v := 1) F dX3_changeMeter_70 (by decide) ?_
        refine v_goto (tgt := 75) F dX3_changeMeter_71 (by decide) ?_
        exact v_zret F hQ (by decide) ⟨nz1, h⟩ (by decide) dX3_changeMeter_75
      · refine v_aload_n F dX3_changeMeter_61 1 rfl rfl ?_
        refine v_iconst (v := 5) F dX3_changeMeter_62 (by decide) ?_
        refine v_iload_n F dX3_changeMeter_63 2 rfl rfl ?_
        refine v_cI0 (v_runV F k_X3_149 rfl (c_X3_tell r_a h) r_a rfl rfl (Nat.le_of_ble_eq_true rfl) (by decide) (by decide) dX3_changeMeter_64) ⟨rfl, rfl⟩ (fun r18 S17 h hE => ?_)
        obtain ⟨nz_r18, h⟩ := h
        have r_b2 := r_b2.tr hE
        have r_a := r_a.tr hE
        refine v_if_eq (tgt := 74) F dX3_changeMeter_67 (by decide) h (fun h => ?_) (fun h => ?_)
        · refine v_iconst (v := 0) F dX3_changeMeter_74 (by decide) ?_
          exact v_zret F hQ (by decide) ⟨nz0, h⟩ (by decide) dX3_changeMeter_75
        · refine v_iconst (v := 1) F dX3_changeMeter_70 (by decide) ?_
          refine v_goto (tgt := 75) F dX3_changeMeter_71 (by decide) ?_
          exact v_zret F hQ (by decide) ⟨nz1, h⟩ (by decide) dX3_changeMeter_75
    · exact v_sub [1, 2] rfl (h r_a)
theorem dX3_sing_0 : decode cX3_sing 0 = .ok (.aload_n 0, 1) := by decide +kernel
theorem dX3_sing_1 : decode cX3_sing 1 = .ok (.getfield 9, 3) := by decide +kernel
theorem dX3_sing_4 : decode cX3_sing 4 = .ok (.iload_n 1, 1) := by decide +kernel
theorem dX3_sing_5 : decode cX3_sing 5 = .ok (.invokevirtual 187, 3) := by decide +kernel
theorem dX3_sing_8 : decode cX3_sing 8 = .ok (.istore_n 2, 1) := by decide +kernel
theorem dX3_sing_9 : decode cX3_sing 9 = .ok (.aload_n 0, 1) := by decide +kernel
theorem dX3_sing_10 : decode cX3_sing 10 = .ok (.getfield 9, 3) := by decide +kernel
theorem dX3_sing_13 : decode cX3_sing 13 = .ok (.iload_n 1, 1) := by decide +kernel
theorem dX3_sing_14 : decode cX3_sing 14 = .ok (.invokevirtual 184, 3) := by decide +kernel
theorem dX3_sing_17 : decode cX3_sing 17 = .ok (.sipush 1500, 3) := by decide +kernel
theorem dX3_sing_20 : decode cX3_sing 20 = .ok (.invokestatic 273, 3) := by decide +kernel
theorem dX3_sing_23 : decode cX3_sing 23 = .ok (.istore_n 3, 1) := by decide +kernel
theorem dX3_sing_24 : decode cX3_sing 24 = .ok (.iconst 0, 1) := by decide +kernel
theorem dX3_sing_25 : decode cX3_sing 25 = .ok (.istore 4, 2) := by decide +kernel
theorem dX3_sing_27 : decode cX3_sing 27 = .ok (.iload 4, 2) := by decide +kernel
theorem dX3_sing_29 : decode cX3_sing 29 = .ok (.iload_n 3, 1) := by decide +kernel
theorem dX3_sing_30 : decode cX3_sing 30 = .ok (.if_icmp .ge 53, 3) := by decide +kernel
theorem dX3_sing_33 : decode cX3_sing 33 = .ok (.aload_n 0, 1) := by decide +kernel
theorem dX3_sing_34 : decode cX3_sing 34 = .ok (.getfield 9, 3) := by decide +kernel
theorem dX3_sing_37 : decode cX3_sing 37 = .ok (.iload_n 1, 1) := by decide +kernel
theorem dX3_sing_38 : decode cX3_sing 38 = .ok (.iload 4, 2) := by decide +kernel
theorem dX3_sing_40 : decode cX3_sing 40 = .ok (.invokevirtual 276, 3) := by decide +kernel
theorem dX3_sing_43 : decode cX3_sing 43 = .ok (.istore 5, 2) := by decide +kernel
theorem dX3_sing_45 : decode cX3_sing 45 = .ok (.aload_n 0, 1) := by decide +kernel
theorem dX3_sing_46 : decode cX3_sing 46 = .ok (.getfield 25, 3) := by decide +kernel
theorem dX3_sing_49 : decode cX3_sing 49 = .ok (.aload_n 0, 1) := by decide +kernel
theorem dX3_sing_50 : decode cX3_sing 50 = .ok (.getfield 83, 3) := by decide +kernel
theorem dX3_sing_53 : decode cX3_sing 53 = .ok (.iload_n 2, 1) := by decide +kernel
theorem dX3_sing_54 : decode cX3_sing 54 = .ok (.iload 5, 2) := by decide +kernel
theorem dX3_sing_56 : decode cX3_sing 56 = .ok (.invokevirtual 315, 3) := by decide +kernel
theorem dX3_sing_59 : decode cX3_sing 59 = .ok (.ifCond .ne 18, 3) := by decide +kernel
theorem dX3_sing_62 : decode cX3_sing 62 = .ok (.aload_n 0, 1) := by decide +kernel
theorem dX3_sing_63 : decode cX3_sing 63 = .ok (.getfield 15, 3) := by decide +kernel
theorem dX3_sing_66 : decode cX3_sing 66 = .ok (.bipush 8, 2) := by decide +kernel
theorem dX3_sing_68 : decode cX3_sing 68 = .ok (.iload 5, 2) := by decide +kernel
theorem dX3_sing_70 : decode cX3_sing 70 = .ok (.invokestatic 319, 3) := by decide +kernel
theorem dX3_sing_73 : decode cX3_sing 73 = .ok (.invokevirtual 42, 3) := by decide +kernel
theorem dX3_sing_76 : decode cX3_sing 76 = .ok (.ireturn, 1) := by decide +kernel
theorem dX3_sing_77 : decode cX3_sing 77 = .ok (.iinc 4 1, 3) := by decide +kernel
theorem dX3_sing_80 : decode cX3_sing 80 = .ok (.goto (-53), 3) := by decide +kernel
theorem dX3_sing_83 : decode cX3_sing 83 = .ok (.iconst 1, 1) := by decide +kernel
theorem dX3_sing_84 : decode cX3_sing 84 = .ok (.ireturn, 1) := by decide +kernel
abbrev rm_X3_sing : Room := { frames := 3, cells := 0, slots := 0, locals := 68 }
def wp_X3_sing (a : Nat) (p1 : Int32) (S : PS) (Q : Int32 → PS → Prop) : Prop :=
  (∃ b1, fR S 21 a = some b1 ∧ wp_X6_one b1 p1 S (fun (r3 : Int32) (S2 : PS) => 
 (∃ b4, fR S2 21 a = some b4 ∧ wp_X6_two b4 p1 S2 (fun (r6 : Int32) (S5 : PS) => 
 (∀ v7, v7 = (if 1500 < r6 then 1500 else r6) → (∀ P27_8 : Int32 → PS → Prop, (∀ (x4_9 : Int32) (S10 : PS),
 (if v7 ≤ x4_9 then
 Q 1 S10
 else
 (∃ b11, fR S10 21 a = some b11 ∧ wp_X6_partOf b11 p1 x4_9 S10 (fun (r13 : Int32) (S12 : PS) => 
 (∃ b14, fR S12 25 a = some b14 ∧ wp_X8_addSyllable b14 (fI S12 27 a) r3 r13 S12 (fun (r16 : Int32) (S15 : PS) => 
 (if r16 = 0 then
 (∃ b18, fR S15 22 a = some b18 ∧ wp_X9_place r13 S15 (fun (r20 : Int32) (S19 : PS) => 
 wp_X0_tell b18 8 r20 S19 (fun (r22 : Int32) (S21 : PS) => 
 Q r22 S21)))
 else
 (∀ v17, v17 = x4_9 + 1 → P27_8 v17 S15)))))))
 → P27_8 x4_9 S10) → P27_8 0 S5))))))
set_option maxRecDepth 100000 in
set_option maxHeartbeats 4000000 in
theorem c_X3_sing {l : Launch} {E : EE} {A : Nat → Prop} {a : Nat} {p1 : Int32} {S : PS} {Q : Int32 → PS → Prop} (r_a : Rf S a 3) (h : wp_X3_sing a p1 S Q) : MtI l yX3_sing (.code yX3_sing cX3_sing 6 (some .boolean)) rm_X3_sing E A [.ref a, .int p1] S (fun r S1 => nz r ∧ Q r S1) := by
  refine MtI.of (by decide) (Nat.le_of_ble_eq_true rfl) (fun X F hQ hN => ?_)
  show VV X (0, 0) S [(0, .ref a), (1, .int p1)] [] 0
  unfold wp_X3_sing at h
  refine v_aload_n F dX3_sing_0 0 rfl rfl ?_
  refine g_X3_9 F r_a h dX3_sing_1 (fun b1 r_b1 h => ?_)
  refine v_iload_n F dX3_sing_4 1 rfl rfl ?_
  refine v_cI0 (v_runV F k_X3_187 rfl (c_X6_one r_b1 h) r_b1 rfl rfl (Nat.le_of_ble_eq_true rfl) (by decide) (by decide) dX3_sing_5) ⟨rfl, rfl⟩ (fun r3 S2 h hE => ?_)
  have r_a := r_a.tr hE
  refine v_istore_n (lv1 := [(2, .int r3), (0, .ref a), (1, .int p1)]) F dX3_sing_8 rfl (by rw [hN]; decide) rfl ?_
  refine v_aload_n F dX3_sing_9 1 rfl rfl ?_
  refine g_X3_9 F r_a h dX3_sing_10 (fun b4 r_b4 h => ?_)
  refine v_iload_n F dX3_sing_13 2 rfl rfl ?_
  refine v_cI0 (v_runV F k_X3_184 rfl (c_X6_two r_b4 h) r_b4 rfl rfl (Nat.le_of_ble_eq_true rfl) (by decide) (by decide) dX3_sing_14) ⟨rfl, rfl⟩ (fun r6 S5 h hE => ?_)
  have r_a := r_a.tr hE
  refine v_sipush (v := 1500) F dX3_sing_17 (by decide) ?_
  refine v_mmin F k_X3_273 (by decide) (Nat.le_of_ble_eq_true rfl) dX3_sing_20 ?_
  refine v_topi (fun v7 e_v7 => ?_)
  have h := h v7 e_v7
  refine v_istore_n (lv1 := [(3, .int v7), (2, .int r3), (0, .ref a), (1, .int p1)]) F dX3_sing_23 rfl (by rw [hN]; decide) rfl ?_
  refine v_iconst (v := 0) F dX3_sing_24 (by decide) ?_
  refine v_istore (lv1 := [(4, .int 0), (3, .int v7), (2, .int r3), (0, .ref a), (1, .int p1)]) F dX3_sing_25 (by rw [hN]; decide) rfl ?_
  refine v_sub [3, 4, 2, 1, 0] rfl ?_
  refine h (fun (x4_9 : Int32) (S10 : PS) => Rf S10 a 3 → VV X (0, 0) S10 [(0, .ref a), (1, .int p1), (2, .int r3), (3, .int v7), (4, .int x4_9)] [] 27) (fun x4_9 S10 h r_a => ?_) r_a
  refine v_iload F dX3_sing_27 4 rfl ?_
  refine v_iload_n F dX3_sing_29 3 rfl rfl ?_
  refine v_icmp_ge (tgt := 83) F dX3_sing_30 (by decide) h (fun h => ?_) (fun h => ?_)
  · refine v_iconst (v := 1) F dX3_sing_83 (by decide) ?_
    exact v_zret F hQ (by decide) ⟨nz1, h⟩ (by decide) dX3_sing_84
  · refine v_aload_n F dX3_sing_33 0 rfl rfl ?_
    refine g_X3_9 F r_a h dX3_sing_34 (fun b11 r_b11 h => ?_)
    refine v_iload_n F dX3_sing_37 1 rfl rfl ?_
    refine v_iload F dX3_sing_38 4 rfl ?_
    refine v_cI0 (v_runV F k_X3_276 rfl (c_X6_partOf r_b11 h) r_b11 rfl rfl (Nat.le_of_ble_eq_true rfl) (by decide) (by decide) dX3_sing_40) ⟨rfl, rfl⟩ (fun r13 S12 h hE => ?_)
    have r_a := r_a.tr hE
    refine v_istore (lv1 := [(5, .int r13), (0, .ref a), (1, .int p1), (2, .int r3), (3, .int v7), (4, .int x4_9)]) F dX3_sing_43 (by rw [hN]; decide) rfl ?_
    refine v_aload_n F dX3_sing_45 1 rfl rfl ?_
    refine g_X3_25 F r_a h dX3_sing_46 (fun b14 r_b14 h => ?_)
    refine v_aload_n F dX3_sing_49 1 rfl rfl ?_
    refine g_X3_83 F r_a dX3_sing_50 ?_
    refine v_iload_n F dX3_sing_53 3 rfl rfl ?_
    refine v_iload F dX3_sing_54 0 rfl ?_
    refine v_cI0 (v_runV F k_X3_315 rfl (c_X8_addSyllable r_b14 h) r_b14 rfl rfl (Nat.le_of_ble_eq_true rfl) (by decide) (by decide) dX3_sing_56) ⟨rfl, rfl⟩ (fun r16 S15 h hE => ?_)
    obtain ⟨nz_r16, h⟩ := h
    have r_a := r_a.tr hE
    refine v_if_ne (tgt := 77) F dX3_sing_59 (by decide) h (fun h => ?_) (fun h => ?_)
    · obtain ⟨v17, e_v17⟩ : ∃ y : Int32, y = x4_9 + 1 := ⟨_, rfl⟩
      have h := h v17 e_v17
      refine v_iinc (v := v17) (lv1 := [(4, .int v17), (5, .int r13), (0, .ref a), (1, .int p1), (2, .int r3), (3, .int v7)]) F dX3_sing_77 (q := 5) rfl (by rw [e_v17]; rfl) (by rw [hN]; decide) rfl ?_
      refine v_goto (tgt := 27) F dX3_sing_80 (by decide) ?_
      exact v_sub [2, 3, 4, 5, 0] rfl (h r_a)
    · refine v_aload_n F dX3_sing_62 1 rfl rfl ?_
      refine g_X3_15 F r_a h dX3_sing_63 (fun b18 r_b18 h => ?_)
      refine v_bipush (v := 8) F dX3_sing_66 (by decide) ?_
      refine v_iload F dX3_sing_68 0 rfl ?_
      refine v_cI0 (v_runS F k_X3_319 (c_X9_place h) rfl rfl (Nat.le_of_ble_eq_true rfl) (by decide) (by decide) dX3_sing_70) ⟨rfl, rfl⟩ (fun r20 S19 h hE => ?_)
      have r_a := r_a.tr hE
      have r_b18 := r_b18.tr hE
      refine v_cI0 (v_runV F k_X3_42 rfl (c_X0_tell r_b18 h) r_b18 rfl rfl (Nat.le_of_ble_eq_true rfl) (by decide) (by decide) dX3_sing_73) ⟨rfl, rfl⟩ (fun r22 S21 h hE => ?_)
      obtain ⟨nz_r22, h⟩ := h
      have r_a := r_a.tr hE
      exact v_zret F hQ nz_r22 ⟨nz_r22, h⟩ (by decide) dX3_sing_76
