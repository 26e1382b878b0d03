theorem dX8_hasVoice_0 : decode cX8_hasVoice 0 = .ok (.iload_n 1, 1) := by decide +kernel
theorem dX8_hasVoice_1 : decode cX8_hasVoice 1 = .ok (.ifCond .lt 21, 3) := by decide +kernel
theorem dX8_hasVoice_4 : decode cX8_hasVoice 4 = .ok (.iload_n 1, 1) := by decide +kernel
theorem dX8_hasVoice_5 : decode cX8_hasVoice 5 = .ok (.aload_n 0, 1) := by decide +kernel
theorem dX8_hasVoice_6 : decode cX8_hasVoice 6 = .ok (.getfield 58, 3) := by decide +kernel
theorem dX8_hasVoice_9 : decode cX8_hasVoice 9 = .ok (.if_icmp .ge 13, 3) := by decide +kernel
theorem dX8_hasVoice_12 : decode cX8_hasVoice 12 = .ok (.iload_n 1, 1) := by decide +kernel
theorem dX8_hasVoice_13 : decode cX8_hasVoice 13 = .ok (.bipush 12, 2) := by decide +kernel
theorem dX8_hasVoice_15 : decode cX8_hasVoice 15 = .ok (.if_icmp .ge 7, 3) := by decide +kernel
theorem dX8_hasVoice_18 : decode cX8_hasVoice 18 = .ok (.iconst 1, 1) := by decide +kernel
theorem dX8_hasVoice_19 : decode cX8_hasVoice 19 = .ok (.goto 4, 3) := by decide +kernel
theorem dX8_hasVoice_22 : decode cX8_hasVoice 22 = .ok (.iconst 0, 1) := by decide +kernel
theorem dX8_hasVoice_23 : decode cX8_hasVoice 23 = .ok (.ireturn, 1) := by decide +kernel
abbrev rm_X8_hasVoice : Room := { frames := 0, cells := 0, slots := 0, locals := 0 }
def wp_X8_hasVoice (a : Nat) (p1 : Int32) (S : PS) (Q : Int32 → PS → Prop) : Prop :=
  (if p1 < 0 then
 Q 0 S
 else
 (if fI S 79 a ≤ p1 then
 Q 0 S
 else
 (if 12 ≤ p1 then
 Q 0 S
 else
 Q 1 S)))
set_option maxRecDepth 100000 in
set_option maxHeartbeats 4000000 in
theorem c_X8_hasVoice {l : Launch} {E : EE} {A : Nat → Prop} {a : Nat} {p1 : Int32} {S : PS} {Q : Int32 → PS → Prop} (r_a : Rf S a 7) (h : wp_X8_hasVoice a p1 S Q) : MtI l yX8_hasVoice (.code yX8_hasVoice cX8_hasVoice 2 (some .boolean)) rm_X8_hasVoice E A [.ref a, .int p1] S (fun r S1 => nz r ∧ Q r S1) := by
  refine MtI.of (by decide) (Nat.le_of_ble_eq_true rfl) (fun X F hQ hN => ?_)
  show VV X (0, 0) S [(0, .ref a), (1, .int p1)] [] 0
  unfold wp_X8_hasVoice at h
  refine v_iload_n F dX8_hasVoice_0 1 rfl rfl ?_
  refine v_if_lt (tgt := 22) F dX8_hasVoice_1 (by decide) h (fun h => ?_) (fun h => ?_)
  · refine v_iconst (v := 0) F dX8_hasVoice_22 (by decide) ?_
    exact v_zret F hQ (by decide) ⟨nz0, h⟩ (by decide) dX8_hasVoice_23
  · refine v_iload_n F dX8_hasVoice_4 1 rfl rfl ?_
    refine v_aload_n F dX8_hasVoice_5 0 rfl rfl ?_
    refine g_X8_58 F r_a dX8_hasVoice_6 ?_
    refine v_icmp_ge (tgt := 22) F dX8_hasVoice_9 (by decide) h (fun h => ?_) (fun h => ?_)
    · refine v_iconst (v := 0) F dX8_hasVoice_22 (by decide) ?_
      exact v_zret F hQ (by decide) ⟨nz0, h⟩ (by decide) dX8_hasVoice_23
    · refine v_iload_n F dX8_hasVoice_12 1 rfl rfl ?_
      refine v_bipush (v := 12) F dX8_hasVoice_13 (by decide) ?_
      refine v_icmp_ge (tgt := 22) F dX8_hasVoice_15 (by decide) h (fun h => ?_) (fun h => ?_)
      · refine v_iconst (v := 0) F dX8_hasVoice_22 (by decide) ?_
        exact v_zret F hQ (by decide) ⟨nz0, h⟩ (by decide) dX8_hasVoice_23
      · refine v_iconst (v := 1) F dX8_hasVoice_18 (by decide) ?_
        refine v_goto (tgt := 23) F dX8_hasVoice_19 (by decide) ?_
        exact v_zret F hQ (by decide) ⟨nz1, h⟩ (by decide) dX8_hasVoice_23
theorem dX8_tiePlace_0 : decode cX8_tiePlace 0 = .ok (.aload_n 0, 1) := by decide +kernel
theorem dX8_tiePlace_1 : decode cX8_tiePlace 1 = .ok (.iload_n 1, 1) := by decide +kernel
theorem dX8_tiePlace_2 : decode cX8_tiePlace 2 = .ok (.invokevirtual 88, 3) := by decide +kernel
theorem dX8_tiePlace_5 : decode cX8_tiePlace 5 = .ok (.ifCond .eq 12, 3) := by decide +kernel
theorem dX8_tiePlace_8 : decode cX8_tiePlace 8 = .ok (.aload_n 0, 1) := by decide +kernel
theorem dX8_tiePlace_9 : decode cX8_tiePlace 9 = .ok (.getfield 48, 3) := by decide +kernel
theorem dX8_tiePlace_12 : decode cX8_tiePlace 12 = .ok (.iload_n 1, 1) := by decide +kernel
theorem dX8_tiePlace_13 : decode cX8_tiePlace 13 = .ok (.iaload, 1) := by decide +kernel
theorem dX8_tiePlace_14 : decode cX8_tiePlace 14 = .ok (.goto 4, 3) := by decide +kernel
theorem dX8_tiePlace_17 : decode cX8_tiePlace 17 = .ok (.iconst (-1), 1) := by decide +kernel
theorem dX8_tiePlace_18 : decode cX8_tiePlace 18 = .ok (.ireturn, 1) := by decide +kernel
abbrev rm_X8_tiePlace : Room := { frames := 1, cells := 0, slots := 0, locals := 21 }
def wp_X8_tiePlace (a : Nat) (p1 : Int32) (S : PS) (Q : Int32 → PS → Prop) : Prop :=
  wp_X8_hasVoice a p1 S (fun (r2 : Int32) (S1 : PS) => 
 (if r2 = 0 then
 Q (-1) S1
 else
 (∃ b3, fR S1 82 a = some b3 ∧ (vp_in p1 (aN S1 b3) ∧ Q (aI S1 38 b3 (p1).toNatClampNeg) S1))))
set_option maxRecDepth 100000 in
set_option maxHeartbeats 4000000 in
theorem c_X8_tiePlace {l : Launch} {E : EE} {A : Nat → Prop} {a : Nat} {p1 : Int32} {S : PS} {Q : Int32 → PS → Prop} (r_a : Rf S a 7) (h : wp_X8_tiePlace a p1 S Q) : MtI l yX8_tiePlace (.code yX8_tiePlace cX8_tiePlace 2 (some .int)) rm_X8_tiePlace E A [.ref a, .int p1] S Q := by
  refine MtI.of (by decide) (Nat.le_of_ble_eq_true rfl) (fun X F hQ hN => ?_)
  show VV X (0, 0) S [(0, .ref a), (1, .int p1)] [] 0
  unfold wp_X8_tiePlace at h
  refine v_aload_n F dX8_tiePlace_0 0 rfl rfl ?_
  refine v_iload_n F dX8_tiePlace_1 1 rfl rfl ?_
  refine v_cI0 (v_runV F k_X8_88 rfl (c_X8_hasVoice r_a h) r_a rfl rfl (Nat.le_of_ble_eq_true rfl) (by decide) (by decide) dX8_tiePlace_2) ⟨rfl, rfl⟩ (fun r2 S1 h hE => ?_)
  obtain ⟨nz_r2, h⟩ := h
  have r_a := r_a.tr hE
  refine v_if_eq (tgt := 17) F dX8_tiePlace_5 (by decide) h (fun h => ?_) (fun h => ?_)
  · refine v_iconst (v := (-1)) F dX8_tiePlace_17 (by decide) ?_
    exact v_iret F hQ h (by decide) dX8_tiePlace_18
  · refine v_aload_n F dX8_tiePlace_8 0 rfl rfl ?_
    refine g_X8_48 F r_a h dX8_tiePlace_9 (fun b3 r_b3 h => ?_)
    refine v_iload_n F dX8_tiePlace_12 1 rfl rfl ?_
    refine v_iald F r_b3 o_38 h dX8_tiePlace_13 (fun h => ?_)
    refine v_goto (tgt := 18) F dX8_tiePlace_14 (by decide) ?_
    exact v_iret F hQ h (by decide) dX8_tiePlace_18
theorem dX8_holds_0 : decode cX8_holds 0 = .ok (.iload_n 1, 1) := by decide +kernel
theorem dX8_holds_1 : decode cX8_holds 1 = .ok (.ifCond .lt 22, 3) := by decide +kernel
theorem dX8_holds_4 : decode cX8_holds 4 = .ok (.iload_n 1, 1) := by decide +kernel
theorem dX8_holds_5 : decode cX8_holds 5 = .ok (.aload_n 0, 1) := by decide +kernel
theorem dX8_holds_6 : decode cX8_holds 6 = .ok (.getfield 68, 3) := by decide +kernel
theorem dX8_holds_9 : decode cX8_holds 9 = .ok (.if_icmp .ge 14, 3) := by decide +kernel
theorem dX8_holds_12 : decode cX8_holds 12 = .ok (.iload_n 1, 1) := by decide +kernel
theorem dX8_holds_13 : decode cX8_holds 13 = .ok (.sipush 300, 3) := by decide +kernel
theorem dX8_holds_16 : decode cX8_holds 16 = .ok (.if_icmp .ge 7, 3) := by decide +kernel
theorem dX8_holds_19 : decode cX8_holds 19 = .ok (.iconst 1, 1) := by decide +kernel
theorem dX8_holds_20 : decode cX8_holds 20 = .ok (.goto 4, 3) := by decide +kernel
theorem dX8_holds_23 : decode cX8_holds 23 = .ok (.iconst 0, 1) := by decide +kernel
theorem dX8_holds_24 : decode cX8_holds 24 = .ok (.ireturn, 1) := by decide +kernel
abbrev rm_X8_holds : Room := { frames := 0, cells := 0, slots := 0, locals := 0 }
def wp_X8_holds (a : Nat) (p1 : Int32) (S : PS) (Q : Int32 → PS → Prop) : Prop :=
  (if p1 < 0 then
 Q 0 S
 else
 (if fI S 70 a ≤ p1 then
 Q 0 S
 else
 (if 300 ≤ p1 then
 Q 0 S
 else
 Q 1 S)))
set_option maxRecDepth 100000 in
set_option maxHeartbeats 4000000 in
theorem c_X8_holds {l : Launch} {E : EE} {A : Nat → Prop} {a : Nat} {p1 : Int32} {S : PS} {Q : Int32 → PS → Prop} (r_a : Rf S a 7) (h : wp_X8_holds a p1 S Q) : MtI l yX8_holds (.code yX8_holds cX8_holds 2 (some .boolean)) rm_X8_holds E A [.ref a, .int p1] S (fun r S1 => nz r ∧ Q r S1) := by
  refine MtI.of (by decide) (Nat.le_of_ble_eq_true rfl) (fun X F hQ hN => ?_)
  show VV X (0, 0) S [(0, .ref a), (1, .int p1)] [] 0
  unfold wp_X8_holds at h
  refine v_iload_n F dX8_holds_0 1 rfl rfl ?_
  refine v_if_lt (tgt := 23) F dX8_holds_1 (by decide) h (fun h => ?_) (fun h => ?_)
  · refine v_iconst (v := 0) F dX8_holds_23 (by decide) ?_
    exact v_zret F hQ (by decide) ⟨nz0, h⟩ (by decide) dX8_holds_24
  · refine v_iload_n F dX8_holds_4 1 rfl rfl ?_
    refine v_aload_n F dX8_holds_5 0 rfl rfl ?_
    refine g_X8_68 F r_a dX8_holds_6 ?_
    refine v_icmp_ge (tgt := 23) F dX8_holds_9 (by decide) h (fun h => ?_) (fun h => ?_)
    · refine v_iconst (v := 0) F dX8_holds_23 (by decide) ?_
      exact v_zret F hQ (by decide) ⟨nz0, h⟩ (by decide) dX8_holds_24
    · refine v_iload_n F dX8_holds_12 1 rfl rfl ?_
      refine v_sipush (v := 300) F dX8_holds_13 (by decide) ?_
      refine v_icmp_ge (tgt := 23) F dX8_holds_16 (by decide) h (fun h => ?_) (fun h => ?_)
      · refine v_iconst (v := 0) F dX8_holds_23 (by decide) ?_
        exact v_zret F hQ (by decide) ⟨nz0, h⟩ (by decide) dX8_holds_24
      · refine v_iconst (v := 1) F dX8_holds_19 (by decide) ?_
        refine v_goto (tgt := 24) F dX8_holds_20 (by decide) ?_
        exact v_zret F hQ (by decide) ⟨nz1, h⟩ (by decide) dX8_holds_24
theorem dX8_comesLater_0 : decode cX8_comesLater 0 = .ok (.aload_n 0, 1) := by decide +kernel
theorem dX8_comesLater_1 : decode cX8_comesLater 1 = .ok (.iload_n 1, 1) := by decide +kernel
theorem dX8_comesLater_2 : decode cX8_comesLater 2 = .ok (.invokevirtual 92, 3) := by decide +kernel
theorem dX8_comesLater_5 : decode cX8_comesLater 5 = .ok (.ifCond .eq 11, 3) := by decide +kernel
theorem dX8_comesLater_8 : decode cX8_comesLater 8 = .ok (.aload_n 0, 1) := by decide +kernel
theorem dX8_comesLater_9 : decode cX8_comesLater 9 = .ok (.iload_n 2, 1) := by decide +kernel
theorem dX8_comesLater_10 : decode cX8_comesLater 10 = .ok (.invokevirtual 92, 3) := by decide +kernel
theorem dX8_comesLater_13 : decode cX8_comesLater 13 = .ok (.ifCond .ne 5, 3) := by decide +kernel
theorem dX8_comesLater_16 : decode cX8_comesLater 16 = .ok (.iconst 0, 1) := by decide +kernel
theorem dX8_comesLater_17 : decode cX8_comesLater 17 = .ok (.ireturn, 1) := by decide +kernel
theorem dX8_comesLater_18 : decode cX8_comesLater 18 = .ok (.aload_n 0, 1) := by decide +kernel
theorem dX8_comesLater_19 : decode cX8_comesLater 19 = .ok (.getfield 19, 3) := by decide +kernel
theorem dX8_comesLater_22 : decode cX8_comesLater 22 = .ok (.iload_n 1, 1) := by decide +kernel
theorem dX8_comesLater_23 : decode cX8_comesLater 23 = .ok (.laload, 1) := by decide +kernel
theorem dX8_comesLater_24 : decode cX8_comesLater 24 = .ok (.aload_n 0, 1) := by decide +kernel
theorem dX8_comesLater_25 : decode cX8_comesLater 25 = .ok (.getfield 19, 3) := by decide +kernel
theorem dX8_comesLater_28 : decode cX8_comesLater 28 = .ok (.iload_n 2, 1) := by decide +kernel
theorem dX8_comesLater_29 : decode cX8_comesLater 29 = .ok (.laload, 1) := by decide +kernel
theorem dX8_comesLater_30 : decode cX8_comesLater 30 = .ok (.lcmp, 1) := by decide +kernel
theorem dX8_comesLater_31 : decode cX8_comesLater 31 = .ok (.ifCond .gt 34, 3) := by decide +kernel
theorem dX8_comesLater_34 : decode cX8_comesLater 34 = .ok (.aload_n 0, 1) := by decide +kernel
theorem dX8_comesLater_35 : decode cX8_comesLater 35 = .ok (.getfield 19, 3) := by decide +kernel
theorem dX8_comesLater_38 : decode cX8_comesLater 38 = .ok (.iload_n 1, 1) := by decide +kernel
theorem dX8_comesLater_39 : decode cX8_comesLater 39 = .ok (.laload, 1) := by decide +kernel
theorem dX8_comesLater_40 : decode cX8_comesLater 40 = .ok (.aload_n 0, 1) := by decide +kernel
theorem dX8_comesLater_41 : decode cX8_comesLater 41 = .ok (.getfield 19, 3) := by decide +kernel
theorem dX8_comesLater_44 : decode cX8_comesLater 44 = .ok (.iload_n 2, 1) := by decide +kernel
theorem dX8_comesLater_45 : decode cX8_comesLater 45 = .ok (.laload, 1) := by decide +kernel
theorem dX8_comesLater_46 : decode cX8_comesLater 46 = .ok (.lcmp, 1) := by decide +kernel
theorem dX8_comesLater_47 : decode cX8_comesLater 47 = .ok (.ifCond .ne 22, 3) := by decide +kernel
theorem dX8_comesLater_50 : decode cX8_comesLater 50 = .ok (.aload_n 0, 1) := by decide +kernel
theorem dX8_comesLater_51 : decode cX8_comesLater 51 = .ok (.getfield 15, 3) := by decide +kernel
theorem dX8_comesLater_54 : decode cX8_comesLater 54 = .ok (.iload_n 1, 1) := by decide +kernel
theorem dX8_comesLater_55 : decode cX8_comesLater 55 = .ok (.iaload, 1) := by decide +kernel
theorem dX8_comesLater_56 : decode cX8_comesLater 56 = .ok (.aload_n 0, 1) := by decide +kernel
theorem dX8_comesLater_57 : decode cX8_comesLater 57 = .ok (.getfield 15, 3) := by decide +kernel
theorem dX8_comesLater_60 : decode cX8_comesLater 60 = .ok (.iload_n 2, 1) := by decide +kernel
theorem dX8_comesLater_61 : decode cX8_comesLater 61 = .ok (.iaload, 1) := by decide +kernel
theorem dX8_comesLater_62 : decode cX8_comesLater 62 = .ok (.if_icmp .le 7, 3) := by decide +kernel
theorem dX8_comesLater_65 : decode cX8_comesLater 65 = .ok (.iconst 1, 1) := by decide +kernel
theorem dX8_comesLater_66 : decode cX8_comesLater 66 = .ok (.goto 4, 3) := by decide +kernel
theorem dX8_comesLater_69 : decode cX8_comesLater 69 = .ok (.iconst 0, 1) := by decide +kernel
theorem dX8_comesLater_70 : decode cX8_comesLater 70 = .ok (.ireturn, 1) := by decide +kernel
abbrev rm_X8_comesLater : Room := { frames := 1, cells := 0, slots := 0, locals := 21 }
def wp_X8_comesLater (a : Nat) (p1 : Int32) (p2 : Int32) (S : PS) (Q : Int32 → PS → Prop) : Prop :=
  wp_X8_holds a p1 S (fun (r2 : Int32) (S1 : PS) => 
 (if r2 = 0 then
 Q 0 S1
 else
 wp_X8_holds a p2 S1 (fun (r4 : Int32) (S3 : PS) => 
 (if r4 = 0 then
 Q 0 S3
 else
 (∃ b5, fR S3 72 a = some b5 ∧ (vp_in p1 (aN S3 b5) ∧ (∃ b6, fR S3 72 a = some b6 ∧ (vp_in p2 (aN S3 b6) ∧ (if aL S3 29 b6 (p2).toNatClampNeg < aL S3 29 b5 (p1).toNatClampNeg then
 Q 1 S3
 else
 (∃ b7, fR S3 72 a = some b7 ∧ (vp_in p1 (aN S3 b7) ∧ (∃ b8, fR S3 72 a = some b8 ∧ (vp_in p2 (aN S3 b8) ∧ (if aL S3 29 b7 (p1).toNatClampNeg = aL S3 29 b8 (p2).toNatClampNeg then
 (∃ b9, fR S3 71 a = some b9 ∧ (vp_in p1 (aN S3 b9) ∧ (∃ b10, fR S3 71 a = some b10 ∧ (vp_in p2 (aN S3 b10) ∧ (if aI S3 28 b9 (p1).toNatClampNeg ≤ aI S3 28 b10 (p2).toNatClampNeg then
 Q 0 S3
 else
 Q 1 S3)))))
 else
 Q 0 S3))))))))))))))
set_option maxRecDepth 100000 in
set_option maxHeartbeats 4000000 in
theorem c_X8_comesLater {l : Launch} {E : EE} {A : Nat → Prop} {a : Nat} {p1 : Int32} {p2 : Int32} {S : PS} {Q : Int32 → PS → Prop} (r_a : Rf S a 7) (h : wp_X8_comesLater a p1 p2 S Q) : MtI l yX8_comesLater (.code yX8_comesLater cX8_comesLater 3 (some .boolean)) rm_X8_comesLater E A [.ref a, .int p1, .int p2] S (fun r S1 => nz r ∧ Q r S1) := by
  refine MtI.of (by decide) (Nat.le_of_ble_eq_true rfl) (fun X F hQ hN => ?_)
  show VV X (0, 0) S [(0, .ref a), (1, .int p1), (2, .int p2)] [] 0
  unfold wp_X8_comesLater at h
  refine v_aload_n F dX8_comesLater_0 0 rfl rfl ?_
  refine v_iload_n F dX8_comesLater_1 1 rfl rfl ?_
  refine v_cI0 (v_runV F k_X8_92 rfl (c_X8_holds r_a h) r_a rfl rfl (Nat.le_of_ble_eq_true rfl) (by decide) (by decide) dX8_comesLater_2) ⟨rfl, rfl⟩ (fun r2 S1 h hE => ?_)
  obtain ⟨nz_r2, h⟩ := h
  have r_a := r_a.tr hE
  refine v_if_eq (tgt := 16) F dX8_comesLater_5 (by decide) h (fun h => ?_) (fun h => ?_)
  · refine v_iconst (v := 0) F dX8_comesLater_16 (by decide) ?_
    exact v_zret F hQ (by decide) ⟨nz0, h⟩ (by decide) dX8_comesLater_17
  · refine v_aload_n F dX8_comesLater_8 0 rfl rfl ?_
    refine v_iload_n F dX8_comesLater_9 2 rfl rfl ?_
    refine v_cI0 (v_runV F k_X8_92 rfl (c_X8_holds r_a h) r_a rfl rfl (Nat.le_of_ble_eq_true rfl) (by decide) (by decide) dX8_comesLater_10) ⟨rfl, rfl⟩ (fun r4 S3 h hE => ?_)
    obtain ⟨nz_r4, h⟩ := h
    have r_a := r_a.tr hE
    refine v_if_ne (tgt := 18) F dX8_comesLater_13 (by decide) h (fun h => ?_) (fun h => ?_)
    · refine v_aload_n F dX8_comesLater_18 0 rfl rfl ?_
      refine g_X8_19 F r_a h dX8_comesLater_19 (fun b5 r_b5 h => ?_)
      refine v_iload_n F dX8_comesLater_22 1 rfl rfl ?_
      refine v_lald F r_b5 o_29 h dX8_comesLater_23 (fun h => ?_)
      refine v_aload_n F dX8_comesLater_24 0 rfl rfl ?_
      refine g_X8_19 F r_a h dX8_comesLater_25 (fun b6 r_b6 h => ?_)
      refine v_iload_n F dX8_comesLater_28 2 rfl rfl ?_
      refine v_lald F r_b6 o_29 h dX8_comesLater_29 (fun h => ?_)
      refine v_lcmp_gt (tgt := 65) F dX8_comesLater_30 dX8_comesLater_31 (by decide) h (fun h => ?_) (fun h => ?_)
      · refine v_iconst (v := 1) F dX8_comesLater_65 (by decide) ?_
        refine v_goto (tgt := 70) F dX8_comesLater_66 (by decide) ?_
        exact v_zret F hQ (by decide) ⟨nz1, h⟩ (by decide) dX8_comesLater_70
      · refine v_aload_n F dX8_comesLater_34 0 rfl rfl ?_
        refine g_X8_19 F r_a h dX8_comesLater_35 (fun b7 r_b7 h => ?_)
        refine v_iload_n F dX8_comesLater_38 1 rfl rfl ?_
        refine v_lald F r_b7 o_29 h dX8_comesLater_39 (fun h => ?_)
        refine v_aload_n F dX8_comesLater_40 0 rfl rfl ?_
        refine g_X8_19 F r_a h dX8_comesLater_41 (fun b8 r_b8 h => ?_)
        refine v_iload_n F dX8_comesLater_44 2 rfl rfl ?_
        refine v_lald F r_b8 o_29 h dX8_comesLater_45 (fun h => ?_)
        refine v_lcmp_ne (tgt := 69) F dX8_comesLater_46 dX8_comesLater_47 (by decide) h (fun h => ?_) (fun h => ?_)
        · refine v_iconst (v := 0) F dX8_comesLater_69 (by decide) ?_
          exact v_zret F hQ (by decide) ⟨nz0, h⟩ (by decide) dX8_comesLater_70
        · refine v_aload_n F dX8_comesLater_50 0 rfl rfl ?_
          refine g_X8_15 F r_a h dX8_comesLater_51 (fun b9 r_b9 h => ?_)
          refine v_iload_n F dX8_comesLater_54 1 rfl rfl ?_
          refine v_iald F r_b9 o_28 h dX8_comesLater_55 (fun h => ?_)
          refine v_aload_n F dX8_comesLater_56 0 rfl rfl ?_
          refine g_X8_15 F r_a h dX8_comesLater_57 (fun b10 r_b10 h => ?_)
          refine v_iload_n F dX8_comesLater_60 2 rfl rfl ?_
          refine v_iald F r_b10 o_28 h dX8_comesLater_61 (fun h => ?_)
          refine v_icmp_le (tgt := 69) F dX8_comesLater_62 (by decide) h (fun h => ?_) (fun h => ?_)
          · refine v_iconst (v := 0) F dX8_comesLater_69 (by decide) ?_
            exact v_zret F hQ (by decide) ⟨nz0, h⟩ (by decide) dX8_comesLater_70
          · refine v_iconst (v := 1) F dX8_comesLater_65 (by decide) ?_
            refine v_goto (tgt := 70) F dX8_comesLater_66 (by decide) ?_
            exact v_zret F hQ (by decide) ⟨nz1, h⟩ (by decide) dX8_comesLater_70
    · refine v_iconst (v := 0) F dX8_comesLater_16 (by decide) ?_
      exact v_zret F hQ (by decide) ⟨nz0, h⟩ (by decide) dX8_comesLater_17
theorem dX8_sortByTime_0 : decode cX8_sortByTime 0 = .ok (.iconst 0, 1) := by decide +kernel
theorem dX8_sortByTime_1 : decode cX8_sortByTime 1 = .ok (.istore_n 1, 1) := by decide +kernel
theorem dX8_sortByTime_2 : decode cX8_sortByTime 2 = .ok (.iload_n 1, 1) := by decide +kernel
theorem dX8_sortByTime_3 : decode cX8_sortByTime 3 = .ok (.aload_n 0, 1) := by decide +kernel
theorem dX8_sortByTime_4 : decode cX8_sortByTime 4 = .ok (.getfield 68, 3) := by decide +kernel
theorem dX8_sortByTime_7 : decode cX8_sortByTime 7 = .ok (.if_icmp .ge 65, 3) := by decide +kernel
theorem dX8_sortByTime_10 : decode cX8_sortByTime 10 = .ok (.iload_n 1, 1) := by decide +kernel
theorem dX8_sortByTime_11 : decode cX8_sortByTime 11 = .ok (.sipush 300, 3) := by decide +kernel
theorem dX8_sortByTime_14 : decode cX8_sortByTime 14 = .ok (.if_icmp .ge 58, 3) := by decide +kernel
theorem dX8_sortByTime_17 : decode cX8_sortByTime 17 = .ok (.iload_n 1, 1) := by decide +kernel
theorem dX8_sortByTime_18 : decode cX8_sortByTime 18 = .ok (.istore_n 2, 1) := by decide +kernel
theorem dX8_sortByTime_19 : decode cX8_sortByTime 19 = .ok (.iload_n 2, 1) := by decide +kernel
theorem dX8_sortByTime_20 : decode cX8_sortByTime 20 = .ok (.ifCond .le 39, 3) := by decide +kernel
theorem dX8_sortByTime_23 : decode cX8_sortByTime 23 = .ok (.aload_n 0, 1) := by decide +kernel
theorem dX8_sortByTime_24 : decode cX8_sortByTime 24 = .ok (.aload_n 0, 1) := by decide +kernel
theorem dX8_sortByTime_25 : decode cX8_sortByTime 25 = .ok (.getfield 39, 3) := by decide +kernel
theorem dX8_sortByTime_28 : decode cX8_sortByTime 28 = .ok (.iload_n 2, 1) := by decide +kernel
theorem dX8_sortByTime_29 : decode cX8_sortByTime 29 = .ok (.iconst 1, 1) := by decide +kernel
theorem dX8_sortByTime_30 : decode cX8_sortByTime 30 = .ok (.isub, 1) := by decide +kernel
theorem dX8_sortByTime_31 : decode cX8_sortByTime 31 = .ok (.iaload, 1) := by decide +kernel
theorem dX8_sortByTime_32 : decode cX8_sortByTime 32 = .ok (.iload_n 1, 1) := by decide +kernel
theorem dX8_sortByTime_33 : decode cX8_sortByTime 33 = .ok (.invokevirtual 127, 3) := by decide +kernel
theorem dX8_sortByTime_36 : decode cX8_sortByTime 36 = .ok (.ifCond .eq 23, 3) := by decide +kernel
theorem dX8_sortByTime_39 : decode cX8_sortByTime 39 = .ok (.aload_n 0, 1) := by decide +kernel
theorem dX8_sortByTime_40 : decode cX8_sortByTime 40 = .ok (.getfield 39, 3) := by decide +kernel
theorem dX8_sortByTime_43 : decode cX8_sortByTime 43 = .ok (.iload_n 2, 1) := by decide +kernel
theorem dX8_sortByTime_44 : decode cX8_sortByTime 44 = .ok (.aload_n 0, 1) := by decide +kernel
theorem dX8_sortByTime_45 : decode cX8_sortByTime 45 = .ok (.getfield 39, 3) := by decide +kernel
theorem dX8_sortByTime_48 : decode cX8_sortByTime 48 = .ok (.iload_n 2, 1) := by decide +kernel
theorem dX8_sortByTime_49 : decode cX8_sortByTime 49 = .ok (.iconst 1, 1) := by decide +kernel
theorem dX8_sortByTime_50 : decode cX8_sortByTime 50 = .ok (.isub, 1) := by decide +kernel
theorem dX8_sortByTime_51 : decode cX8_sortByTime 51 = .ok (.iaload, 1) := by decide +kernel
theorem dX8_sortByTime_52 : decode cX8_sortByTime 52 = .ok (.iastore, 1) := by decide +kernel
theorem dX8_sortByTime_53 : decode cX8_sortByTime 53 = .ok (.iinc 2 (-1), 3) := by decide +kernel
theorem dX8_sortByTime_56 : decode cX8_sortByTime 56 = .ok (.goto (-37), 3) := by decide +kernel
theorem dX8_sortByTime_59 : decode cX8_sortByTime 59 = .ok (.aload_n 0, 1) := by decide +kernel
theorem dX8_sortByTime_60 : decode cX8_sortByTime 60 = .ok (.getfield 39, 3) := by decide +kernel
theorem dX8_sortByTime_63 : decode cX8_sortByTime 63 = .ok (.iload_n 2, 1) := by decide +kernel
theorem dX8_sortByTime_64 : decode cX8_sortByTime 64 = .ok (.iload_n 1, 1) := by decide +kernel
theorem dX8_sortByTime_65 : decode cX8_sortByTime 65 = .ok (.iastore, 1) := by decide +kernel
theorem dX8_sortByTime_66 : decode cX8_sortByTime 66 = .ok (.iinc 1 1, 3) := by decide +kernel
theorem dX8_sortByTime_69 : decode cX8_sortByTime 69 = .ok (.goto (-67), 3) := by decide +kernel
theorem dX8_sortByTime_72 : decode cX8_sortByTime 72 = .ok (.return_, 1) := by decide +kernel
abbrev rm_X8_sortByTime : Room := { frames := 2, cells := 0, slots := 0, locals := 43 }
def wp_X8_sortByTime (a : Nat) (S : PS) (Q : PS → Prop) : Prop :=
  (∀ P2_1 : Int32 → PS → Prop, (∀ (x1_2 : Int32) (S3 : PS),
 (if fI S3 70 a ≤ x1_2 then
 Q S3
 else
 (if 300 ≤ x1_2 then
 Q S3
 else
 (∀ P19_4 : Int32 → PS → Prop, (∀ (x2_5 : Int32) (S6 : PS),
 (∀ K59_8 : PS → Prop, (∀ (S7 : PS),
 (∃ b9, fR S7 78 a = some b9 ∧ (vp_in x2_5 (aN S7 b9) ∧ ∀ S10, S10 = wI S7 35 b9 (x2_5).toNatClampNeg x1_2 → (∀ v11, v11 = x1_2 + 1 → P2_1 v11 S10)))
 → K59_8 S7) →
 (if x2_5 ≤ 0 then
 K59_8 S6
 else
 (∃ b12, fR S6 78 a = some b12 ∧ (vp_in (x2_5 - 1) (aN S6 b12) ∧ wp_X8_comesLater a (aI S6 35 b12 (x2_5 - 1).toNatClampNeg) x1_2 S6 (fun (r14 : Int32) (S13 : PS) => 
 (if r14 = 0 then
 K59_8 S13
 else
 (∃ b15, fR S13 78 a = some b15 ∧ (∃ b16, fR S13 78 a = some b16 ∧ (vp_in (x2_5 - 1) (aN S13 b16) ∧ (vp_in x2_5 (aN S13 b15) ∧ ∀ S17, S17 = wI S13 35 b15 (x2_5).toNatClampNeg (aI S13 35 b16 (x2_5 - 1).toNatClampNeg) → (∀ v18, v18 = x2_5 + (-1) → P19_4 v18 S17)))))))))))
 → P19_4 x2_5 S6) → P19_4 x1_2 S3)))
 → P2_1 x1_2 S3) → P2_1 0 S)
set_option maxRecDepth 100000 in
set_option maxHeartbeats 4000000 in
theorem c_X8_sortByTime {l : Launch} {E : EE} {A : Nat → Prop} {a : Nat} {S : PS} {Q : PS → Prop} (r_a : Rf S a 7) (h : wp_X8_sortByTime a S Q) : MtV l yX8_sortByTime (.code yX8_sortByTime cX8_sortByTime 3 none) rm_X8_sortByTime E A [.ref a] S Q := by
  refine MtV.of (by decide) (Nat.le_of_ble_eq_true rfl) (fun X F hQ hN => ?_)
  show VV X (0, 0) S [(0, .ref a)] [] 0
  unfold wp_X8_sortByTime at h
  refine v_iconst (v := 0) F dX8_sortByTime_0 (by decide) ?_
  refine v_istore_n (lv1 := [(1, .int 0), (0, .ref a)]) F dX8_sortByTime_1 rfl (by rw [hN]; decide) rfl ?_
  refine v_sub [1, 0] rfl ?_
  refine h (fun (x1_2 : Int32) (S3 : PS) => Rf S3 a 7 → VV X (0, 0) S3 [(0, .ref a), (1, .int x1_2)] [] 2) (fun x1_2 S3 h r_a => ?_) r_a
  refine v_iload_n F dX8_sortByTime_2 1 rfl rfl ?_
  refine v_aload_n F dX8_sortByTime_3 0 rfl rfl ?_
  refine g_X8_68 F r_a dX8_sortByTime_4 ?_
  refine v_icmp_ge (tgt := 72) F dX8_sortByTime_7 (by decide) h (fun h => ?_) (fun h => ?_)
  · exact v_vret F hQ h (by decide) dX8_sortByTime_72
  · refine v_iload_n F dX8_sortByTime_10 1 rfl rfl ?_
    refine v_sipush (v := 300) F dX8_sortByTime_11 (by decide) ?_
    refine v_icmp_ge (tgt := 72) F dX8_sortByTime_14 (by decide) h (fun h => ?_) (fun h => ?_)
    · exact v_vret F hQ h (by decide) dX8_sortByTime_72
    · refine v_iload_n F dX8_sortByTime_17 1 rfl rfl ?_
      refine v_istore_n (lv1 := [(2, .int x1_2), (0, .ref a), (1, .int x1_2)]) F dX8_sortByTime_18 rfl (by rw [hN]; decide) rfl ?_
      refine v_sub [1, 2, 0] rfl ?_
      refine h (fun (x2_5 : Int32) (S6 : PS) => Rf S6 a 7 → VV X (0, 0) S6 [(0, .ref a), (1, .int x1_2), (2, .int x2_5)] [] 19) (fun x2_5 S6 h r_a => ?_) r_a
      refine v_iload_n F dX8_sortByTime_19 2 rfl rfl ?_
      have h := h (fun (S7 : PS) => Rf S7 a 7 → VV X (0, 0) S7 [(0, .ref a), (1, .int x1_2), (2, .int x2_5)] [] 59) (by
        intro S7 h r_a
        refine v_aload_n F dX8_sortByTime_59 0 rfl rfl ?_
        refine g_X8_39 F r_a h dX8_sortByTime_60 (fun b9 r_b9 h => ?_)
        refine v_iload_n F dX8_sortByTime_63 2 rfl rfl ?_
        refine v_iload_n F dX8_sortByTime_64 1 rfl rfl ?_
        refine v_iast F r_b9 o_35 h dX8_sortByTime_65 (fun S10 h hE => ?_)
        have r_a := r_a.tr hE
        obtain ⟨v11, e_v11⟩ : ∃ y : Int32, y = x1_2 + 1 := ⟨_, rfl⟩
        have h := h v11 e_v11
        refine v_iinc (v := v11) (lv1 := [(1, .int v11), (0, .ref a), (2, .int x2_5)]) F dX8_sortByTime_66 (q := 1) rfl (by rw [e_v11]; rfl) (by rw [hN]; decide) rfl ?_
        refine v_goto (tgt := 2) F dX8_sortByTime_69 (by decide) ?_
        exact v_sub [1, 0] rfl (h r_a))
      refine v_if_le (tgt := 59) F dX8_sortByTime_20 (by decide) h (fun h => ?_) (fun h => ?_)
      · exact v_sub [0, 1, 2] rfl (h r_a)
      · refine v_aload_n F dX8_sortByTime_23 0 rfl rfl ?_
        refine v_aload_n F dX8_sortByTime_24 0 rfl rfl ?_
        refine g_X8_39 F r_a h dX8_sortByTime_25 (fun b12 r_b12 h => ?_)
        refine v_iload_n F dX8_sortByTime_28 2 rfl rfl ?_
        refine v_iconst (v := 1) F dX8_sortByTime_29 (by decide) ?_
        refine v_isub F dX8_sortByTime_30 ?_
        refine v_iald F r_b12 o_35 h dX8_sortByTime_31 (fun h => ?_)
        refine v_iload_n F dX8_sortByTime_32 1 rfl rfl ?_
        refine v_cI0 (v_runV F k_X8_127 rfl (c_X8_comesLater r_a h) r_a rfl rfl (Nat.le_of_ble_eq_true rfl) (by decide) (by decide) dX8_sortByTime_33) ⟨rfl, rfl⟩ (fun r14 S13 h hE => ?_)
        obtain ⟨nz_r14, h⟩ := h
        have r_a := r_a.tr hE
        refine v_if_eq (tgt := 59) F dX8_sortByTime_36 (by decide) h (fun h => ?_) (fun h => ?_)
        · exact v_sub [0, 1, 2] rfl (h r_a)
        · refine v_aload_n F dX8_sortByTime_39 0 rfl rfl ?_
          refine g_X8_39 F r_a h dX8_sortByTime_40 (fun b15 r_b15 h => ?_)
          refine v_iload_n F dX8_sortByTime_43 2 rfl rfl ?_
          refine v_aload_n F dX8_sortByTime_44 0 rfl rfl ?_
          refine g_X8_39 F r_a h dX8_sortByTime_45 (fun b16 r_b16 h => ?_)
          refine v_iload_n F dX8_sortByTime_48 2 rfl rfl ?_
          refine v_iconst (v := 1) F dX8_sortByTime_49 (by decide) ?_
          refine v_isub F dX8_sortByTime_50 ?_
          refine v_iald F r_b16 o_35 h dX8_sortByTime_51 (fun h => ?_)
          refine v_iast F r_b15 o_35 h dX8_sortByTime_52 (fun S17 h hE => ?_)
          have r_a := r_a.tr hE
          obtain ⟨v18, e_v18⟩ : ∃ y : Int32, y = x2_5 + (-1) := ⟨_, rfl⟩
          have h := h v18 e_v18
          refine v_iinc (v := v18) (lv1 := [(2, .int v18), (0, .ref a), (1, .int x1_2)]) F dX8_sortByTime_53 (q := 2) rfl (by rw [e_v18]; rfl) (by rw [hN]; decide) rfl ?_
          refine v_goto (tgt := 19) F dX8_sortByTime_56 (by decide) ?_
          exact v_sub [1, 2, 0] rfl (h r_a)
theorem dX8_latestPitches_0 : decode cX8_latestPitches 0 = .ok (.aload_n 0, 1) := by decide +kernel
theorem dX8_latestPitches_1 : decode cX8_latestPitches 1 = .ok (.iload_n 1, 1) := by decide +kernel
theorem dX8_latestPitches_2 : decode cX8_latestPitches 2 = .ok (.invokevirtual 88, 3) := by decide +kernel
theorem dX8_latestPitches_5 : decode cX8_latestPitches 5 = .ok (.ifCond .eq 12, 3) := by decide +kernel
theorem dX8_latestPitches_8 : decode cX8_latestPitches 8 = .ok (.aload_n 0, 1) := by decide +kernel
theorem dX8_latestPitches_9 : decode cX8_latestPitches 9 = .ok (.getfield 45, 3) := by decide +kernel
theorem dX8_latestPitches_12 : decode cX8_latestPitches 12 = .ok (.iload_n 1, 1) := by decide +kernel
theorem dX8_latestPitches_13 : decode cX8_latestPitches 13 = .ok (.iaload, 1) := by decide +kernel
theorem dX8_latestPitches_14 : decode cX8_latestPitches 14 = .ok (.goto 4, 3) := by decide +kernel
theorem dX8_latestPitches_17 : decode cX8_latestPitches 17 = .ok (.iconst (-1), 1) := by decide +kernel
theorem dX8_latestPitches_18 : decode cX8_latestPitches 18 = .ok (.istore_n 2, 1) := by decide +kernel
theorem dX8_latestPitches_19 : decode cX8_latestPitches 19 = .ok (.aload_n 0, 1) := by decide +kernel
theorem dX8_latestPitches_20 : decode cX8_latestPitches 20 = .ok (.iload_n 2, 1) := by decide +kernel
theorem dX8_latestPitches_21 : decode cX8_latestPitches 21 = .ok (.invokevirtual 92, 3) := by decide +kernel
theorem dX8_latestPitches_24 : decode cX8_latestPitches 24 = .ok (.ifCond .eq 12, 3) := by decide +kernel
theorem dX8_latestPitches_27 : decode cX8_latestPitches 27 = .ok (.aload_n 0, 1) := by decide +kernel
theorem dX8_latestPitches_28 : decode cX8_latestPitches 28 = .ok (.getfield 26, 3) := by decide +kernel
theorem dX8_latestPitches_31 : decode cX8_latestPitches 31 = .ok (.iload_n 2, 1) := by decide +kernel
theorem dX8_latestPitches_32 : decode cX8_latestPitches 32 = .ok (.laload, 1) := by decide +kernel
theorem dX8_latestPitches_33 : decode cX8_latestPitches 33 = .ok (.goto 4, 3) := by decide +kernel
theorem dX8_latestPitches_36 : decode cX8_latestPitches 36 = .ok (.lconst 0, 1) := by decide +kernel
theorem dX8_latestPitches_37 : decode cX8_latestPitches 37 = .ok (.lreturn, 1) := by decide +kernel
abbrev rm_X8_latestPitches : Room := { frames := 1, cells := 0, slots := 0, locals := 21 }
def wp_X8_latestPitches (a : Nat) (p1 : Int32) (S : PS) (Q : Int64 → PS → Prop) : Prop :=
  wp_X8_hasVoice a p1 S (fun (r2 : Int32) (S1 : PS) => 
 (∀ K18_5 : Int32 → PS → Prop, (∀ (t3 : Int32) (S4 : PS),
 wp_X8_holds a t3 S4 (fun (r7 : Int32) (S6 : PS) => 
 (if r7 = 0 then
 Q 0 S6
 else
 (∃ b8, fR S6 74 a = some b8 ∧ (vp_in t3 (aN S6 b8) ∧ Q (aL S6 31 b8 (t3).toNatClampNeg) S6))))
 → K18_5 t3 S4) →
 (if r2 = 0 then
 K18_5 (-1) S1
 else
 (∃ b9, fR S1 81 a = some b9 ∧ (vp_in p1 (aN S1 b9) ∧ K18_5 (aI S1 37 b9 (p1).toNatClampNeg) S1)))))
set_option maxRecDepth 100000 in
set_option maxHeartbeats 4000000 in
theorem c_X8_latestPitches {l : Launch} {E : EE} {A : Nat → Prop} {a : Nat} {p1 : Int32} {S : PS} {Q : Int64 → PS → Prop} (r_a : Rf S a 7) (h : wp_X8_latestPitches a p1 S Q) : MtL l yX8_latestPitches (.code yX8_latestPitches cX8_latestPitches 3 (some .long)) rm_X8_latestPitches E A [.ref a, .int p1] S Q := by
  refine MtL.of (by decide) (Nat.le_of_ble_eq_true rfl) (fun X F hQ hN => ?_)
  show VV X (0, 0) S [(0, .ref a), (1, .int p1)] [] 0
  unfold wp_X8_latestPitches at h
  refine v_aload_n F dX8_latestPitches_0 0 rfl rfl ?_
  refine v_iload_n F dX8_latestPitches_1 1 rfl rfl ?_
  refine v_cI0 (v_runV F k_X8_88 rfl (c_X8_hasVoice r_a h) r_a rfl rfl (Nat.le_of_ble_eq_true rfl) (by decide) (by decide) dX8_latestPitches_2) ⟨rfl, rfl⟩ (fun r2 S1 h hE => ?_)
  obtain ⟨nz_r2, h⟩ := h
  have r_a := r_a.tr hE
  have h := h (fun (t3 : Int32) (S4 : PS) => Rf S4 a 7 → VV X (0, 0) S4 [(0, .ref a)] [.int t3] 18) (by
    intro t3 S4 h r_a
    refine v_istore_n (lv1 := [(2, .int t3), (0, .ref a)]) F dX8_latestPitches_18 rfl (by rw [hN]; decide) rfl ?_
    refine v_aload_n F dX8_latestPitches_19 1 rfl rfl ?_
    refine v_iload_n F dX8_latestPitches_20 0 rfl rfl ?_
    refine v_cI0 (v_runV F k_X8_92 rfl (c_X8_holds r_a h) r_a rfl rfl (Nat.le_of_ble_eq_true rfl) (by decide) (by decide) dX8_latestPitches_21) ⟨rfl, rfl⟩ (fun r7 S6 h hE => ?_)
    obtain ⟨nz_r7, h⟩ := h
    have r_a := r_a.tr hE
    refine v_if_eq (tgt := 36) F dX8_latestPitches_24 (by decide) h (fun h => ?_) (fun h => ?_)
    · refine v_lconst (v := 0) F dX8_latestPitches_36 (by decide) ?_
      exact v_lret F hQ h (by decide) dX8_latestPitches_37
    · refine v_aload_n F dX8_latestPitches_27 1 rfl rfl ?_
      refine g_X8_26 F r_a h dX8_latestPitches_28 (fun b8 r_b8 h => ?_)
      refine v_iload_n F dX8_latestPitches_31 0 rfl rfl ?_
      refine v_lald F r_b8 o_31 h dX8_latestPitches_32 (fun h => ?_)
      refine v_goto (tgt := 37) F dX8_latestPitches_33 (by decide) ?_
      exact v_lret F hQ h (by decide) dX8_latestPitches_37)
  refine v_if_eq (tgt := 17) F dX8_latestPitches_5 (by decide) h (fun h => ?_) (fun h => ?_)
  · refine v_iconst (v := (-1)) F dX8_latestPitches_17 (by decide) ?_
    exact v_sub [0] rfl (h r_a)
  · refine v_aload_n F dX8_latestPitches_8 0 rfl rfl ?_
    refine g_X8_45 F r_a h dX8_latestPitches_9 (fun b9 r_b9 h => ?_)
    refine v_iload_n F dX8_latestPitches_12 1 rfl rfl ?_
    refine v_iald F r_b9 o_37 h dX8_latestPitches_13 (fun h => ?_)
    refine v_goto (tgt := 18) F dX8_latestPitches_14 (by decide) ?_
    exact v_sub [0] rfl (h r_a)
theorem dX8_slot_0 : decode cX8_slot 0 = .ok (.iload_n 0, 1) := by decide +kernel
theorem dX8_slot_1 : decode cX8_slot 1 = .ok (.iconst 3, 1) := by decide +kernel
theorem dX8_slot_2 : decode cX8_slot 2 = .ok (.imul, 1) := by decide +kernel
theorem dX8_slot_3 : decode cX8_slot 3 = .ok (.iload_n 1, 1) := by decide +kernel
theorem dX8_slot_4 : decode cX8_slot 4 = .ok (.iadd, 1) := by decide +kernel
theorem dX8_slot_5 : decode cX8_slot 5 = .ok (.iconst 1, 1) := by decide +kernel
theorem dX8_slot_6 : decode cX8_slot 6 = .ok (.isub, 1) := by decide +kernel
theorem dX8_slot_7 : decode cX8_slot 7 = .ok (.ireturn, 1) := by decide +kernel
abbrev rm_X8_slot : Room := { frames := 0, cells := 0, slots := 0, locals := 0 }
def wp_X8_slot (p1 : Int32) (p2 : Int32) (S : PS) (Q : Int32 → PS → Prop) : Prop :=
  Q (((p1 * 3) + p2) - 1) S
set_option maxRecDepth 100000 in
set_option maxHeartbeats 4000000 in
theorem c_X8_slot {l : Launch} {E : EE} {A : Nat → Prop} {p1 : Int32} {p2 : Int32} {S : PS} {Q : Int32 → PS → Prop} (h : wp_X8_slot p1 p2 S Q) : MtI l yX8_slot (.code yX8_slot cX8_slot 2 (some .int)) rm_X8_slot E A [.int p1, .int p2] S Q := by
  refine MtI.of (by decide) (Nat.le_of_ble_eq_true rfl) (fun X F hQ hN => ?_)
  show VV X (0, 0) S [(0, .int p1), (1, .int p2)] [] 0
  unfold wp_X8_slot at h
  refine v_iload_n F dX8_slot_0 0 rfl rfl ?_
  refine v_iconst (v := 3) F dX8_slot_1 (by decide) ?_
  refine v_imul F dX8_slot_2 ?_
  refine v_iload_n F dX8_slot_3 1 rfl rfl ?_
  refine v_iadd F dX8_slot_4 ?_
  refine v_iconst (v := 1) F dX8_slot_5 (by decide) ?_
  refine v_isub F dX8_slot_6 ?_
  exact v_iret F hQ h (by decide) dX8_slot_7
theorem dX8_addEvent_0 : decode cX8_addEvent 0 = .ok (.aload_n 0, 1) := by decide +kernel
theorem dX8_addEvent_1 : decode cX8_addEvent 1 = .ok (.iload_n 1, 1) := by decide +kernel
theorem dX8_addEvent_2 : decode cX8_addEvent 2 = .ok (.invokevirtual 88, 3) := by decide +kernel
theorem dX8_addEvent_5 : decode cX8_addEvent 5 = .ok (.ifCond .eq 13, 3) := by decide +kernel
theorem dX8_addEvent_8 : decode cX8_addEvent 8 = .ok (.aload_n 0, 1) := by decide +kernel
theorem dX8_addEvent_9 : decode cX8_addEvent 9 = .ok (.getfield 68, 3) := by decide +kernel
theorem dX8_addEvent_12 : decode cX8_addEvent 12 = .ok (.sipush 300, 3) := by decide +kernel
theorem dX8_addEvent_15 : decode cX8_addEvent 15 = .ok (.if_icmp .lt 4, 3) := by decide +kernel
theorem dX8_addEvent_18 : decode cX8_addEvent 18 = .ok (.return_, 1) := by decide +kernel
theorem dX8_addEvent_19 : decode cX8_addEvent 19 = .ok (.aload_n 0, 1) := by decide +kernel
theorem dX8_addEvent_20 : decode cX8_addEvent 20 = .ok (.getfield 68, 3) := by decide +kernel
theorem dX8_addEvent_23 : decode cX8_addEvent 23 = .ok (.istore 8, 2) := by decide +kernel
theorem dX8_addEvent_25 : decode cX8_addEvent 25 = .ok (.aload_n 0, 1) := by decide +kernel
theorem dX8_addEvent_26 : decode cX8_addEvent 26 = .ok (.dup, 1) := by decide +kernel
theorem dX8_addEvent_27 : decode cX8_addEvent 27 = .ok (.getfield 68, 3) := by decide +kernel
theorem dX8_addEvent_30 : decode cX8_addEvent 30 = .ok (.iconst 1, 1) := by decide +kernel
theorem dX8_addEvent_31 : decode cX8_addEvent 31 = .ok (.iadd, 1) := by decide +kernel
theorem dX8_addEvent_32 : decode cX8_addEvent 32 = .ok (.putfield 68, 3) := by decide +kernel
theorem dX8_addEvent_35 : decode cX8_addEvent 35 = .ok (.aload_n 0, 1) := by decide +kernel
theorem dX8_addEvent_36 : decode cX8_addEvent 36 = .ok (.getfield 15, 3) := by decide +kernel
theorem dX8_addEvent_39 : decode cX8_addEvent 39 = .ok (.iload 8, 2) := by decide +kernel
theorem dX8_addEvent_41 : decode cX8_addEvent 41 = .ok (.iload_n 1, 1) := by decide +kernel
theorem dX8_addEvent_42 : decode cX8_addEvent 42 = .ok (.iastore, 1) := by decide +kernel
theorem dX8_addEvent_43 : decode cX8_addEvent 43 = .ok (.aload_n 0, 1) := by decide +kernel
theorem dX8_addEvent_44 : decode cX8_addEvent 44 = .ok (.getfield 19, 3) := by decide +kernel
theorem dX8_addEvent_47 : decode cX8_addEvent 47 = .ok (.iload 8, 2) := by decide +kernel
theorem dX8_addEvent_49 : decode cX8_addEvent 49 = .ok (.lload_n 2, 1) := by decide +kernel
theorem dX8_addEvent_50 : decode cX8_addEvent 50 = .ok (.lastore, 1) := by decide +kernel
theorem dX8_addEvent_51 : decode cX8_addEvent 51 = .ok (.aload_n 0, 1) := by decide +kernel
theorem dX8_addEvent_52 : decode cX8_addEvent 52 = .ok (.getfield 23, 3) := by decide +kernel
theorem dX8_addEvent_55 : decode cX8_addEvent 55 = .ok (.iload 8, 2) := by decide +kernel
theorem dX8_addEvent_57 : decode cX8_addEvent 57 = .ok (.lload 4, 2) := by decide +kernel
theorem dX8_addEvent_59 : decode cX8_addEvent 59 = .ok (.lastore, 1) := by decide +kernel
theorem dX8_addEvent_60 : decode cX8_addEvent 60 = .ok (.aload_n 0, 1) := by decide +kernel
theorem dX8_addEvent_61 : decode cX8_addEvent 61 = .ok (.getfield 26, 3) := by decide +kernel
theorem dX8_addEvent_64 : decode cX8_addEvent 64 = .ok (.iload 8, 2) := by decide +kernel
theorem dX8_addEvent_66 : decode cX8_addEvent 66 = .ok (.lload 6, 2) := by decide +kernel
theorem dX8_addEvent_68 : decode cX8_addEvent 68 = .ok (.lastore, 1) := by decide +kernel
theorem dX8_addEvent_69 : decode cX8_addEvent 69 = .ok (.aload_n 0, 1) := by decide +kernel
theorem dX8_addEvent_70 : decode cX8_addEvent 70 = .ok (.getfield 29, 3) := by decide +kernel
theorem dX8_addEvent_73 : decode cX8_addEvent 73 = .ok (.iload 8, 2) := by decide +kernel
theorem dX8_addEvent_75 : decode cX8_addEvent 75 = .ok (.iconst 0, 1) := by decide +kernel
theorem dX8_addEvent_76 : decode cX8_addEvent 76 = .ok (.bastore, 1) := by decide +kernel
theorem dX8_addEvent_77 : decode cX8_addEvent 77 = .ok (.aload_n 0, 1) := by decide +kernel
theorem dX8_addEvent_78 : decode cX8_addEvent 78 = .ok (.getfield 33, 3) := by decide +kernel
theorem dX8_addEvent_81 : decode cX8_addEvent 81 = .ok (.iload 8, 2) := by decide +kernel
theorem dX8_addEvent_83 : decode cX8_addEvent 83 = .ok (.aload_n 0, 1) := by decide +kernel
theorem dX8_addEvent_84 : decode cX8_addEvent 84 = .ok (.getfield 48, 3) := by decide +kernel
theorem dX8_addEvent_87 : decode cX8_addEvent 87 = .ok (.iload_n 1, 1) := by decide +kernel
theorem dX8_addEvent_88 : decode cX8_addEvent 88 = .ok (.iaload, 1) := by decide +kernel
theorem dX8_addEvent_89 : decode cX8_addEvent 89 = .ok (.iconst (-1), 1) := by decide +kernel
theorem dX8_addEvent_90 : decode cX8_addEvent 90 = .ok (.if_icmp .eq 7, 3) := by decide +kernel
theorem dX8_addEvent_93 : decode cX8_addEvent 93 = .ok (.iconst 1, 1) := by decide +kernel
theorem dX8_addEvent_94 : decode cX8_addEvent 94 = .ok (.goto 4, 3) := by decide +kernel
theorem dX8_addEvent_97 : decode cX8_addEvent 97 = .ok (.iconst 0, 1) := by decide +kernel
theorem dX8_addEvent_98 : decode cX8_addEvent 98 = .ok (.bastore, 1) := by decide +kernel
theorem dX8_addEvent_99 : decode cX8_addEvent 99 = .ok (.iconst 1, 1) := by decide +kernel
theorem dX8_addEvent_100 : decode cX8_addEvent 100 = .ok (.istore 9, 2) := by decide +kernel
theorem dX8_addEvent_102 : decode cX8_addEvent 102 = .ok (.iload 9, 2) := by decide +kernel
theorem dX8_addEvent_104 : decode cX8_addEvent 104 = .ok (.iconst 3, 1) := by decide +kernel
theorem dX8_addEvent_105 : decode cX8_addEvent 105 = .ok (.if_icmp .gt 22, 3) := by decide +kernel
theorem dX8_addEvent_108 : decode cX8_addEvent 108 = .ok (.aload_n 0, 1) := by decide +kernel
theorem dX8_addEvent_109 : decode cX8_addEvent 109 = .ok (.getfield 36, 3) := by decide +kernel
theorem dX8_addEvent_112 : decode cX8_addEvent 112 = .ok (.iload 8, 2) := by decide +kernel
theorem dX8_addEvent_114 : decode cX8_addEvent 114 = .ok (.iload 9, 2) := by decide +kernel
theorem dX8_addEvent_116 : decode cX8_addEvent 116 = .ok (.invokestatic 95, 3) := by decide +kernel
theorem dX8_addEvent_119 : decode cX8_addEvent 119 = .ok (.iconst (-1), 1) := by decide +kernel
theorem dX8_addEvent_120 : decode cX8_addEvent 120 = .ok (.iastore, 1) := by decide +kernel
theorem dX8_addEvent_121 : decode cX8_addEvent 121 = .ok (.iinc 9 1, 3) := by decide +kernel
theorem dX8_addEvent_124 : decode cX8_addEvent 124 = .ok (.goto (-22), 3) := by decide +kernel
theorem dX8_addEvent_127 : decode cX8_addEvent 127 = .ok (.aload_n 0, 1) := by decide +kernel
theorem dX8_addEvent_128 : decode cX8_addEvent 128 = .ok (.getfield 45, 3) := by decide +kernel
theorem dX8_addEvent_131 : decode cX8_addEvent 131 = .ok (.iload_n 1, 1) := by decide +kernel
theorem dX8_addEvent_132 : decode cX8_addEvent 132 = .ok (.iload 8, 2) := by decide +kernel
theorem dX8_addEvent_134 : decode cX8_addEvent 134 = .ok (.iastore, 1) := by decide +kernel
theorem dX8_addEvent_135 : decode cX8_addEvent 135 = .ok (.aload_n 0, 1) := by decide +kernel
theorem dX8_addEvent_136 : decode cX8_addEvent 136 = .ok (.getfield 48, 3) := by decide +kernel
theorem dX8_addEvent_139 : decode cX8_addEvent 139 = .ok (.iload_n 1, 1) := by decide +kernel
theorem dX8_addEvent_140 : decode cX8_addEvent 140 = .ok (.iconst (-1), 1) := by decide +kernel
theorem dX8_addEvent_141 : decode cX8_addEvent 141 = .ok (.iastore, 1) := by decide +kernel
theorem dX8_addEvent_142 : decode cX8_addEvent 142 = .ok (.return_, 1) := by decide +kernel
abbrev rm_X8_addEvent : Room := { frames := 1, cells := 0, slots := 0, locals := 21 }
def wp_X8_addEvent (a : Nat) (p1 : Int32) (p2 : Int64) (p3 : Int64) (p4 : Int64) (S : PS) (Q : PS → Prop) : Prop :=
  wp_X8_hasVoice a p1 S (fun (r2 : Int32) (S1 : PS) => 
 (if r2 = 0 then
 Q S1
 else
 (if fI S1 70 a < 300 then
 (∀ v3, v3 = fI S1 70 a → (∀ S4, S4 = sI S1 70 a ((fI S1 70 a) + 1) → (∃ b5, fR S4 71 a = some b5 ∧ (vp_in v3 (aN S4 b5) ∧ ∀ S6, S6 = wI S4 28 b5 (v3).toNatClampNeg p1 → (∃ b7, fR S6 72 a = some b7 ∧ (vp_in v3 (aN S6 b7) ∧ ∀ S8, S8 = wL S6 29 b7 (v3).toNatClampNeg p2 → (∃ b9, fR S8 73 a = some b9 ∧ (vp_in v3 (aN S8 b9) ∧ ∀ S10, S10 = wL S8 30 b9 (v3).toNatClampNeg p3 → (∃ b11, fR S10 74 a = some b11 ∧ (vp_in v3 (aN S10 b11) ∧ ∀ S12, S12 = wL S10 31 b11 (v3).toNatClampNeg p4 → (∃ b13, fR S12 75 a = some b13 ∧ (vp_in v3 (aN S12 b13) ∧ ∀ S14, S14 = wI S12 32 b13 (v3).toNatClampNeg (vp_nar .boolean 0) → (∃ b15, fR S14 76 a = some b15 ∧ (∃ b16, fR S14 82 a = some b16 ∧ (vp_in p1 (aN S14 b16) ∧ (∀ K98_21 : Nat → Int32 → Int32 → PS → Prop, (∀ (t17 : Nat) (t18 : Int32) (t19 : Int32) (S20 : PS),
 (vp_in t18 (aN S20 t17) ∧ ∀ S22, S22 = wI S20 33 t17 (t18).toNatClampNeg (vp_nar .boolean t19) → (∀ P102_23 : Int32 → PS → Prop, (∀ (x9_24 : Int32) (S25 : PS),
 (if 3 < x9_24 then
 (∃ b26, fR S25 81 a = some b26 ∧ (vp_in p1 (aN S25 b26) ∧ ∀ S27, S27 = wI S25 37 b26 (p1).toNatClampNeg v3 → (∃ b28, fR S27 82 a = some b28 ∧ (vp_in p1 (aN S27 b28) ∧ ∀ S29, S29 = wI S27 38 b28 (p1).toNatClampNeg (-1) → Q S29))))
 else
 (∃ b30, fR S25 77 a = some b30 ∧ wp_X8_slot v3 x9_24 S25 (fun (r32 : Int32) (S31 : PS) => 
 (vp_in r32 (aN S31 b30) ∧ ∀ S33, S33 = wI S31 34 b30 (r32).toNatClampNeg (-1) → (∀ v34, v34 = x9_24 + 1 → P102_23 v34 S33)))))
 → P102_23 x9_24 S25) → P102_23 1 S22))
 → K98_21 t17 t18 t19 S20) →
 (if aI S14 38 b16 (p1).toNatClampNeg = (-1) then
 K98_21 b15 v3 0 S14
 else
 K98_21 b15 v3 1 S14)))))))))))))))))
 else
 Q S1)))
set_option maxRecDepth 100000 in
set_option maxHeartbeats 4000000 in
theorem c_X8_addEvent {l : Launch} {E : EE} {A : Nat → Prop} {a : Nat} {p1 : Int32} {p2 : Int64} {p3 : Int64} {p4 : Int64} {S : PS} {Q : PS → Prop} (r_a : Rf S a 7) (h : wp_X8_addEvent a p1 p2 p3 p4 S Q) : MtV l yX8_addEvent (.code yX8_addEvent cX8_addEvent 10 none) rm_X8_addEvent E A [.ref a, .int p1, .long p2, .long p3, .long p4] S Q := by
  refine MtV.of (by decide) (Nat.le_of_ble_eq_true rfl) (fun X F hQ hN => ?_)
  show VV X (0, 0) S [(0, .ref a), (1, .int p1), (2, .long p2), (4, .long p3), (6, .long p4)] [] 0
  unfold wp_X8_addEvent at h
  refine v_aload_n F dX8_addEvent_0 0 rfl rfl ?_
  refine v_iload_n F dX8_addEvent_1 1 rfl rfl ?_
  refine v_cI0 (v_runV F k_X8_88 rfl (c_X8_hasVoice r_a h) r_a rfl rfl (Nat.le_of_ble_eq_true rfl) (by decide) (by decide) dX8_addEvent_2) ⟨rfl, rfl⟩ (fun r2 S1 h hE => ?_)
  obtain ⟨nz_r2, h⟩ := h
  have r_a := r_a.tr hE
  refine v_if_eq (tgt := 18) F dX8_addEvent_5 (by decide) h (fun h => ?_) (fun h => ?_)
  · exact v_vret F hQ h (by decide) dX8_addEvent_18
  · refine v_aload_n F dX8_addEvent_8 0 rfl rfl ?_
    refine g_X8_68 F r_a dX8_addEvent_9 ?_
    refine v_sipush (v := 300) F dX8_addEvent_12 (by decide) ?_
    refine v_icmp_lt (tgt := 19) F dX8_addEvent_15 (by decide) h (fun h => ?_) (fun h => ?_)
    · refine v_aload_n F dX8_addEvent_19 0 rfl rfl ?_
      refine g_X8_68 F r_a dX8_addEvent_20 ?_
      refine v_topi (fun v3 e_v3 => ?_)
      have h := h v3 e_v3
      refine v_istore (lv1 := [(8, .int v3), (0, .ref a), (1, .int p1), (2, .long p2), (4, .long p3), (6, .long p4)]) F dX8_addEvent_23 (by rw [hN]; decide) rfl ?_
      refine v_aload_n F dX8_addEvent_25 1 rfl rfl ?_
      refine v_dup F dX8_addEvent_26 rfl ?_
      refine g_X8_68 F r_a dX8_addEvent_27 ?_
      refine v_iconst (v := 1) F dX8_addEvent_30 (by decide) ?_
      refine v_iadd F dX8_addEvent_31 ?_
      refine p_X8_68 F r_a h dX8_addEvent_32 (fun S4 h hE => ?_)
      have r_a := r_a.tr hE
      refine v_aload_n F dX8_addEvent_35 1 rfl rfl ?_
      refine g_X8_15 F r_a h dX8_addEvent_36 (fun b5 r_b5 h => ?_)
      refine v_iload F dX8_addEvent_39 0 rfl ?_
      refine v_iload_n F dX8_addEvent_41 2 rfl rfl ?_
      refine v_iast F r_b5 o_28 h dX8_addEvent_42 (fun S6 h hE => ?_)
      have r_a := r_a.tr hE
      refine v_aload_n F dX8_addEvent_43 1 rfl rfl ?_
      refine g_X8_19 F r_a h dX8_addEvent_44 (fun b7 r_b7 h => ?_)
      refine v_iload F dX8_addEvent_47 0 rfl ?_
      refine v_lload_n F dX8_addEvent_49 3 rfl rfl ?_
      refine v_last F r_b7 o_29 h dX8_addEvent_50 (fun S8 h hE => ?_)
      have r_a := r_a.tr hE
      refine v_aload_n F dX8_addEvent_51 1 rfl rfl ?_
      refine g_X8_23 F r_a h dX8_addEvent_52 (fun b9 r_b9 h => ?_)
      refine v_iload F dX8_addEvent_55 0 rfl ?_
      refine v_lload F dX8_addEvent_57 4 rfl ?_
      refine v_last F r_b9 o_30 h dX8_addEvent_59 (fun S10 h hE => ?_)
      have r_a := r_a.tr hE
      refine v_aload_n F dX8_addEvent_60 1 rfl rfl ?_
      refine g_X8_26 F r_a h dX8_addEvent_61 (fun b11 r_b11 h => ?_)
      refine v_iload F dX8_addEvent_64 0 rfl ?_
      refine v_lload F dX8_addEvent_66 5 rfl ?_
      refine v_last F r_b11 o_31 h dX8_addEvent_68 (fun S12 h hE => ?_)
      have r_a := r_a.tr hE
      refine v_aload_n F dX8_addEvent_69 1 rfl rfl ?_
      refine g_X8_29 F r_a h dX8_addEvent_70 (fun b13 r_b13 h => ?_)
      refine v_iload F dX8_addEvent_73 0 rfl ?_
      refine v_iconst (v := 0) F dX8_addEvent_75 (by decide) ?_
      refine v_zast F r_b13 o_32 h dX8_addEvent_76 (fun S14 h hE => ?_)
      have r_a := r_a.tr hE
      refine v_aload_n F dX8_addEvent_77 1 rfl rfl ?_
      refine g_X8_33 F r_a h dX8_addEvent_78 (fun b15 r_b15 h => ?_)
      refine v_iload F dX8_addEvent_81 0 rfl ?_
      refine v_aload_n F dX8_addEvent_83 1 rfl rfl ?_
      refine g_X8_48 F r_a h dX8_addEvent_84 (fun b16 r_b16 h => ?_)
      refine v_iload_n F dX8_addEvent_87 2 rfl rfl ?_
      refine v_iald F r_b16 o_38 h dX8_addEvent_88 (fun h => ?_)
      refine v_iconst (v := (-1)) F dX8_addEvent_89 (by decide) ?_
      have h := h (fun (t17 : Nat) (t18 : Int32) (t19 : Int32) (S20 : PS) => Rf S20 a 7 → Rf S20 t17 33 → VV X (0, 0) S20 [(0, .ref a), (1, .int p1), (8, .int v3)] [.int t19, .int t18, .ref t17] 98) (by
        intro t17 t18 t19 S20 h r_a r_t17
        refine v_zast F r_t17 o_33 h dX8_addEvent_98 (fun S22 h hE => ?_)
        have r_a := r_a.tr hE
        refine v_iconst (v := 1) F dX8_addEvent_99 (by decide) ?_
        refine v_istore (lv1 := [(9, .int 1), (0, .ref a), (1, .int p1), (8, .int v3)]) F dX8_addEvent_100 (by rw [hN]; decide) rfl ?_
        refine v_sub [1, 2, 3, 0] rfl ?_
        refine h (fun (x9_24 : Int32) (S25 : PS) => Rf S25 a 7 → VV X (0, 0) S25 [(0, .ref a), (1, .int p1), (8, .int v3), (9, .int x9_24)] [] 102) (fun x9_24 S25 h r_a => ?_) r_a
        refine v_iload F dX8_addEvent_102 3 rfl ?_
        refine v_iconst (v := 3) F dX8_addEvent_104 (by decide) ?_
        refine v_icmp_gt (tgt := 127) F dX8_addEvent_105 (by decide) h (fun h => ?_) (fun h => ?_)
        · refine v_aload_n F dX8_addEvent_127 0 rfl rfl ?_
          refine g_X8_45 F r_a h dX8_addEvent_128 (fun b26 r_b26 h => ?_)
          refine v_iload_n F dX8_addEvent_131 1 rfl rfl ?_
          refine v_iload F dX8_addEvent_132 2 rfl ?_
          refine v_iast F r_b26 o_37 h dX8_addEvent_134 (fun S27 h hE => ?_)
          have r_a := r_a.tr hE
          refine v_aload_n F dX8_addEvent_135 0 rfl rfl ?_
          refine g_X8_48 F r_a h dX8_addEvent_136 (fun b28 r_b28 h => ?_)
          refine v_iload_n F dX8_addEvent_139 1 rfl rfl ?_
          refine v_iconst (v := (-1)) F dX8_addEvent_140 (by decide) ?_
          refine v_iast F r_b28 o_38 h dX8_addEvent_141 (fun S29 h hE => ?_)
          have r_a := r_a.tr hE
          exact v_vret F hQ h (by decide) dX8_addEvent_142
        · refine v_aload_n F dX8_addEvent_108 0 rfl rfl ?_
          refine g_X8_36 F r_a h dX8_addEvent_109 (fun b30 r_b30 h => ?_)
          refine v_iload F dX8_addEvent_112 2 rfl ?_
          refine v_iload F dX8_addEvent_114 3 rfl ?_
          refine v_cI0 (v_runS F k_X8_95 (c_X8_slot h) rfl rfl (Nat.le_of_ble_eq_true rfl) (by decide) (by decide) dX8_addEvent_116) ⟨rfl, rfl⟩ (fun r32 S31 h hE => ?_)
          have r_a := r_a.tr hE
          have r_b30 := r_b30.tr hE
          refine v_iconst (v := (-1)) F dX8_addEvent_119 (by decide) ?_
          refine v_iast F r_b30 o_34 h dX8_addEvent_120 (fun S33 h hE => ?_)
          have r_a := r_a.tr hE
          obtain ⟨v34, e_v34⟩ : ∃ y : Int32, y = x9_24 + 1 := ⟨_, rfl⟩
          have h := h v34 e_v34
          refine v_iinc (v := v34) (lv1 := [(9, .int v34), (0, .ref a), (1, .int p1), (8, .int v3)]) F dX8_addEvent_121 (q := 3) rfl (by rw [e_v34]; rfl) (by rw [hN]; decide) rfl ?_
          refine v_goto (tgt := 102) F dX8_addEvent_124 (by decide) ?_
          exact v_sub [1, 2, 3, 0] rfl (h r_a))
      refine v_icmp_eq (tgt := 97) F dX8_addEvent_90 (by decide) h (fun h => ?_) (fun h => ?_)
      · refine v_iconst (v := 0) F dX8_addEvent_97 (by decide) ?_
        exact v_sub [1, 2, 0] rfl (h r_a r_b15)
      · refine v_iconst (v := 1) F dX8_addEvent_93 (by decide) ?_
        refine v_goto (tgt := 98) F dX8_addEvent_94 (by decide) ?_
        exact v_sub [1, 2, 0] rfl (h r_a r_b15)
    · exact v_vret F hQ h (by decide) dX8_addEvent_18
theorem dX8_addVoice_0 : decode cX8_addVoice 0 = .ok (.aload_n 0, 1) := by decide +kernel
theorem dX8_addVoice_1 : decode cX8_addVoice 1 = .ok (.getfield 58, 3) := by decide +kernel
theorem dX8_addVoice_4 : decode cX8_addVoice 4 = .ok (.istore_n 3, 1) := by decide +kernel
theorem dX8_addVoice_5 : decode cX8_addVoice 5 = .ok (.iload_n 3, 1) := by decide +kernel
theorem dX8_addVoice_6 : decode cX8_addVoice 6 = .ok (.bipush 12, 2) := by decide +kernel
theorem dX8_addVoice_8 : decode cX8_addVoice 8 = .ok (.if_icmp .ge 34, 3) := by decide +kernel
theorem dX8_addVoice_11 : decode cX8_addVoice 11 = .ok (.aload_n 0, 1) := by decide +kernel
theorem dX8_addVoice_12 : decode cX8_addVoice 12 = .ok (.dup, 1) := by decide +kernel
theorem dX8_addVoice_13 : decode cX8_addVoice 13 = .ok (.getfield 58, 3) := by decide +kernel
theorem dX8_addVoice_16 : decode cX8_addVoice 16 = .ok (.iconst 1, 1) := by decide +kernel
theorem dX8_addVoice_17 : decode cX8_addVoice 17 = .ok (.iadd, 1) := by decide +kernel
theorem dX8_addVoice_18 : decode cX8_addVoice 18 = .ok (.putfield 58, 3) := by decide +kernel
theorem dX8_addVoice_21 : decode cX8_addVoice 21 = .ok (.aload_n 0, 1) := by decide +kernel
theorem dX8_addVoice_22 : decode cX8_addVoice 22 = .ok (.getfield 42, 3) := by decide +kernel
theorem dX8_addVoice_25 : decode cX8_addVoice 25 = .ok (.iload_n 3, 1) := by decide +kernel
theorem dX8_addVoice_26 : decode cX8_addVoice 26 = .ok (.lload_n 1, 1) := by decide +kernel
theorem dX8_addVoice_27 : decode cX8_addVoice 27 = .ok (.lastore, 1) := by decide +kernel
theorem dX8_addVoice_28 : decode cX8_addVoice 28 = .ok (.aload_n 0, 1) := by decide +kernel
theorem dX8_addVoice_29 : decode cX8_addVoice 29 = .ok (.getfield 45, 3) := by decide +kernel
theorem dX8_addVoice_32 : decode cX8_addVoice 32 = .ok (.iload_n 3, 1) := by decide +kernel
theorem dX8_addVoice_33 : decode cX8_addVoice 33 = .ok (.iconst (-1), 1) := by decide +kernel
theorem dX8_addVoice_34 : decode cX8_addVoice 34 = .ok (.iastore, 1) := by decide +kernel
theorem dX8_addVoice_35 : decode cX8_addVoice 35 = .ok (.aload_n 0, 1) := by decide +kernel
theorem dX8_addVoice_36 : decode cX8_addVoice 36 = .ok (.getfield 48, 3) := by decide +kernel
theorem dX8_addVoice_39 : decode cX8_addVoice 39 = .ok (.iload_n 3, 1) := by decide +kernel
theorem dX8_addVoice_40 : decode cX8_addVoice 40 = .ok (.iconst (-1), 1) := by decide +kernel
theorem dX8_addVoice_41 : decode cX8_addVoice 41 = .ok (.iastore, 1) := by decide +kernel
theorem dX8_addVoice_42 : decode cX8_addVoice 42 = .ok (.iload_n 3, 1) := by decide +kernel
theorem dX8_addVoice_43 : decode cX8_addVoice 43 = .ok (.ireturn, 1) := by decide +kernel
abbrev rm_X8_addVoice : Room := { frames := 0, cells := 0, slots := 0, locals := 0 }
def wp_X8_addVoice (a : Nat) (p1 : Int64) (S : PS) (Q : Int32 → PS → Prop) : Prop :=
  (∀ v1, v1 = fI S 79 a → (if 12 ≤ v1 then
 Q v1 S
 else
 (∀ S2, S2 = sI S 79 a ((fI S 79 a) + 1) → (∃ b3, fR S2 80 a = some b3 ∧ (vp_in v1 (aN S2 b3) ∧ ∀ S4, S4 = wL S2 36 b3 (v1).toNatClampNeg p1 → (∃ b5, fR S4 81 a = some b5 ∧ (vp_in v1 (aN S4 b5) ∧ ∀ S6, S6 = wI S4 37 b5 (v1).toNatClampNeg (-1) → (∃ b7, fR S6 82 a = some b7 ∧ (vp_in v1 (aN S6 b7) ∧ ∀ S8, S8 = wI S6 38 b7 (v1).toNatClampNeg (-1) → Q v1 S8)))))))))
set_option maxRecDepth 100000 in
set_option maxHeartbeats 4000000 in
theorem c_X8_addVoice {l : Launch} {E : EE} {A : Nat → Prop} {a : Nat} {p1 : Int64} {S : PS} {Q : Int32 → PS → Prop} (r_a : Rf S a 7) (h : wp_X8_addVoice a p1 S Q) : MtI l yX8_addVoice (.code yX8_addVoice cX8_addVoice 4 (some .int)) rm_X8_addVoice E A [.ref a, .long p1] S Q := by
  refine MtI.of (by decide) (Nat.le_of_ble_eq_true rfl) (fun X F hQ hN => ?_)
  show VV X (0, 0) S [(0, .ref a), (1, .long p1)] [] 0
  unfold wp_X8_addVoice at h
  refine v_aload_n F dX8_addVoice_0 0 rfl rfl ?_
  refine g_X8_58 F r_a dX8_addVoice_1 ?_
  refine v_topi (fun v1 e_v1 => ?_)
  have h := h v1 e_v1
  refine v_istore_n (lv1 := [(3, .int v1), (0, .ref a), (1, .long p1)]) F dX8_addVoice_4 rfl (by rw [hN]; decide) rfl ?_
  refine v_iload_n F dX8_addVoice_5 0 rfl rfl ?_
  refine v_bipush (v := 12) F dX8_addVoice_6 (by decide) ?_
  refine v_icmp_ge (tgt := 42) F dX8_addVoice_8 (by decide) h (fun h => ?_) (fun h => ?_)
  · refine v_iload_n F dX8_addVoice_42 0 rfl rfl ?_
    exact v_iret F hQ h (by decide) dX8_addVoice_43
  · refine v_aload_n F dX8_addVoice_11 1 rfl rfl ?_
    refine v_dup F dX8_addVoice_12 rfl ?_
    refine g_X8_58 F r_a dX8_addVoice_13 ?_
    refine v_iconst (v := 1) F dX8_addVoice_16 (by decide) ?_
    refine v_iadd F dX8_addVoice_17 ?_
    refine p_X8_58 F r_a h dX8_addVoice_18 (fun S2 h hE => ?_)
    have r_a := r_a.tr hE
    refine v_aload_n F dX8_addVoice_21 1 rfl rfl ?_
    refine g_X8_42 F r_a h dX8_addVoice_22 (fun b3 r_b3 h => ?_)
    refine v_iload_n F dX8_addVoice_25 0 rfl rfl ?_
    refine v_lload_n F dX8_addVoice_26 2 rfl rfl ?_
    refine v_last F r_b3 o_36 h dX8_addVoice_27 (fun S4 h hE => ?_)
    have r_a := r_a.tr hE
    refine v_aload_n F dX8_addVoice_28 1 rfl rfl ?_
    refine g_X8_45 F r_a h dX8_addVoice_29 (fun b5 r_b5 h => ?_)
    refine v_iload_n F dX8_addVoice_32 0 rfl rfl ?_
    refine v_iconst (v := (-1)) F dX8_addVoice_33 (by decide) ?_
    refine v_iast F r_b5 o_37 h dX8_addVoice_34 (fun S6 h hE => ?_)
    have r_a := r_a.tr hE
    refine v_aload_n F dX8_addVoice_35 1 rfl rfl ?_
    refine g_X8_48 F r_a h dX8_addVoice_36 (fun b7 r_b7 h => ?_)
    refine v_iload_n F dX8_addVoice_39 0 rfl rfl ?_
    refine v_iconst (v := (-1)) F dX8_addVoice_40 (by decide) ?_
    refine v_iast F r_b7 o_38 h dX8_addVoice_41 (fun S8 h hE => ?_)
    have r_a := r_a.tr hE
    refine v_iload_n F dX8_addVoice_42 0 rfl rfl ?_
    exact v_iret F hQ h (by decide) dX8_addVoice_43
theorem dX8_maySing_0 : decode cX8_maySing 0 = .ok (.aload_n 0, 1) := by decide +kernel
theorem dX8_maySing_1 : decode cX8_maySing 1 = .ok (.iload_n 1, 1) := by decide +kernel
theorem dX8_maySing_2 : decode cX8_maySing 2 = .ok (.invokevirtual 92, 3) := by decide +kernel
theorem dX8_maySing_5 : decode cX8_maySing 5 = .ok (.ifCond .eq 37, 3) := by decide +kernel
theorem dX8_maySing_8 : decode cX8_maySing 8 = .ok (.aload_n 0, 1) := by decide +kernel
theorem dX8_maySing_9 : decode cX8_maySing 9 = .ok (.getfield 15, 3) := by decide +kernel
theorem dX8_maySing_12 : decode cX8_maySing 12 = .ok (.iload_n 1, 1) := by decide +kernel
theorem dX8_maySing_13 : decode cX8_maySing 13 = .ok (.iaload, 1) := by decide +kernel
theorem dX8_maySing_14 : decode cX8_maySing 14 = .ok (.iload_n 2, 1) := by decide +kernel
theorem dX8_maySing_15 : decode cX8_maySing 15 = .ok (.if_icmp .ne 27, 3) := by decide +kernel
theorem dX8_maySing_18 : decode cX8_maySing 18 = .ok (.aload_n 0, 1) := by decide +kernel
theorem dX8_maySing_19 : decode cX8_maySing 19 = .ok (.getfield 26, 3) := by decide +kernel
theorem dX8_maySing_22 : decode cX8_maySing 22 = .ok (.iload_n 1, 1) := by decide +kernel
theorem dX8_maySing_23 : decode cX8_maySing 23 = .ok (.laload, 1) := by decide +kernel
theorem dX8_maySing_24 : decode cX8_maySing 24 = .ok (.lconst 0, 1) := by decide +kernel
theorem dX8_maySing_25 : decode cX8_maySing 25 = .ok (.lcmp, 1) := by decide +kernel
theorem dX8_maySing_26 : decode cX8_maySing 26 = .ok (.ifCond .eq 16, 3) := by decide +kernel
theorem dX8_maySing_29 : decode cX8_maySing 29 = .ok (.aload_n 0, 1) := by decide +kernel
theorem dX8_maySing_30 : decode cX8_maySing 30 = .ok (.getfield 33, 3) := by decide +kernel
theorem dX8_maySing_33 : decode cX8_maySing 33 = .ok (.iload_n 1, 1) := by decide +kernel
theorem dX8_maySing_34 : decode cX8_maySing 34 = .ok (.baload, 1) := by decide +kernel
theorem dX8_maySing_35 : decode cX8_maySing 35 = .ok (.ifCond .ne 7, 3) := by decide +kernel
theorem dX8_maySing_38 : decode cX8_maySing 38 = .ok (.iconst 1, 1) := by decide +kernel
theorem dX8_maySing_39 : decode cX8_maySing 39 = .ok (.goto 4, 3) := by decide +kernel
theorem dX8_maySing_42 : decode cX8_maySing 42 = .ok (.iconst 0, 1) := by decide +kernel
theorem dX8_maySing_43 : decode cX8_maySing 43 = .ok (.ireturn, 1) := by decide +kernel
abbrev rm_X8_maySing : Room := { frames := 1, cells := 0, slots := 0, locals := 21 }
def wp_X8_maySing (a : Nat) (p1 : Int32) (p2 : Int32) (S : PS) (Q : Int32 → PS → Prop) : Prop :=
  wp_X8_holds a p1 S (fun (r2 : Int32) (S1 : PS) => 
 (if r2 = 0 then
 Q 0 S1
 else
 (∃ b3, fR S1 71 a = some b3 ∧ (vp_in p1 (aN S1 b3) ∧ (if aI S1 28 b3 (p1).toNatClampNeg = p2 then
 (∃ b4, fR S1 74 a = some b4 ∧ (vp_in p1 (aN S1 b4) ∧ (if aL S1 31 b4 (p1).toNatClampNeg = 0 then
 Q 0 S1
 else
 (∃ b5, fR S1 76 a = some b5 ∧ (vp_in p1 (aN S1 b5) ∧ (if aI S1 33 b5 (p1).toNatClampNeg = 0 then
 Q 1 S1
 else
 Q 0 S1))))))
 else
 Q 0 S1)))))
set_option maxRecDepth 100000 in
set_option maxHeartbeats 4000000 in
theorem c_X8_maySing {l : Launch} {E : EE} {A : Nat → Prop} {a : Nat} {p1 : Int32} {p2 : Int32} {S : PS} {Q : Int32 → PS → Prop} (r_a : Rf S a 7) (h : wp_X8_maySing a p1 p2 S Q) : MtI l yX8_maySing (.code yX8_maySing cX8_maySing 3 (some .boolean)) rm_X8_maySing E A [.ref a, .int p1, .int p2] S (fun r S1 => nz r ∧ Q r S1) := by
  refine MtI.of (by decide) (Nat.le_of_ble_eq_true rfl) (fun X F hQ hN => ?_)
  show VV X (0, 0) S [(0, .ref a), (1, .int p1), (2, .int p2)] [] 0
  unfold wp_X8_maySing at h
  refine v_aload_n F dX8_maySing_0 0 rfl rfl ?_
  refine v_iload_n F dX8_maySing_1 1 rfl rfl ?_
  refine v_cI0 (v_runV F k_X8_92 rfl (c_X8_holds r_a h) r_a rfl rfl (Nat.le_of_ble_eq_true rfl) (by decide) (by decide) dX8_maySing_2) ⟨rfl, rfl⟩ (fun r2 S1 h hE => ?_)
  obtain ⟨nz_r2, h⟩ := h
  have r_a := r_a.tr hE
  refine v_if_eq (tgt := 42) F dX8_maySing_5 (by decide) h (fun h => ?_) (fun h => ?_)
  · refine v_iconst (v := 0) F dX8_maySing_42 (by decide) ?_
    exact v_zret F hQ (by decide) ⟨nz0, h⟩ (by decide) dX8_maySing_43
  · refine v_aload_n F dX8_maySing_8 0 rfl rfl ?_
    refine g_X8_15 F r_a h dX8_maySing_9 (fun b3 r_b3 h => ?_)
    refine v_iload_n F dX8_maySing_12 1 rfl rfl ?_
    refine v_iald F r_b3 o_28 h dX8_maySing_13 (fun h => ?_)
    refine v_iload_n F dX8_maySing_14 2 rfl rfl ?_
    refine v_icmp_ne (tgt := 42) F dX8_maySing_15 (by decide) h (fun h => ?_) (fun h => ?_)
    · refine v_iconst (v := 0) F dX8_maySing_42 (by decide) ?_
      exact v_zret F hQ (by decide) ⟨nz0, h⟩ (by decide) dX8_maySing_43
    · refine v_aload_n F dX8_maySing_18 0 rfl rfl ?_
      refine g_X8_26 F r_a h dX8_maySing_19 (fun b4 r_b4 h => ?_)
      refine v_iload_n F dX8_maySing_22 1 rfl rfl ?_
      refine v_lald F r_b4 o_31 h dX8_maySing_23 (fun h => ?_)
      refine v_lconst (v := 0) F dX8_maySing_24 (by decide) ?_
      refine v_lcmp_eq (tgt := 42) F dX8_maySing_25 dX8_maySing_26 (by decide) h (fun h => ?_) (fun h => ?_)
      · refine v_iconst (v := 0) F dX8_maySing_42 (by decide) ?_
        exact v_zret F hQ (by decide) ⟨nz0, h⟩ (by decide) dX8_maySing_43
      · refine v_aload_n F dX8_maySing_29 0 rfl rfl ?_
        refine g_X8_33 F r_a h dX8_maySing_30 (fun b5 r_b5 h => ?_)
        refine v_iload_n F dX8_maySing_33 1 rfl rfl ?_
        refine v_zald F r_b5 o_33 h dX8_maySing_34 (fun h => ?_)
        refine v_if_ne (tgt := 42) F dX8_maySing_35 (by decide) h (fun h => ?_) (fun h => ?_)
        · refine v_iconst (v := 0) F dX8_maySing_42 (by decide) ?_
          exact v_zret F hQ (by decide) ⟨nz0, h⟩ (by decide) dX8_maySing_43
        · refine v_iconst (v := 1) F dX8_maySing_38 (by decide) ?_
          refine v_goto (tgt := 43) F dX8_maySing_39 (by decide) ?_
          exact v_zret F hQ (by decide) ⟨nz1, h⟩ (by decide) dX8_maySing_43
theorem dX8_syllableOf_0 : decode cX8_syllableOf 0 = .ok (.aload_n 0, 1) := by decide +kernel
theorem dX8_syllableOf_1 : decode cX8_syllableOf 1 = .ok (.iload_n 1, 1) := by decide +kernel
theorem dX8_syllableOf_2 : decode cX8_syllableOf 2 = .ok (.invokevirtual 92, 3) := by decide +kernel
theorem dX8_syllableOf_5 : decode cX8_syllableOf 5 = .ok (.ifCond .eq 17, 3) := by decide +kernel
theorem dX8_syllableOf_8 : decode cX8_syllableOf 8 = .ok (.iload_n 2, 1) := by decide +kernel
theorem dX8_syllableOf_9 : decode cX8_syllableOf 9 = .ok (.iconst 1, 1) := by decide +kernel
theorem dX8_syllableOf_10 : decode cX8_syllableOf 10 = .ok (.if_icmp .lt 12, 3) := by decide +kernel
theorem dX8_syllableOf_13 : decode cX8_syllableOf 13 = .ok (.iload_n 2, 1) := by decide +kernel
theorem dX8_syllableOf_14 : decode cX8_syllableOf 14 = .ok (.iconst 3, 1) := by decide +kernel
theorem dX8_syllableOf_15 : decode cX8_syllableOf 15 = .ok (.if_icmp .gt 7, 3) := by decide +kernel
theorem dX8_syllableOf_18 : decode cX8_syllableOf 18 = .ok (.iconst 1, 1) := by decide +kernel
theorem dX8_syllableOf_19 : decode cX8_syllableOf 19 = .ok (.goto 4, 3) := by decide +kernel
theorem dX8_syllableOf_22 : decode cX8_syllableOf 22 = .ok (.iconst 0, 1) := by decide +kernel
theorem dX8_syllableOf_23 : decode cX8_syllableOf 23 = .ok (.istore_n 3, 1) := by decide +kernel
theorem dX8_syllableOf_24 : decode cX8_syllableOf 24 = .ok (.iload_n 3, 1) := by decide +kernel
theorem dX8_syllableOf_25 : decode cX8_syllableOf 25 = .ok (.ifCond .eq 16, 3) := by decide +kernel
theorem dX8_syllableOf_28 : decode cX8_syllableOf 28 = .ok (.aload_n 0, 1) := by decide +kernel
theorem dX8_syllableOf_29 : decode cX8_syllableOf 29 = .ok (.getfield 36, 3) := by decide +kernel
theorem dX8_syllableOf_32 : decode cX8_syllableOf 32 = .ok (.iload_n 1, 1) := by decide +kernel
theorem dX8_syllableOf_33 : decode cX8_syllableOf 33 = .ok (.iload_n 2, 1) := by decide +kernel
theorem dX8_syllableOf_34 : decode cX8_syllableOf 34 = .ok (.invokestatic 95, 3) := by decide +kernel
theorem dX8_syllableOf_37 : decode cX8_syllableOf 37 = .ok (.iaload, 1) := by decide +kernel
theorem dX8_syllableOf_38 : decode cX8_syllableOf 38 = .ok (.goto 4, 3) := by decide +kernel
theorem dX8_syllableOf_41 : decode cX8_syllableOf 41 = .ok (.iconst (-1), 1) := by decide +kernel
theorem dX8_syllableOf_42 : decode cX8_syllableOf 42 = .ok (.ireturn, 1) := by decide +kernel
abbrev rm_X8_syllableOf : Room := { frames := 1, cells := 0, slots := 0, locals := 21 }
def wp_X8_syllableOf (a : Nat) (p1 : Int32) (p2 : Int32) (S : PS) (Q : Int32 → PS → Prop) : Prop :=
  wp_X8_holds a p1 S (fun (r2 : Int32) (S1 : PS) => 
 (∀ K23_5 : Int32 → PS → Prop, (∀ (t3 : Int32) (S4 : PS),
 (if t3 = 0 then
 Q (-1) S4
 else
 (∃ b6, fR S4 77 a = some b6 ∧ wp_X8_slot p1 p2 S4 (fun (r8 : Int32) (S7 : PS) => 
 (vp_in r8 (aN S7 b6) ∧ Q (aI S7 34 b6 (r8).toNatClampNeg) S7))))
 → K23_5 t3 S4) →
 (if r2 = 0 then
 K23_5 0 S1
 else
 (if p2 < 1 then
 K23_5 0 S1
 else
 (if 3 < p2 then
 K23_5 0 S1
 else
 K23_5 1 S1)))))
set_option maxRecDepth 100000 in
set_option maxHeartbeats 4000000 in
theorem c_X8_syllableOf {l : Launch} {E : EE} {A : Nat → Prop} {a : Nat} {p1 : Int32} {p2 : Int32} {S : PS} {Q : Int32 → PS → Prop} (r_a : Rf S a 7) (h : wp_X8_syllableOf a p1 p2 S Q) : MtI l yX8_syllableOf (.code yX8_syllableOf cX8_syllableOf 4 (some .int)) rm_X8_syllableOf E A [.ref a, .int p1, .int p2] S Q := by
  refine MtI.of (by decide) (Nat.le_of_ble_eq_true rfl) (fun X F hQ hN => ?_)
  show VV X (0, 0) S [(0, .ref a), (1, .int p1), (2, .int p2)] [] 0
  unfold wp_X8_syllableOf at h
  refine v_aload_n F dX8_syllableOf_0 0 rfl rfl ?_
  refine v_iload_n F dX8_syllableOf_1 1 rfl rfl ?_
  refine v_cI0 (v_runV F k_X8_92 rfl (c_X8_holds r_a h) r_a rfl rfl (Nat.le_of_ble_eq_true rfl) (by decide) (by decide) dX8_syllableOf_2) ⟨rfl, rfl⟩ (fun r2 S1 h hE => ?_)
  obtain ⟨nz_r2, h⟩ := h
  have r_a := r_a.tr hE
  have h := h (fun (t3 : Int32) (S4 : PS) => Rf S4 a 7 → VV X (0, 0) S4 [(0, .ref a), (1, .int p1), (2, .int p2)] [.int t3] 23) (by
    intro t3 S4 h r_a
    refine v_istore_n (lv1 := [(3, .int t3), (0, .ref a), (1, .int p1), (2, .int p2)]) F dX8_syllableOf_23 rfl (by rw [hN]; decide) rfl ?_
    refine v_iload_n F dX8_syllableOf_24 0 rfl rfl ?_
    refine v_if_eq (tgt := 41) F dX8_syllableOf_25 (by decide) h (fun h => ?_) (fun h => ?_)
    · refine v_iconst (v := (-1)) F dX8_syllableOf_41 (by decide) ?_
      exact v_iret F hQ h (by decide) dX8_syllableOf_42
    · refine v_aload_n F dX8_syllableOf_28 1 rfl rfl ?_
      refine g_X8_36 F r_a h dX8_syllableOf_29 (fun b6 r_b6 h => ?_)
      refine v_iload_n F dX8_syllableOf_32 2 rfl rfl ?_
      refine v_iload_n F dX8_syllableOf_33 3 rfl rfl ?_
      refine v_cI0 (v_runS F k_X8_95 (c_X8_slot h) rfl rfl (Nat.le_of_ble_eq_true rfl) (by decide) (by decide) dX8_syllableOf_34) ⟨rfl, rfl⟩ (fun r8 S7 h hE => ?_)
      have r_a := r_a.tr hE
      have r_b6 := r_b6.tr hE
      refine v_iald F r_b6 o_34 h dX8_syllableOf_37 (fun h => ?_)
      refine v_goto (tgt := 42) F dX8_syllableOf_38 (by decide) ?_
      exact v_iret F hQ h (by decide) dX8_syllableOf_42)
  refine v_if_eq (tgt := 22) F dX8_syllableOf_5 (by decide) h (fun h => ?_) (fun h => ?_)
  · refine v_iconst (v := 0) F dX8_syllableOf_22 (by decide) ?_
    exact v_sub [0, 1, 2] rfl (h r_a)
  · refine v_iload_n F dX8_syllableOf_8 2 rfl rfl ?_
    refine v_iconst (v := 1) F dX8_syllableOf_9 (by decide) ?_
    refine v_icmp_lt (tgt := 22) F dX8_syllableOf_10 (by decide) h (fun h => ?_) (fun h => ?_)
    · refine v_iconst (v := 0) F dX8_syllableOf_22 (by decide) ?_
      exact v_sub [0, 1, 2] rfl (h r_a)
    · refine v_iload_n F dX8_syllableOf_13 2 rfl rfl ?_
      refine v_iconst (v := 3) F dX8_syllableOf_14 (by decide) ?_
      refine v_icmp_gt (tgt := 22) F dX8_syllableOf_15 (by decide) h (fun h => ?_) (fun h => ?_)
      · refine v_iconst (v := 0) F dX8_syllableOf_22 (by decide) ?_
        exact v_sub [0, 1, 2] rfl (h r_a)
      · refine v_iconst (v := 1) F dX8_syllableOf_18 (by decide) ?_
        refine v_goto (tgt := 23) F dX8_syllableOf_19 (by decide) ?_
        exact v_sub [0, 1, 2] rfl (h r_a)
theorem dX8_addSyllable_0 : decode cX8_addSyllable 0 = .ok (.iload_n 2, 1) := by decide +kernel
theorem dX8_addSyllable_1 : decode cX8_addSyllable 1 = .ok (.iconst 1, 1) := by decide +kernel
theorem dX8_addSyllable_2 : decode cX8_addSyllable 2 = .ok (.if_icmp .lt 8, 3) := by decide +kernel
theorem dX8_addSyllable_5 : decode cX8_addSyllable 5 = .ok (.iload_n 2, 1) := by decide +kernel
theorem dX8_addSyllable_6 : decode cX8_addSyllable 6 = .ok (.iconst 3, 1) := by decide +kernel
theorem dX8_addSyllable_7 : decode cX8_addSyllable 7 = .ok (.if_icmp .le 5, 3) := by decide +kernel
theorem dX8_addSyllable_10 : decode cX8_addSyllable 10 = .ok (.iconst 0, 1) := by decide +kernel
theorem dX8_addSyllable_11 : decode cX8_addSyllable 11 = .ok (.ireturn, 1) := by decide +kernel
theorem dX8_addSyllable_12 : decode cX8_addSyllable 12 = .ok (.iconst 0, 1) := by decide +kernel
theorem dX8_addSyllable_13 : decode cX8_addSyllable 13 = .ok (.istore 4, 2) := by decide +kernel
theorem dX8_addSyllable_15 : decode cX8_addSyllable 15 = .ok (.iload 4, 2) := by decide +kernel
theorem dX8_addSyllable_17 : decode cX8_addSyllable 17 = .ok (.aload_n 0, 1) := by decide +kernel
theorem dX8_addSyllable_18 : decode cX8_addSyllable 18 = .ok (.getfield 68, 3) := by decide +kernel
theorem dX8_addSyllable_21 : decode cX8_addSyllable 21 = .ok (.if_icmp .ge 44, 3) := by decide +kernel
theorem dX8_addSyllable_24 : decode cX8_addSyllable 24 = .ok (.aload_n 0, 1) := by decide +kernel
theorem dX8_addSyllable_25 : decode cX8_addSyllable 25 = .ok (.iload 4, 2) := by decide +kernel
theorem dX8_addSyllable_27 : decode cX8_addSyllable 27 = .ok (.iload_n 1, 1) := by decide +kernel
theorem dX8_addSyllable_28 : decode cX8_addSyllable 28 = .ok (.invokevirtual 99, 3) := by decide +kernel
theorem dX8_addSyllable_31 : decode cX8_addSyllable 31 = .ok (.ifCond .eq 28, 3) := by decide +kernel
theorem dX8_addSyllable_34 : decode cX8_addSyllable 34 = .ok (.aload_n 0, 1) := by decide +kernel
theorem dX8_addSyllable_35 : decode cX8_addSyllable 35 = .ok (.iload 4, 2) := by decide +kernel
theorem dX8_addSyllable_37 : decode cX8_addSyllable 37 = .ok (.iload_n 2, 1) := by decide +kernel
theorem dX8_addSyllable_38 : decode cX8_addSyllable 38 = .ok (.invokevirtual 103, 3) := by decide +kernel
theorem dX8_addSyllable_41 : decode cX8_addSyllable 41 = .ok (.iconst (-1), 1) := by decide +kernel
theorem dX8_addSyllable_42 : decode cX8_addSyllable 42 = .ok (.if_icmp .ne 17, 3) := by decide +kernel
theorem dX8_addSyllable_45 : decode cX8_addSyllable 45 = .ok (.aload_n 0, 1) := by decide +kernel
theorem dX8_addSyllable_46 : decode cX8_addSyllable 46 = .ok (.getfield 36, 3) := by decide +kernel
theorem dX8_addSyllable_49 : decode cX8_addSyllable 49 = .ok (.iload 4, 2) := by decide +kernel
theorem dX8_addSyllable_51 : decode cX8_addSyllable 51 = .ok (.iload_n 2, 1) := by decide +kernel
theorem dX8_addSyllable_52 : decode cX8_addSyllable 52 = .ok (.invokestatic 95, 3) := by decide +kernel
theorem dX8_addSyllable_55 : decode cX8_addSyllable 55 = .ok (.iload_n 3, 1) := by decide +kernel
theorem dX8_addSyllable_56 : decode cX8_addSyllable 56 = .ok (.iastore, 1) := by decide +kernel
theorem dX8_addSyllable_57 : decode cX8_addSyllable 57 = .ok (.iconst 1, 1) := by decide +kernel
theorem dX8_addSyllable_58 : decode cX8_addSyllable 58 = .ok (.ireturn, 1) := by decide +kernel
theorem dX8_addSyllable_59 : decode cX8_addSyllable 59 = .ok (.iinc 4 1, 3) := by decide +kernel
theorem dX8_addSyllable_62 : decode cX8_addSyllable 62 = .ok (.goto (-47), 3) := by decide +kernel
theorem dX8_addSyllable_65 : decode cX8_addSyllable 65 = .ok (.iconst 0, 1) := by decide +kernel
theorem dX8_addSyllable_66 : decode cX8_addSyllable 66 = .ok (.ireturn, 1) := by decide +kernel
abbrev rm_X8_addSyllable : Room := { frames := 2, cells := 0, slots := 0, locals := 44 }
def wp_X8_addSyllable (a : Nat) (p1 : Int32) (p2 : Int32) (p3 : Int32) (S : PS) (Q : Int32 → PS → Prop) : Prop :=
  (if p2 < 1 then
 Q 0 S
 else
 (if p2 ≤ 3 then
 (∀ P15_1 : Int32 → PS → Prop, (∀ (x4_2 : Int32) (S3 : PS),
 (if fI S3 70 a ≤ x4_2 then
 Q 0 S3
 else
 wp_X8_maySing a x4_2 p1 S3 (fun (r5 : Int32) (S4 : PS) => 
 (∀ K59_7 : PS → Prop, (∀ (S6 : PS),
 (∀ v8, v8 = x4_2 + 1 → P15_1 v8 S6)
 → K59_7 S6) →
 (if r5 = 0 then
 K59_7 S4
 else
 wp_X8_syllableOf a x4_2 p2 S4 (fun (r10 : Int32) (S9 : PS) => 
 (if r10 = (-1) then
 (∃ b11, fR S9 77 a = some b11 ∧ wp_X8_slot x4_2 p2 S9 (fun (r13 : Int32) (S12 : PS) => 
 (vp_in r13 (aN S12 b11) ∧ ∀ S14, S14 = wI S12 34 b11 (r13).toNatClampNeg p3 → Q 1 S14)))
 else
 K59_7 S9))))))
 → P15_1 x4_2 S3) → P15_1 0 S)
 else
 Q 0 S))
set_option maxRecDepth 100000 in
set_option maxHeartbeats 4000000 in
theorem c_X8_addSyllable {l : Launch} {E : EE} {A : Nat → Prop} {a : Nat} {p1 : Int32} {p2 : Int32} {p3 : Int32} {S : PS} {Q : Int32 → PS → Prop} (r_a : Rf S a 7) (h : wp_X8_addSyllable a p1 p2 p3 S Q) : MtI l yX8_addSyllable (.code yX8_addSyllable cX8_addSyllable 5 (some .boolean)) rm_X8_addSyllable E A [.ref a, .int p1, .int p2, .int p3] S (fun r S1 => nz r ∧ Q r S1) := by
  refine MtI.of (by decide) (Nat.le_of_ble_eq_true rfl) (fun X F hQ hN => ?_)
  show VV X (0, 0) S [(0, .ref a), (1, .int p1), (2, .int p2), (3, .int p3)] [] 0
  unfold wp_X8_addSyllable at h
  refine v_iload_n F dX8_addSyllable_0 2 rfl rfl ?_
  refine v_iconst (v := 1) F dX8_addSyllable_1 (by decide) ?_
  refine v_icmp_lt (tgt := 10) F dX8_addSyllable_2 (by decide) h (fun h => ?_) (fun h => ?_)
  · refine v_iconst (v := 0) F dX8_addSyllable_10 (by decide) ?_
    exact v_zret F hQ (by decide) ⟨nz0, h⟩ (by decide) dX8_addSyllable_11
  · refine v_iload_n F dX8_addSyllable_5 2 rfl rfl ?_
    refine v_iconst (v := 3) F dX8_addSyllable_6 (by decide) ?_
    refine v_icmp_le (tgt := 12) F dX8_addSyllable_7 (by decide) h (fun h => ?_) (fun h => ?_)
    · refine v_iconst (v := 0) F dX8_addSyllable_12 (by decide) ?_
      refine v_istore (lv1 := [(4, .int 0), (0, .ref a), (1, .int p1), (2, .int p2), (3, .int p3)]) F dX8_addSyllable_13 (by rw [hN]; decide) rfl ?_
      refine v_sub [1, 2, 3, 4, 0] rfl ?_
      refine h (fun (x4_2 : Int32) (S3 : PS) => Rf S3 a 7 → VV X (0, 0) S3 [(0, .ref a), (1, .int p1), (2, .int p2), (3, .int p3), (4, .int x4_2)] [] 15) (fun x4_2 S3 h r_a => ?_) r_a
      refine v_iload F dX8_addSyllable_15 4 rfl ?_
      refine v_aload_n F dX8_addSyllable_17 0 rfl rfl ?_
      refine g_X8_68 F r_a dX8_addSyllable_18 ?_
      refine v_icmp_ge (tgt := 65) F dX8_addSyllable_21 (by decide) h (fun h => ?_) (fun h => ?_)
      · refine v_iconst (v := 0) F dX8_addSyllable_65 (by decide) ?_
        exact v_zret F hQ (by decide) ⟨nz0, h⟩ (by decide) dX8_addSyllable_66
      · refine v_aload_n F dX8_addSyllable_24 0 rfl rfl ?_
        refine v_iload F dX8_addSyllable_25 4 rfl ?_
        refine v_iload_n F dX8_addSyllable_27 1 rfl rfl ?_
        refine v_cI0 (v_runV F k_X8_99 rfl (c_X8_maySing r_a h) r_a rfl rfl (Nat.le_of_ble_eq_true rfl) (by decide) (by decide) dX8_addSyllable_28) ⟨rfl, rfl⟩ (fun r5 S4 h hE => ?_)
        obtain ⟨nz_r5, h⟩ := h
        have r_a := r_a.tr hE
        have h := h (fun (S6 : PS) => Rf S6 a 7 → VV X (0, 0) S6 [(0, .ref a), (1, .int p1), (2, .int p2), (3, .int p3), (4, .int x4_2)] [] 59) (by
          intro S6 h r_a
          obtain ⟨v8, e_v8⟩ : ∃ y : Int32, y = x4_2 + 1 := ⟨_, rfl⟩
          have h := h v8 e_v8
          refine v_iinc (v := v8) (lv1 := [(4, .int v8), (0, .ref a), (1, .int p1), (2, .int p2), (3, .int p3)]) F dX8_addSyllable_59 (q := 4) rfl (by rw [e_v8]; rfl) (by rw [hN]; decide) rfl ?_
          refine v_goto (tgt := 15) F dX8_addSyllable_62 (by decide) ?_
          exact v_sub [1, 2, 3, 4, 0] rfl (h r_a))
        refine v_if_eq (tgt := 59) F dX8_addSyllable_31 (by decide) h (fun h => ?_) (fun h => ?_)
        · exact v_sub [0, 1, 2, 3, 4] rfl (h r_a)
        · refine v_aload_n F dX8_addSyllable_34 0 rfl rfl ?_
          refine v_iload F dX8_addSyllable_35 4 rfl ?_
          refine v_iload_n F dX8_addSyllable_37 2 rfl rfl ?_
          refine v_cI0 (v_runV F k_X8_103 rfl (c_X8_syllableOf r_a h) r_a rfl rfl (Nat.le_of_ble_eq_true rfl) (by decide) (by decide) dX8_addSyllable_38) ⟨rfl, rfl⟩ (fun r10 S9 h hE => ?_)
          have r_a := r_a.tr hE
          refine v_iconst (v := (-1)) F dX8_addSyllable_41 (by decide) ?_
          refine v_icmp_ne (tgt := 59) F dX8_addSyllable_42 (by decide) h (fun h => ?_) (fun h => ?_)
          · exact v_sub [0, 1, 2, 3, 4] rfl (h r_a)
          · refine v_aload_n F dX8_addSyllable_45 0 rfl rfl ?_
            refine g_X8_36 F r_a h dX8_addSyllable_46 (fun b11 r_b11 h => ?_)
            refine v_iload F dX8_addSyllable_49 4 rfl ?_
            refine v_iload_n F dX8_addSyllable_51 2 rfl rfl ?_
            refine v_cI0 (v_runS F k_X8_95 (c_X8_slot h) rfl rfl (Nat.le_of_ble_eq_true rfl) (by decide) (by decide) dX8_addSyllable_52) ⟨rfl, rfl⟩ (fun r13 S12 h hE => ?_)
            have r_a := r_a.tr hE
            have r_b11 := r_b11.tr hE
            refine v_iload_n F dX8_addSyllable_55 3 rfl rfl ?_
            refine v_iast F r_b11 o_34 h dX8_addSyllable_56 (fun S14 h hE => ?_)
            have r_a := r_a.tr hE
            refine v_iconst (v := 1) F dX8_addSyllable_57 (by decide) ?_
            exact v_zret F hQ (by decide) ⟨nz1, h⟩ (by decide) dX8_addSyllable_58
    · refine v_iconst (v := 0) F dX8_addSyllable_10 (by decide) ?_
      exact v_zret F hQ (by decide) ⟨nz0, h⟩ (by decide) dX8_addSyllable_11
theorem dX8_beginOfVoice_0 : decode cX8_beginOfVoice 0 = .ok (.aload_n 0, 1) := by decide +kernel
theorem dX8_beginOfVoice_1 : decode cX8_beginOfVoice 1 = .ok (.iload_n 1, 1) := by decide +kernel
theorem dX8_beginOfVoice_2 : decode cX8_beginOfVoice 2 = .ok (.invokevirtual 88, 3) := by decide +kernel
theorem dX8_beginOfVoice_5 : decode cX8_beginOfVoice 5 = .ok (.ifCond .eq 12, 3) := by decide +kernel
theorem dX8_beginOfVoice_8 : decode cX8_beginOfVoice 8 = .ok (.aload_n 0, 1) := by decide +kernel
theorem dX8_beginOfVoice_9 : decode cX8_beginOfVoice 9 = .ok (.getfield 42, 3) := by decide +kernel
theorem dX8_beginOfVoice_12 : decode cX8_beginOfVoice 12 = .ok (.iload_n 1, 1) := by decide +kernel
theorem dX8_beginOfVoice_13 : decode cX8_beginOfVoice 13 = .ok (.laload, 1) := by decide +kernel
theorem dX8_beginOfVoice_14 : decode cX8_beginOfVoice 14 = .ok (.goto 4, 3) := by decide +kernel
theorem dX8_beginOfVoice_17 : decode cX8_beginOfVoice 17 = .ok (.lconst 0, 1) := by decide +kernel
theorem dX8_beginOfVoice_18 : decode cX8_beginOfVoice 18 = .ok (.lreturn, 1) := by decide +kernel
abbrev rm_X8_beginOfVoice : Room := { frames := 1, cells := 0, slots := 0, locals := 21 }
def wp_X8_beginOfVoice (a : Nat) (p1 : Int32) (S : PS) (Q : Int64 → PS → Prop) : Prop :=
  wp_X8_hasVoice a p1 S (fun (r2 : Int32) (S1 : PS) => 
 (if r2 = 0 then
 Q 0 S1
 else
 (∃ b3, fR S1 80 a = some b3 ∧ (vp_in p1 (aN S1 b3) ∧ Q (aL S1 36 b3 (p1).toNatClampNeg) S1))))
set_option maxRecDepth 100000 in
set_option maxHeartbeats 4000000 in
theorem c_X8_beginOfVoice {l : Launch} {E : EE} {A : Nat → Prop} {a : Nat} {p1 : Int32} {S : PS} {Q : Int64 → PS → Prop} (r_a : Rf S a 7) (h : wp_X8_beginOfVoice a p1 S Q) : MtL l yX8_beginOfVoice (.code yX8_beginOfVoice cX8_beginOfVoice 2 (some .long)) rm_X8_beginOfVoice E A [.ref a, .int p1] S Q := by
  refine MtL.of (by decide) (Nat.le_of_ble_eq_true rfl) (fun X F hQ hN => ?_)
  show VV X (0, 0) S [(0, .ref a), (1, .int p1)] [] 0
  unfold wp_X8_beginOfVoice at h
  refine v_aload_n F dX8_beginOfVoice_0 0 rfl rfl ?_
  refine v_iload_n F dX8_beginOfVoice_1 1 rfl rfl ?_
  refine v_cI0 (v_runV F k_X8_88 rfl (c_X8_hasVoice r_a h) r_a rfl rfl (Nat.le_of_ble_eq_true rfl) (by decide) (by decide) dX8_beginOfVoice_2) ⟨rfl, rfl⟩ (fun r2 S1 h hE => ?_)
  obtain ⟨nz_r2, h⟩ := h
  have r_a := r_a.tr hE
  refine v_if_eq (tgt := 17) F dX8_beginOfVoice_5 (by decide) h (fun h => ?_) (fun h => ?_)
  · refine v_lconst (v := 0) F dX8_beginOfVoice_17 (by decide) ?_
    exact v_lret F hQ h (by decide) dX8_beginOfVoice_18
  · refine v_aload_n F dX8_beginOfVoice_8 0 rfl rfl ?_
    refine g_X8_42 F r_a h dX8_beginOfVoice_9 (fun b3 r_b3 h => ?_)
    refine v_iload_n F dX8_beginOfVoice_12 1 rfl rfl ?_
    refine v_lald F r_b3 o_36 h dX8_beginOfVoice_13 (fun h => ?_)
    refine v_goto (tgt := 18) F dX8_beginOfVoice_14 (by decide) ?_
    exact v_lret F hQ h (by decide) dX8_beginOfVoice_18
theorem dX8_tieLatest_0 : decode cX8_tieLatest 0 = .ok (.aload_n 0, 1) := by decide +kernel
theorem dX8_tieLatest_1 : decode cX8_tieLatest 1 = .ok (.iload_n 1, 1) := by decide +kernel
theorem dX8_tieLatest_2 : decode cX8_tieLatest 2 = .ok (.invokevirtual 88, 3) := by decide +kernel
theorem dX8_tieLatest_5 : decode cX8_tieLatest 5 = .ok (.ifCond .eq 12, 3) := by decide +kernel
theorem dX8_tieLatest_8 : decode cX8_tieLatest 8 = .ok (.aload_n 0, 1) := by decide +kernel
theorem dX8_tieLatest_9 : decode cX8_tieLatest 9 = .ok (.getfield 45, 3) := by decide +kernel
theorem dX8_tieLatest_12 : decode cX8_tieLatest 12 = .ok (.iload_n 1, 1) := by decide +kernel
theorem dX8_tieLatest_13 : decode cX8_tieLatest 13 = .ok (.iaload, 1) := by decide +kernel
theorem dX8_tieLatest_14 : decode cX8_tieLatest 14 = .ok (.goto 4, 3) := by decide +kernel
theorem dX8_tieLatest_17 : decode cX8_tieLatest 17 = .ok (.iconst (-1), 1) := by decide +kernel
theorem dX8_tieLatest_18 : decode cX8_tieLatest 18 = .ok (.istore_n 3, 1) := by decide +kernel
theorem dX8_tieLatest_19 : decode cX8_tieLatest 19 = .ok (.aload_n 0, 1) := by decide +kernel
theorem dX8_tieLatest_20 : decode cX8_tieLatest 20 = .ok (.iload_n 3, 1) := by decide +kernel
theorem dX8_tieLatest_21 : decode cX8_tieLatest 21 = .ok (.invokevirtual 92, 3) := by decide +kernel
theorem dX8_tieLatest_24 : decode cX8_tieLatest 24 = .ok (.ifCond .eq 17, 3) := by decide +kernel
theorem dX8_tieLatest_27 : decode cX8_tieLatest 27 = .ok (.aload_n 0, 1) := by decide +kernel
theorem dX8_tieLatest_28 : decode cX8_tieLatest 28 = .ok (.getfield 29, 3) := by decide +kernel
theorem dX8_tieLatest_31 : decode cX8_tieLatest 31 = .ok (.iload_n 3, 1) := by decide +kernel
theorem dX8_tieLatest_32 : decode cX8_tieLatest 32 = .ok (.iconst 1, 1) := by decide +kernel
theorem dX8_tieLatest_33 : decode cX8_tieLatest 33 = .ok (.bastore, 1) := by decide +kernel
theorem dX8_tieLatest_34 : decode cX8_tieLatest 34 = .ok (.aload_n 0, 1) := by decide +kernel
theorem dX8_tieLatest_35 : decode cX8_tieLatest 35 = .ok (.getfield 48, 3) := by decide +kernel
theorem dX8_tieLatest_38 : decode cX8_tieLatest 38 = .ok (.iload_n 1, 1) := by decide +kernel
theorem dX8_tieLatest_39 : decode cX8_tieLatest 39 = .ok (.iload_n 2, 1) := by decide +kernel
theorem dX8_tieLatest_40 : decode cX8_tieLatest 40 = .ok (.iastore, 1) := by decide +kernel
theorem dX8_tieLatest_41 : decode cX8_tieLatest 41 = .ok (.return_, 1) := by decide +kernel
abbrev rm_X8_tieLatest : Room := { frames := 1, cells := 0, slots := 0, locals := 21 }
def wp_X8_tieLatest (a : Nat) (p1 : Int32) (p2 : Int32) (S : PS) (Q : PS → Prop) : Prop :=
  wp_X8_hasVoice a p1 S (fun (r2 : Int32) (S1 : PS) => 
 (∀ K18_5 : Int32 → PS → Prop, (∀ (t3 : Int32) (S4 : PS),
 wp_X8_holds a t3 S4 (fun (r7 : Int32) (S6 : PS) => 
 (if r7 = 0 then
 Q S6
 else
 (∃ b8, fR S6 75 a = some b8 ∧ (vp_in t3 (aN S6 b8) ∧ ∀ S9, S9 = wI S6 32 b8 (t3).toNatClampNeg (vp_nar .boolean 1) → (∃ b10, fR S9 82 a = some b10 ∧ (vp_in p1 (aN S9 b10) ∧ ∀ S11, S11 = wI S9 38 b10 (p1).toNatClampNeg p2 → Q S11))))))
 → K18_5 t3 S4) →
 (if r2 = 0 then
 K18_5 (-1) S1
 else
 (∃ b12, fR S1 81 a = some b12 ∧ (vp_in p1 (aN S1 b12) ∧ K18_5 (aI S1 37 b12 (p1).toNatClampNeg) S1)))))
set_option maxRecDepth 100000 in
set_option maxHeartbeats 4000000 in
theorem c_X8_tieLatest {l : Launch} {E : EE} {A : Nat → Prop} {a : Nat} {p1 : Int32} {p2 : Int32} {S : PS} {Q : PS → Prop} (r_a : Rf S a 7) (h : wp_X8_tieLatest a p1 p2 S Q) : MtV l yX8_tieLatest (.code yX8_tieLatest cX8_tieLatest 4 none) rm_X8_tieLatest E A [.ref a, .int p1, .int p2] S Q := by
  refine MtV.of (by decide) (Nat.le_of_ble_eq_true rfl) (fun X F hQ hN => ?_)
  show VV X (0, 0) S [(0, .ref a), (1, .int p1), (2, .int p2)] [] 0
  unfold wp_X8_tieLatest at h
  refine v_aload_n F dX8_tieLatest_0 0 rfl rfl ?_
  refine v_iload_n F dX8_tieLatest_1 1 rfl rfl ?_
  refine v_cI0 (v_runV F k_X8_88 rfl (c_X8_hasVoice r_a h) r_a rfl rfl (Nat.le_of_ble_eq_true rfl) (by decide) (by decide) dX8_tieLatest_2) ⟨rfl, rfl⟩ (fun r2 S1 h hE => ?_)
  obtain ⟨nz_r2, h⟩ := h
  have r_a := r_a.tr hE
  have h := h (fun (t3 : Int32) (S4 : PS) => Rf S4 a 7 → VV X (0, 0) S4 [(0, .ref a), (1, .int p1), (2, .int p2)] [.int t3] 18) (by
    intro t3 S4 h r_a
    refine v_istore_n (lv1 := [(3, .int t3), (0, .ref a), (1, .int p1), (2, .int p2)]) F dX8_tieLatest_18 rfl (by rw [hN]; decide) rfl ?_
    refine v_aload_n F dX8_tieLatest_19 1 rfl rfl ?_
    refine v_iload_n F dX8_tieLatest_20 0 rfl rfl ?_
    refine v_cI0 (v_runV F k_X8_92 rfl (c_X8_holds r_a h) r_a rfl rfl (Nat.le_of_ble_eq_true rfl) (by decide) (by decide) dX8_tieLatest_21) ⟨rfl, rfl⟩ (fun r7 S6 h hE => ?_)
    obtain ⟨nz_r7, h⟩ := h
    have r_a := r_a.tr hE
    refine v_if_eq (tgt := 41) F dX8_tieLatest_24 (by decide) h (fun h => ?_) (fun h => ?_)
    · exact v_vret F hQ h (by decide) dX8_tieLatest_41
    · refine v_aload_n F dX8_tieLatest_27 1 rfl rfl ?_
      refine g_X8_29 F r_a h dX8_tieLatest_28 (fun b8 r_b8 h => ?_)
      refine v_iload_n F dX8_tieLatest_31 0 rfl rfl ?_
      refine v_iconst (v := 1) F dX8_tieLatest_32 (by decide) ?_
      refine v_zast F r_b8 o_32 h dX8_tieLatest_33 (fun S9 h hE => ?_)
      have r_a := r_a.tr hE
      refine v_aload_n F dX8_tieLatest_34 1 rfl rfl ?_
      refine g_X8_48 F r_a h dX8_tieLatest_35 (fun b10 r_b10 h => ?_)
      refine v_iload_n F dX8_tieLatest_38 2 rfl rfl ?_
      refine v_iload_n F dX8_tieLatest_39 3 rfl rfl ?_
      refine v_iast F r_b10 o_38 h dX8_tieLatest_40 (fun S11 h hE => ?_)
      have r_a := r_a.tr hE
      exact v_vret F hQ h (by decide) dX8_tieLatest_41)
  refine v_if_eq (tgt := 17) F dX8_tieLatest_5 (by decide) h (fun h => ?_) (fun h => ?_)
  · refine v_iconst (v := (-1)) F dX8_tieLatest_17 (by decide) ?_
    exact v_sub [0, 1, 2] rfl (h r_a)
  · refine v_aload_n F dX8_tieLatest_8 0 rfl rfl ?_
    refine g_X8_45 F r_a h dX8_tieLatest_9 (fun b12 r_b12 h => ?_)
    refine v_iload_n F dX8_tieLatest_12 1 rfl rfl ?_
    refine v_iald F r_b12 o_37 h dX8_tieLatest_13 (fun h => ?_)
    refine v_goto (tgt := 18) F dX8_tieLatest_14 (by decide) ?_
    exact v_sub [0, 1, 2] rfl (h r_a)
theorem dX8_syllableByte_0 : decode cX8_syllableByte 0 = .ok (.aload_n 0, 1) := by decide +kernel
theorem dX8_syllableByte_1 : decode cX8_syllableByte 1 = .ok (.iload_n 1, 1) := by decide +kernel
theorem dX8_syllableByte_2 : decode cX8_syllableByte 2 = .ok (.iload_n 2, 1) := by decide +kernel
theorem dX8_syllableByte_3 : decode cX8_syllableByte 3 = .ok (.invokevirtual 103, 3) := by decide +kernel
theorem dX8_syllableByte_6 : decode cX8_syllableByte 6 = .ok (.istore 4, 2) := by decide +kernel
theorem dX8_syllableByte_8 : decode cX8_syllableByte 8 = .ok (.iload_n 3, 1) := by decide +kernel
theorem dX8_syllableByte_9 : decode cX8_syllableByte 9 = .ok (.ifCond .lt 12, 3) := by decide +kernel
theorem dX8_syllableByte_12 : decode cX8_syllableByte 12 = .ok (.iload_n 3, 1) := by decide +kernel
theorem dX8_syllableByte_13 : decode cX8_syllableByte 13 = .ok (.iload 4, 2) := by decide +kernel
theorem dX8_syllableByte_15 : decode cX8_syllableByte 15 = .ok (.invokestatic 106, 3) := by decide +kernel
theorem dX8_syllableByte_18 : decode cX8_syllableByte 18 = .ok (.if_icmp .lt 5, 3) := by decide +kernel
theorem dX8_syllableByte_21 : decode cX8_syllableByte 21 = .ok (.iconst (-1), 1) := by decide +kernel
theorem dX8_syllableByte_22 : decode cX8_syllableByte 22 = .ok (.ireturn, 1) := by decide +kernel
theorem dX8_syllableByte_23 : decode cX8_syllableByte 23 = .ok (.iload 4, 2) := by decide +kernel
theorem dX8_syllableByte_25 : decode cX8_syllableByte 25 = .ok (.invokestatic 112, 3) := by decide +kernel
theorem dX8_syllableByte_28 : decode cX8_syllableByte 28 = .ok (.iload_n 3, 1) := by decide +kernel
theorem dX8_syllableByte_29 : decode cX8_syllableByte 29 = .ok (.iadd, 1) := by decide +kernel
theorem dX8_syllableByte_30 : decode cX8_syllableByte 30 = .ok (.istore 5, 2) := by decide +kernel
theorem dX8_syllableByte_32 : decode cX8_syllableByte 32 = .ok (.iload 5, 2) := by decide +kernel
theorem dX8_syllableByte_34 : decode cX8_syllableByte 34 = .ok (.ifCond .lt 27, 3) := by decide +kernel
theorem dX8_syllableByte_37 : decode cX8_syllableByte 37 = .ok (.iload 5, 2) := by decide +kernel
theorem dX8_syllableByte_39 : decode cX8_syllableByte 39 = .ok (.aload_n 0, 1) := by decide +kernel
theorem dX8_syllableByte_40 : decode cX8_syllableByte 40 = .ok (.getfield 9, 3) := by decide +kernel
theorem dX8_syllableByte_43 : decode cX8_syllableByte 43 = .ok (.arraylength, 1) := by decide +kernel
theorem dX8_syllableByte_44 : decode cX8_syllableByte 44 = .ok (.if_icmp .ge 17, 3) := by decide +kernel
theorem dX8_syllableByte_47 : decode cX8_syllableByte 47 = .ok (.aload_n 0, 1) := by decide +kernel
theorem dX8_syllableByte_48 : decode cX8_syllableByte 48 = .ok (.getfield 9, 3) := by decide +kernel
theorem dX8_syllableByte_51 : decode cX8_syllableByte 51 = .ok (.iload 5, 2) := by decide +kernel
theorem dX8_syllableByte_53 : decode cX8_syllableByte 53 = .ok (.baload, 1) := by decide +kernel
theorem dX8_syllableByte_54 : decode cX8_syllableByte 54 = .ok (.sipush 255, 3) := by decide +kernel
theorem dX8_syllableByte_57 : decode cX8_syllableByte 57 = .ok (.iand, 1) := by decide +kernel
theorem dX8_syllableByte_58 : decode cX8_syllableByte 58 = .ok (.goto 4, 3) := by decide +kernel
theorem dX8_syllableByte_61 : decode cX8_syllableByte 61 = .ok (.iconst (-1), 1) := by decide +kernel
theorem dX8_syllableByte_62 : decode cX8_syllableByte 62 = .ok (.ireturn, 1) := by decide +kernel
abbrev rm_X8_syllableByte : Room := { frames := 2, cells := 0, slots := 0, locals := 44 }
def wp_X8_syllableByte (a : Nat) (p1 : Int32) (p2 : Int32) (p3 : Int32) (S : PS) (Q : Int32 → PS → Prop) : Prop :=
  wp_X8_syllableOf a p1 p2 S (fun (r2 : Int32) (S1 : PS) => 
 (if p3 < 0 then
 Q (-1) S1
 else
 wp_X9_length r2 S1 (fun (r4 : Int32) (S3 : PS) => 
 (if p3 < r4 then
 wp_X9_place r2 S3 (fun (r6 : Int32) (S5 : PS) => 
 (∀ v7, v7 = r6 + p3 → (if v7 < 0 then
 Q (-1) S5
 else
 (∃ b8, fR S5 69 a = some b8 ∧ (if nI (aN S5 b8) ≤ v7 then
 Q (-1) S5
 else
 (∃ b9, fR S5 69 a = some b9 ∧ (vp_in v7 (aN S5 b9) ∧ Q ((aI S5 27 b9 (v7).toNatClampNeg) &&& 255) S5)))))))
 else
 Q (-1) S3))))
set_option maxRecDepth 100000 in
set_option maxHeartbeats 4000000 in
theorem c_X8_syllableByte {l : Launch} {E : EE} {A : Nat → Prop} {a : Nat} {p1 : Int32} {p2 : Int32} {p3 : Int32} {S : PS} {Q : Int32 → PS → Prop} (r_a : Rf S a 7) (h : wp_X8_syllableByte a p1 p2 p3 S Q) : MtI l yX8_syllableByte (.code yX8_syllableByte cX8_syllableByte 6 (some .int)) rm_X8_syllableByte E A [.ref a, .int p1, .int p2, .int p3] S Q := by
  refine MtI.of (by decide) (Nat.le_of_ble_eq_true rfl) (fun X F hQ hN => ?_)
  show VV X (0, 0) S [(0, .ref a), (1, .int p1), (2, .int p2), (3, .int p3)] [] 0
  unfold wp_X8_syllableByte at h
  refine v_aload_n F dX8_syllableByte_0 0 rfl rfl ?_
  refine v_iload_n F dX8_syllableByte_1 1 rfl rfl ?_
  refine v_iload_n F dX8_syllableByte_2 2 rfl rfl ?_
  refine v_cI0 (v_runV F k_X8_103 rfl (c_X8_syllableOf r_a h) r_a rfl rfl (Nat.le_of_ble_eq_true rfl) (by decide) (by decide) dX8_syllableByte_3) ⟨rfl, rfl⟩ (fun r2 S1 h hE => ?_)
  have r_a := r_a.tr hE
  refine v_istore (lv1 := [(4, .int r2), (0, .ref a), (1, .int p1), (2, .int p2), (3, .int p3)]) F dX8_syllableByte_6 (by rw [hN]; decide) rfl ?_
  refine v_iload_n F dX8_syllableByte_8 4 rfl rfl ?_
  refine v_if_lt (tgt := 21) F dX8_syllableByte_9 (by decide) h (fun h => ?_) (fun h => ?_)
  · refine v_iconst (v := (-1)) F dX8_syllableByte_21 (by decide) ?_
    exact v_iret F hQ h (by decide) dX8_syllableByte_22
  · refine v_iload_n F dX8_syllableByte_12 4 rfl rfl ?_
    refine v_iload F dX8_syllableByte_13 0 rfl ?_
    refine v_cI0 (v_runS F k_X8_106 (c_X9_length h) rfl rfl (Nat.le_of_ble_eq_true rfl) (by decide) (by decide) dX8_syllableByte_15) ⟨rfl, rfl⟩ (fun r4 S3 h hE => ?_)
    have r_a := r_a.tr hE
    refine v_icmp_lt (tgt := 23) F dX8_syllableByte_18 (by decide) h (fun h => ?_) (fun h => ?_)
    · refine v_iload F dX8_syllableByte_23 0 rfl ?_
      refine v_cI0 (v_runS F k_X8_112 (c_X9_place h) rfl rfl (Nat.le_of_ble_eq_true rfl) (by decide) (by decide) dX8_syllableByte_25) ⟨rfl, rfl⟩ (fun r6 S5 h hE => ?_)
      have r_a := r_a.tr hE
      refine v_iload_n F dX8_syllableByte_28 4 rfl rfl ?_
      refine v_iadd F dX8_syllableByte_29 ?_
      refine v_topi (fun v7 e_v7 => ?_)
      have h := h v7 e_v7
      refine v_istore (lv1 := [(5, .int v7), (4, .int r2), (0, .ref a), (1, .int p1), (2, .int p2), (3, .int p3)]) F dX8_syllableByte_30 (by rw [hN]; decide) rfl ?_
      refine v_iload F dX8_syllableByte_32 0 rfl ?_
      refine v_if_lt (tgt := 61) F dX8_syllableByte_34 (by decide) h (fun h => ?_) (fun h => ?_)
      · refine v_iconst (v := (-1)) F dX8_syllableByte_61 (by decide) ?_
        exact v_iret F hQ h (by decide) dX8_syllableByte_62
      · refine v_iload F dX8_syllableByte_37 0 rfl ?_
        refine v_aload_n F dX8_syllableByte_39 2 rfl rfl ?_
        refine g_X8_9 F r_a h dX8_syllableByte_40 (fun b8 r_b8 h => ?_)
        refine v_alen F r_b8 (by decide) dX8_syllableByte_43 ?_
        refine v_icmp_ge (tgt := 61) F dX8_syllableByte_44 (by decide) h (fun h => ?_) (fun h => ?_)
        · refine v_iconst (v := (-1)) F dX8_syllableByte_61 (by decide) ?_
          exact v_iret F hQ h (by decide) dX8_syllableByte_62
        · refine v_aload_n F dX8_syllableByte_47 2 rfl rfl ?_
          refine g_X8_9 F r_a h dX8_syllableByte_48 (fun b9 r_b9 h => ?_)
          refine v_iload F dX8_syllableByte_51 0 rfl ?_
          refine v_bald F r_b9 o_27 h dX8_syllableByte_53 (fun h => ?_)
          refine v_sipush (v := 255) F dX8_syllableByte_54 (by decide) ?_
          refine v_iand F dX8_syllableByte_57 ?_
          refine v_goto (tgt := 62) F dX8_syllableByte_58 (by decide) ?_
          exact v_iret F hQ h (by decide) dX8_syllableByte_62
    · refine v_iconst (v := (-1)) F dX8_syllableByte_21 (by decide) ?_
      exact v_iret F hQ h (by decide) dX8_syllableByte_22
theorem dX8_lastSung_0 : decode cX8_lastSung 0 = .ok (.aload_n 0, 1) := by decide +kernel
theorem dX8_lastSung_1 : decode cX8_lastSung 1 = .ok (.getfield 68, 3) := by decide +kernel
theorem dX8_lastSung_4 : decode cX8_lastSung 4 = .ok (.iconst 1, 1) := by decide +kernel
theorem dX8_lastSung_5 : decode cX8_lastSung 5 = .ok (.isub, 1) := by decide +kernel
theorem dX8_lastSung_6 : decode cX8_lastSung 6 = .ok (.istore_n 3, 1) := by decide +kernel
theorem dX8_lastSung_7 : decode cX8_lastSung 7 = .ok (.iload_n 3, 1) := by decide +kernel
theorem dX8_lastSung_8 : decode cX8_lastSung 8 = .ok (.ifCond .lt 32, 3) := by decide +kernel
theorem dX8_lastSung_11 : decode cX8_lastSung 11 = .ok (.aload_n 0, 1) := by decide +kernel
theorem dX8_lastSung_12 : decode cX8_lastSung 12 = .ok (.iload_n 3, 1) := by decide +kernel
theorem dX8_lastSung_13 : decode cX8_lastSung 13 = .ok (.iload_n 1, 1) := by decide +kernel
theorem dX8_lastSung_14 : decode cX8_lastSung 14 = .ok (.invokevirtual 99, 3) := by decide +kernel
theorem dX8_lastSung_17 : decode cX8_lastSung 17 = .ok (.ifCond .eq 17, 3) := by decide +kernel
theorem dX8_lastSung_20 : decode cX8_lastSung 20 = .ok (.aload_n 0, 1) := by decide +kernel
theorem dX8_lastSung_21 : decode cX8_lastSung 21 = .ok (.iload_n 3, 1) := by decide +kernel
theorem dX8_lastSung_22 : decode cX8_lastSung 22 = .ok (.iload_n 2, 1) := by decide +kernel
theorem dX8_lastSung_23 : decode cX8_lastSung 23 = .ok (.invokevirtual 103, 3) := by decide +kernel
theorem dX8_lastSung_26 : decode cX8_lastSung 26 = .ok (.invokestatic 106, 3) := by decide +kernel
theorem dX8_lastSung_29 : decode cX8_lastSung 29 = .ok (.ifCond .le 5, 3) := by decide +kernel
theorem dX8_lastSung_32 : decode cX8_lastSung 32 = .ok (.iload_n 3, 1) := by decide +kernel
theorem dX8_lastSung_33 : decode cX8_lastSung 33 = .ok (.ireturn, 1) := by decide +kernel
theorem dX8_lastSung_34 : decode cX8_lastSung 34 = .ok (.iinc 3 (-1), 3) := by decide +kernel
theorem dX8_lastSung_37 : decode cX8_lastSung 37 = .ok (.goto (-30), 3) := by decide +kernel
theorem dX8_lastSung_40 : decode cX8_lastSung 40 = .ok (.iconst (-1), 1) := by decide +kernel
theorem dX8_lastSung_41 : decode cX8_lastSung 41 = .ok (.ireturn, 1) := by decide +kernel
abbrev rm_X8_lastSung : Room := { frames := 2, cells := 0, slots := 0, locals := 44 }
def wp_X8_lastSung (a : Nat) (p1 : Int32) (p2 : Int32) (S : PS) (Q : Int32 → PS → Prop) : Prop :=
  (∀ v1, v1 = (fI S 70 a) - 1 → (∀ P7_2 : Int32 → PS → Prop, (∀ (x3_3 : Int32) (S4 : PS),
 (if x3_3 < 0 then
 Q (-1) S4
 else
 wp_X8_maySing a x3_3 p1 S4 (fun (r6 : Int32) (S5 : PS) => 
 (∀ K34_8 : PS → Prop, (∀ (S7 : PS),
 (∀ v9, v9 = x3_3 + (-1) → P7_2 v9 S7)
 → K34_8 S7) →
 (if r6 = 0 then
 K34_8 S5
 else
 wp_X8_syllableOf a x3_3 p2 S5 (fun (r11 : Int32) (S10 : PS) => 
 wp_X9_length r11 S10 (fun (r13 : Int32) (S12 : PS) => 
 (if r13 ≤ 0 then
 K34_8 S12
 else
 Q x3_3 S12)))))))
 → P7_2 x3_3 S4) → P7_2 v1 S))
set_option maxRecDepth 100000 in
set_option maxHeartbeats 4000000 in
theorem c_X8_lastSung {l : Launch} {E : EE} {A : Nat → Prop} {a : Nat} {p1 : Int32} {p2 : Int32} {S : PS} {Q : Int32 → PS → Prop} (r_a : Rf S a 7) (h : wp_X8_lastSung a p1 p2 S Q) : MtI l yX8_lastSung (.code yX8_lastSung cX8_lastSung 4 (some .int)) rm_X8_lastSung E A [.ref a, .int p1, .int p2] S Q := by
  refine MtI.of (by decide) (Nat.le_of_ble_eq_true rfl) (fun X F hQ hN => ?_)
  show VV X (0, 0) S [(0, .ref a), (1, .int p1), (2, .int p2)] [] 0
  unfold wp_X8_lastSung at h
  refine v_aload_n F dX8_lastSung_0 0 rfl rfl ?_
  refine g_X8_68 F r_a dX8_lastSung_1 ?_
  refine v_iconst (v := 1) F dX8_lastSung_4 (by decide) ?_
  refine v_isub F dX8_lastSung_5 ?_
  refine v_topi (fun v1 e_v1 => ?_)
  have h := h v1 e_v1
  refine v_istore_n (lv1 := [(3, .int v1), (0, .ref a), (1, .int p1), (2, .int p2)]) F dX8_lastSung_6 rfl (by rw [hN]; decide) rfl ?_
  refine v_sub [1, 2, 3, 0] rfl ?_
  refine h (fun (x3_3 : Int32) (S4 : PS) => Rf S4 a 7 → VV X (0, 0) S4 [(0, .ref a), (1, .int p1), (2, .int p2), (3, .int x3_3)] [] 7) (fun x3_3 S4 h r_a => ?_) r_a
  refine v_iload_n F dX8_lastSung_7 3 rfl rfl ?_
  refine v_if_lt (tgt := 40) F dX8_lastSung_8 (by decide) h (fun h => ?_) (fun h => ?_)
  · refine v_iconst (v := (-1)) F dX8_lastSung_40 (by decide) ?_
    exact v_iret F hQ h (by decide) dX8_lastSung_41
  · refine v_aload_n F dX8_lastSung_11 0 rfl rfl ?_
    refine v_iload_n F dX8_lastSung_12 3 rfl rfl ?_
    refine v_iload_n F dX8_lastSung_13 1 rfl rfl ?_
    refine v_cI0 (v_runV F k_X8_99 rfl (c_X8_maySing r_a h) r_a rfl rfl (Nat.le_of_ble_eq_true rfl) (by decide) (by decide) dX8_lastSung_14) ⟨rfl, rfl⟩ (fun r6 S5 h hE => ?_)
    obtain ⟨nz_r6, h⟩ := h
    have r_a := r_a.tr hE
    have h := h (fun (S7 : PS) => Rf S7 a 7 → VV X (0, 0) S7 [(0, .ref a), (1, .int p1), (2, .int p2), (3, .int x3_3)] [] 34) (by
      intro S7 h r_a
      obtain ⟨v9, e_v9⟩ : ∃ y : Int32, y = x3_3 + (-1) := ⟨_, rfl⟩
      have h := h v9 e_v9
      refine v_iinc (v := v9) (lv1 := [(3, .int v9), (0, .ref a), (1, .int p1), (2, .int p2)]) F dX8_lastSung_34 (q := 3) rfl (by rw [e_v9]; rfl) (by rw [hN]; decide) rfl ?_
      refine v_goto (tgt := 7) F dX8_lastSung_37 (by decide) ?_
      exact v_sub [1, 2, 3, 0] rfl (h r_a))
    refine v_if_eq (tgt := 34) F dX8_lastSung_17 (by decide) h (fun h => ?_) (fun h => ?_)
    · exact v_sub [0, 1, 2, 3] rfl (h r_a)
    · refine v_aload_n F dX8_lastSung_20 0 rfl rfl ?_
      refine v_iload_n F dX8_lastSung_21 3 rfl rfl ?_
      refine v_iload_n F dX8_lastSung_22 2 rfl rfl ?_
      refine v_cI0 (v_runV F k_X8_103 rfl (c_X8_syllableOf r_a h) r_a rfl rfl (Nat.le_of_ble_eq_true rfl) (by decide) (by decide) dX8_lastSung_23) ⟨rfl, rfl⟩ (fun r11 S10 h hE => ?_)
      have r_a := r_a.tr hE
      refine v_cI0 (v_runS F k_X8_106 (c_X9_length h) rfl rfl (Nat.le_of_ble_eq_true rfl) (by decide) (by decide) dX8_lastSung_26) ⟨rfl, rfl⟩ (fun r13 S12 h hE => ?_)
      have r_a := r_a.tr hE
      refine v_if_le (tgt := 34) F dX8_lastSung_29 (by decide) h (fun h => ?_) (fun h => ?_)
      · exact v_sub [0, 1, 2, 3] rfl (h r_a)
      · refine v_iload_n F dX8_lastSung_32 3 rfl rfl ?_
        exact v_iret F hQ h (by decide) dX8_lastSung_33
theorem dX8_pitchesIn_0 : decode cX8_pitchesIn 0 = .ok (.aload_n 0, 1) := by decide +kernel
theorem dX8_pitchesIn_1 : decode cX8_pitchesIn 1 = .ok (.iload_n 1, 1) := by decide +kernel
theorem dX8_pitchesIn_2 : decode cX8_pitchesIn 2 = .ok (.invokevirtual 92, 3) := by decide +kernel
theorem dX8_pitchesIn_5 : decode cX8_pitchesIn 5 = .ok (.ifCond .eq 15, 3) := by decide +kernel
theorem dX8_pitchesIn_8 : decode cX8_pitchesIn 8 = .ok (.aload_n 0, 1) := by decide +kernel
theorem dX8_pitchesIn_9 : decode cX8_pitchesIn 9 = .ok (.getfield 26, 3) := by decide +kernel
theorem dX8_pitchesIn_12 : decode cX8_pitchesIn 12 = .ok (.iload_n 1, 1) := by decide +kernel
theorem dX8_pitchesIn_13 : decode cX8_pitchesIn 13 = .ok (.laload, 1) := by decide +kernel
theorem dX8_pitchesIn_14 : decode cX8_pitchesIn 14 = .ok (.invokestatic 115, 3) := by decide +kernel
theorem dX8_pitchesIn_17 : decode cX8_pitchesIn 17 = .ok (.goto 4, 3) := by decide +kernel
theorem dX8_pitchesIn_20 : decode cX8_pitchesIn 20 = .ok (.iconst 0, 1) := by decide +kernel
theorem dX8_pitchesIn_21 : decode cX8_pitchesIn 21 = .ok (.ireturn, 1) := by decide +kernel
abbrev rm_X8_pitchesIn : Room := { frames := 1, cells := 0, slots := 0, locals := 21 }
def wp_X8_pitchesIn (a : Nat) (p1 : Int32) (S : PS) (Q : Int32 → PS → Prop) : Prop :=
  wp_X8_holds a p1 S (fun (r2 : Int32) (S1 : PS) => 
 (if r2 = 0 then
 Q 0 S1
 else
 (∃ b3, fR S1 74 a = some b3 ∧ (vp_in p1 (aN S1 b3) ∧ wp_X4_size (aL S1 31 b3 (p1).toNatClampNeg) S1 (fun (r5 : Int32) (S4 : PS) => 
 Q r5 S4)))))
set_option maxRecDepth 100000 in
set_option maxHeartbeats 4000000 in
theorem c_X8_pitchesIn {l : Launch} {E : EE} {A : Nat → Prop} {a : Nat} {p1 : Int32} {S : PS} {Q : Int32 → PS → Prop} (r_a : Rf S a 7) (h : wp_X8_pitchesIn a p1 S Q) : MtI l yX8_pitchesIn (.code yX8_pitchesIn cX8_pitchesIn 2 (some .int)) rm_X8_pitchesIn E A [.ref a, .int p1] S Q := by
  refine MtI.of (by decide) (Nat.le_of_ble_eq_true rfl) (fun X F hQ hN => ?_)
  show VV X (0, 0) S [(0, .ref a), (1, .int p1)] [] 0
  unfold wp_X8_pitchesIn at h
  refine v_aload_n F dX8_pitchesIn_0 0 rfl rfl ?_
  refine v_iload_n F dX8_pitchesIn_1 1 rfl rfl ?_
  refine v_cI0 (v_runV F k_X8_92 rfl (c_X8_holds r_a h) r_a rfl rfl (Nat.le_of_ble_eq_true rfl) (by decide) (by decide) dX8_pitchesIn_2) ⟨rfl, rfl⟩ (fun r2 S1 h hE => ?_)
  obtain ⟨nz_r2, h⟩ := h
  have r_a := r_a.tr hE
  refine v_if_eq (tgt := 20) F dX8_pitchesIn_5 (by decide) h (fun h => ?_) (fun h => ?_)
  · refine v_iconst (v := 0) F dX8_pitchesIn_20 (by decide) ?_
    exact v_iret F hQ h (by decide) dX8_pitchesIn_21
  · refine v_aload_n F dX8_pitchesIn_8 0 rfl rfl ?_
    refine g_X8_26 F r_a h dX8_pitchesIn_9 (fun b3 r_b3 h => ?_)
    refine v_iload_n F dX8_pitchesIn_12 1 rfl rfl ?_
    refine v_lald F r_b3 o_31 h dX8_pitchesIn_13 (fun h => ?_)
    refine v_cI0 (v_runS F k_X8_115 (c_X4_size h) rfl rfl (Nat.le_of_ble_eq_true rfl) (by decide) (by decide) dX8_pitchesIn_14) ⟨rfl, rfl⟩ (fun r5 S4 h hE => ?_)
    have r_a := r_a.tr hE
    refine v_goto (tgt := 21) F dX8_pitchesIn_17 (by decide) ?_
    exact v_iret F hQ h (by decide) dX8_pitchesIn_21
theorem dX8_codeOf_0 : decode cX8_codeOf 0 = .ok (.aload_n 0, 1) := by decide +kernel
theorem dX8_codeOf_1 : decode cX8_codeOf 1 = .ok (.iload_n 1, 1) := by decide +kernel
theorem dX8_codeOf_2 : decode cX8_codeOf 2 = .ok (.invokevirtual 92, 3) := by decide +kernel
theorem dX8_codeOf_5 : decode cX8_codeOf 5 = .ok (.ifCond .eq 26, 3) := by decide +kernel
theorem dX8_codeOf_8 : decode cX8_codeOf 8 = .ok (.iload_n 2, 1) := by decide +kernel
theorem dX8_codeOf_9 : decode cX8_codeOf 9 = .ok (.ifCond .lt 22, 3) := by decide +kernel
theorem dX8_codeOf_12 : decode cX8_codeOf 12 = .ok (.iload_n 2, 1) := by decide +kernel
theorem dX8_codeOf_13 : decode cX8_codeOf 13 = .ok (.bipush 6, 2) := by decide +kernel
theorem dX8_codeOf_15 : decode cX8_codeOf 15 = .ok (.if_icmp .ge 16, 3) := by decide +kernel
theorem dX8_codeOf_18 : decode cX8_codeOf 18 = .ok (.aload_n 0, 1) := by decide +kernel
theorem dX8_codeOf_19 : decode cX8_codeOf 19 = .ok (.getfield 26, 3) := by decide +kernel
theorem dX8_codeOf_22 : decode cX8_codeOf 22 = .ok (.iload_n 1, 1) := by decide +kernel
theorem dX8_codeOf_23 : decode cX8_codeOf 23 = .ok (.laload, 1) := by decide +kernel
theorem dX8_codeOf_24 : decode cX8_codeOf 24 = .ok (.iload_n 2, 1) := by decide +kernel
theorem dX8_codeOf_25 : decode cX8_codeOf 25 = .ok (.invokestatic 120, 3) := by decide +kernel
theorem dX8_codeOf_28 : decode cX8_codeOf 28 = .ok (.goto 4, 3) := by decide +kernel
theorem dX8_codeOf_31 : decode cX8_codeOf 31 = .ok (.iconst 0, 1) := by decide +kernel
theorem dX8_codeOf_32 : decode cX8_codeOf 32 = .ok (.ireturn, 1) := by decide +kernel
abbrev rm_X8_codeOf : Room := { frames := 1, cells := 0, slots := 0, locals := 22 }
def wp_X8_codeOf (a : Nat) (p1 : Int32) (p2 : Int32) (S : PS) (Q : Int32 → PS → Prop) : Prop :=
  wp_X8_holds a p1 S (fun (r2 : Int32) (S1 : PS) => 
 (if r2 = 0 then
 Q 0 S1
 else
 (if p2 < 0 then
 Q 0 S1
 else
 (if 6 ≤ p2 then
 Q 0 S1
 else
 (∃ b3, fR S1 74 a = some b3 ∧ (vp_in p1 (aN S1 b3) ∧ wp_X4_get (aL S1 31 b3 (p1).toNatClampNeg) p2 S1 (fun (r5 : Int32) (S4 : PS) => 
 Q r5 S4)))))))
set_option maxRecDepth 100000 in
set_option maxHeartbeats 4000000 in
theorem c_X8_codeOf {l : Launch} {E : EE} {A : Nat → Prop} {a : Nat} {p1 : Int32} {p2 : Int32} {S : PS} {Q : Int32 → PS → Prop} (r_a : Rf S a 7) (h : wp_X8_codeOf a p1 p2 S Q) : MtI l yX8_codeOf (.code yX8_codeOf cX8_codeOf 3 (some .int)) rm_X8_codeOf E A [.ref a, .int p1, .int p2] S Q := by
  refine MtI.of (by decide) (Nat.le_of_ble_eq_true rfl) (fun X F hQ hN => ?_)
  show VV X (0, 0) S [(0, .ref a), (1, .int p1), (2, .int p2)] [] 0
  unfold wp_X8_codeOf at h
  refine v_aload_n F dX8_codeOf_0 0 rfl rfl ?_
  refine v_iload_n F dX8_codeOf_1 1 rfl rfl ?_
  refine v_cI0 (v_runV F k_X8_92 rfl (c_X8_holds r_a h) r_a rfl rfl (Nat.le_of_ble_eq_true rfl) (by decide) (by decide) dX8_codeOf_2) ⟨rfl, rfl⟩ (fun r2 S1 h hE => ?_)
  obtain ⟨nz_r2, h⟩ := h
  have r_a := r_a.tr hE
  refine v_if_eq (tgt := 31) F dX8_codeOf_5 (by decide) h (fun h => ?_) (fun h => ?_)
  · refine v_iconst (v := 0) F dX8_codeOf_31 (by decide) ?_
    exact v_iret F hQ h (by decide) dX8_codeOf_32
  · refine v_iload_n F dX8_codeOf_8 2 rfl rfl ?_
    refine v_if_lt (tgt := 31) F dX8_codeOf_9 (by decide) h (fun h => ?_) (fun h => ?_)
    · refine v_iconst (v := 0) F dX8_codeOf_31 (by decide) ?_
      exact v_iret F hQ h (by decide) dX8_codeOf_32
    · refine v_iload_n F dX8_codeOf_12 2 rfl rfl ?_
      refine v_bipush (v := 6) F dX8_codeOf_13 (by decide) ?_
      refine v_icmp_ge (tgt := 31) F dX8_codeOf_15 (by decide) h (fun h => ?_) (fun h => ?_)
      · refine v_iconst (v := 0) F dX8_codeOf_31 (by decide) ?_
        exact v_iret F hQ h (by decide) dX8_codeOf_32
      · refine v_aload_n F dX8_codeOf_18 0 rfl rfl ?_
        refine g_X8_26 F r_a h dX8_codeOf_19 (fun b3 r_b3 h => ?_)
        refine v_iload_n F dX8_codeOf_22 1 rfl rfl ?_
        refine v_lald F r_b3 o_31 h dX8_codeOf_23 (fun h => ?_)
        refine v_iload_n F dX8_codeOf_24 2 rfl rfl ?_
        refine v_cI0 (v_runS F k_X8_120 (c_X4_get h) rfl rfl (Nat.le_of_ble_eq_true rfl) (by decide) (by decide) dX8_codeOf_25) ⟨rfl, rfl⟩ (fun r5 S4 h hE => ?_)
        have r_a := r_a.tr hE
        refine v_goto (tgt := 32) F dX8_codeOf_28 (by decide) ?_
        exact v_iret F hQ h (by decide) dX8_codeOf_32
theorem dX8_countRests_0 : decode cX8_countRests 0 = .ok (.iconst 0, 1) := by decide +kernel
theorem dX8_countRests_1 : decode cX8_countRests 1 = .ok (.istore_n 1, 1) := by decide +kernel
theorem dX8_countRests_2 : decode cX8_countRests 2 = .ok (.iconst 0, 1) := by decide +kernel
theorem dX8_countRests_3 : decode cX8_countRests 3 = .ok (.istore_n 2, 1) := by decide +kernel
theorem dX8_countRests_4 : decode cX8_countRests 4 = .ok (.iload_n 2, 1) := by decide +kernel
theorem dX8_countRests_5 : decode cX8_countRests 5 = .ok (.aload_n 0, 1) := by decide +kernel
theorem dX8_countRests_6 : decode cX8_countRests 6 = .ok (.getfield 68, 3) := by decide +kernel
theorem dX8_countRests_9 : decode cX8_countRests 9 = .ok (.if_icmp .ge 20, 3) := by decide +kernel
theorem dX8_countRests_12 : decode cX8_countRests 12 = .ok (.aload_n 0, 1) := by decide +kernel
theorem dX8_countRests_13 : decode cX8_countRests 13 = .ok (.iload_n 2, 1) := by decide +kernel
theorem dX8_countRests_14 : decode cX8_countRests 14 = .ok (.invokevirtual 124, 3) := by decide +kernel
theorem dX8_countRests_17 : decode cX8_countRests 17 = .ok (.ifCond .ne 6, 3) := by decide +kernel
theorem dX8_countRests_20 : decode cX8_countRests 20 = .ok (.iinc 1 1, 3) := by decide +kernel
theorem dX8_countRests_23 : decode cX8_countRests 23 = .ok (.iinc 2 1, 3) := by decide +kernel
theorem dX8_countRests_26 : decode cX8_countRests 26 = .ok (.goto (-22), 3) := by decide +kernel
theorem dX8_countRests_29 : decode cX8_countRests 29 = .ok (.iload_n 1, 1) := by decide +kernel
theorem dX8_countRests_30 : decode cX8_countRests 30 = .ok (.ireturn, 1) := by decide +kernel
abbrev rm_X8_countRests : Room := { frames := 2, cells := 0, slots := 0, locals := 42 }
def wp_X8_countRests (a : Nat) (S : PS) (Q : Int32 → PS → Prop) : Prop :=
  (∀ P4_1 : Int32 → Int32 → PS → Prop, (∀ (x1_2 : Int32) (x2_3 : Int32) (S4 : PS),
 (if fI S4 70 a ≤ x2_3 then
 Q x1_2 S4
 else
 wp_X8_pitchesIn a x2_3 S4 (fun (r6 : Int32) (S5 : PS) => 
 (∀ K23_9 : Int32 → PS → Prop, (∀ (x1_7 : Int32) (S8 : PS),
 (∀ v10, v10 = x2_3 + 1 → P4_1 x1_7 v10 S8)
 → K23_9 x1_7 S8) →
 (if r6 = 0 then
 (∀ v11, v11 = x1_2 + 1 → K23_9 v11 S5)
 else
 K23_9 x1_2 S5))))
 → P4_1 x1_2 x2_3 S4) → P4_1 0 0 S)
set_option maxRecDepth 100000 in
set_option maxHeartbeats 4000000 in
theorem c_X8_countRests {l : Launch} {E : EE} {A : Nat → Prop} {a : Nat} {S : PS} {Q : Int32 → PS → Prop} (r_a : Rf S a 7) (h : wp_X8_countRests a S Q) : MtI l yX8_countRests (.code yX8_countRests cX8_countRests 3 (some .int)) rm_X8_countRests E A [.ref a] S Q := by
  refine MtI.of (by decide) (Nat.le_of_ble_eq_true rfl) (fun X F hQ hN => ?_)
  show VV X (0, 0) S [(0, .ref a)] [] 0
  unfold wp_X8_countRests at h
  refine v_iconst (v := 0) F dX8_countRests_0 (by decide) ?_
  refine v_istore_n (lv1 := [(1, .int 0), (0, .ref a)]) F dX8_countRests_1 rfl (by rw [hN]; decide) rfl ?_
  refine v_iconst (v := 0) F dX8_countRests_2 (by decide) ?_
  refine v_istore_n (lv1 := [(2, .int 0), (1, .int 0), (0, .ref a)]) F dX8_countRests_3 rfl (by rw [hN]; decide) rfl ?_
  refine v_sub [2, 1, 0] rfl ?_
  refine h (fun (x1_2 : Int32) (x2_3 : Int32) (S4 : PS) => Rf S4 a 7 → VV X (0, 0) S4 [(0, .ref a), (1, .int x1_2), (2, .int x2_3)] [] 4) (fun x1_2 x2_3 S4 h r_a => ?_) r_a
  refine v_iload_n F dX8_countRests_4 2 rfl rfl ?_
  refine v_aload_n F dX8_countRests_5 0 rfl rfl ?_
  refine g_X8_68 F r_a dX8_countRests_6 ?_
  refine v_icmp_ge (tgt := 29) F dX8_countRests_9 (by decide) h (fun h => ?_) (fun h => ?_)
  · refine v_iload_n F dX8_countRests_29 1 rfl rfl ?_
    exact v_iret F hQ h (by decide) dX8_countRests_30
  · refine v_aload_n F dX8_countRests_12 0 rfl rfl ?_
    refine v_iload_n F dX8_countRests_13 2 rfl rfl ?_
    refine v_cI0 (v_runV F k_X8_124 rfl (c_X8_pitchesIn r_a h) r_a rfl rfl (Nat.le_of_ble_eq_true rfl) (by decide) (by decide) dX8_countRests_14) ⟨rfl, rfl⟩ (fun r6 S5 h hE => ?_)
    have r_a := r_a.tr hE
    have h := h (fun (x1_7 : Int32) (S8 : PS) => Rf S8 a 7 → VV X (0, 0) S8 [(0, .ref a), (1, .int x1_7), (2, .int x2_3)] [] 23) (by
      intro x1_7 S8 h r_a
      obtain ⟨v10, e_v10⟩ : ∃ y : Int32, y = x2_3 + 1 := ⟨_, rfl⟩
      have h := h v10 e_v10
      refine v_iinc (v := v10) (lv1 := [(2, .int v10), (0, .ref a), (1, .int x1_7)]) F dX8_countRests_23 (q := 2) rfl (by rw [e_v10]; rfl) (by rw [hN]; decide) rfl ?_
      refine v_goto (tgt := 4) F dX8_countRests_26 (by decide) ?_
      exact v_sub [1, 2, 0] rfl (h r_a))
    refine v_if_ne (tgt := 23) F dX8_countRests_17 (by decide) h (fun h => ?_) (fun h => ?_)
    · exact v_sub [0, 1, 2] rfl (h r_a)
    · obtain ⟨v11, e_v11⟩ : ∃ y : Int32, y = x1_2 + 1 := ⟨_, rfl⟩
      have h := h v11 e_v11
      refine v_iinc (v := v11) (lv1 := [(1, .int v11), (0, .ref a), (2, .int x2_3)]) F dX8_countRests_20 (q := 1) rfl (by rw [e_v11]; rfl) (by rw [hN]; decide) rfl ?_
      exact v_sub [1, 0, 2] rfl (h r_a)
theorem dX8_tiedLength_0 : decode cX8_tiedLength 0 = .ok (.aload_n 0, 1) := by decide +kernel
theorem dX8_tiedLength_1 : decode cX8_tiedLength 1 = .ok (.iload_n 1, 1) := by decide +kernel
theorem dX8_tiedLength_2 : decode cX8_tiedLength 2 = .ok (.invokevirtual 92, 3) := by decide +kernel
theorem dX8_tiedLength_5 : decode cX8_tiedLength 5 = .ok (.ifCond .eq 12, 3) := by decide +kernel
theorem dX8_tiedLength_8 : decode cX8_tiedLength 8 = .ok (.aload_n 0, 1) := by decide +kernel
theorem dX8_tiedLength_9 : decode cX8_tiedLength 9 = .ok (.getfield 33, 3) := by decide +kernel
theorem dX8_tiedLength_12 : decode cX8_tiedLength 12 = .ok (.iload_n 1, 1) := by decide +kernel
theorem dX8_tiedLength_13 : decode cX8_tiedLength 13 = .ok (.baload, 1) := by decide +kernel
theorem dX8_tiedLength_14 : decode cX8_tiedLength 14 = .ok (.ifCond .eq 5, 3) := by decide +kernel
theorem dX8_tiedLength_17 : decode cX8_tiedLength 17 = .ok (.lconst 0, 1) := by decide +kernel
theorem dX8_tiedLength_18 : decode cX8_tiedLength 18 = .ok (.lreturn, 1) := by decide +kernel
theorem dX8_tiedLength_19 : decode cX8_tiedLength 19 = .ok (.lconst 0, 1) := by decide +kernel
theorem dX8_tiedLength_20 : decode cX8_tiedLength 20 = .ok (.lstore_n 2, 1) := by decide +kernel
theorem dX8_tiedLength_21 : decode cX8_tiedLength 21 = .ok (.iload_n 1, 1) := by decide +kernel
theorem dX8_tiedLength_22 : decode cX8_tiedLength 22 = .ok (.istore 4, 2) := by decide +kernel
theorem dX8_tiedLength_24 : decode cX8_tiedLength 24 = .ok (.iload 4, 2) := by decide +kernel
theorem dX8_tiedLength_26 : decode cX8_tiedLength 26 = .ok (.aload_n 0, 1) := by decide +kernel
theorem dX8_tiedLength_27 : decode cX8_tiedLength 27 = .ok (.getfield 68, 3) := by decide +kernel
theorem dX8_tiedLength_30 : decode cX8_tiedLength 30 = .ok (.if_icmp .ge 47, 3) := by decide +kernel
theorem dX8_tiedLength_33 : decode cX8_tiedLength 33 = .ok (.aload_n 0, 1) := by decide +kernel
theorem dX8_tiedLength_34 : decode cX8_tiedLength 34 = .ok (.getfield 15, 3) := by decide +kernel
theorem dX8_tiedLength_37 : decode cX8_tiedLength 37 = .ok (.iload 4, 2) := by decide +kernel
theorem dX8_tiedLength_39 : decode cX8_tiedLength 39 = .ok (.iaload, 1) := by decide +kernel
theorem dX8_tiedLength_40 : decode cX8_tiedLength 40 = .ok (.aload_n 0, 1) := by decide +kernel
theorem dX8_tiedLength_41 : decode cX8_tiedLength 41 = .ok (.getfield 15, 3) := by decide +kernel
theorem dX8_tiedLength_44 : decode cX8_tiedLength 44 = .ok (.iload_n 1, 1) := by decide +kernel
theorem dX8_tiedLength_45 : decode cX8_tiedLength 45 = .ok (.iaload, 1) := by decide +kernel
theorem dX8_tiedLength_46 : decode cX8_tiedLength 46 = .ok (.if_icmp .ne 25, 3) := by decide +kernel
theorem dX8_tiedLength_49 : decode cX8_tiedLength 49 = .ok (.lload_n 2, 1) := by decide +kernel
theorem dX8_tiedLength_50 : decode cX8_tiedLength 50 = .ok (.aload_n 0, 1) := by decide +kernel
theorem dX8_tiedLength_51 : decode cX8_tiedLength 51 = .ok (.getfield 23, 3) := by decide +kernel
theorem dX8_tiedLength_54 : decode cX8_tiedLength 54 = .ok (.iload 4, 2) := by decide +kernel
theorem dX8_tiedLength_56 : decode cX8_tiedLength 56 = .ok (.laload, 1) := by decide +kernel
theorem dX8_tiedLength_57 : decode cX8_tiedLength 57 = .ok (.ladd, 1) := by decide +kernel
theorem dX8_tiedLength_58 : decode cX8_tiedLength 58 = .ok (.lstore_n 2, 1) := by decide +kernel
theorem dX8_tiedLength_59 : decode cX8_tiedLength 59 = .ok (.aload_n 0, 1) := by decide +kernel
theorem dX8_tiedLength_60 : decode cX8_tiedLength 60 = .ok (.getfield 29, 3) := by decide +kernel
theorem dX8_tiedLength_63 : decode cX8_tiedLength 63 = .ok (.iload 4, 2) := by decide +kernel
theorem dX8_tiedLength_65 : decode cX8_tiedLength 65 = .ok (.baload, 1) := by decide +kernel
theorem dX8_tiedLength_66 : decode cX8_tiedLength 66 = .ok (.ifCond .ne 5, 3) := by decide +kernel
theorem dX8_tiedLength_69 : decode cX8_tiedLength 69 = .ok (.lload_n 2, 1) := by decide +kernel
theorem dX8_tiedLength_70 : decode cX8_tiedLength 70 = .ok (.lreturn, 1) := by decide +kernel
theorem dX8_tiedLength_71 : decode cX8_tiedLength 71 = .ok (.iinc 4 1, 3) := by decide +kernel
theorem dX8_tiedLength_74 : decode cX8_tiedLength 74 = .ok (.goto (-50), 3) := by decide +kernel
theorem dX8_tiedLength_77 : decode cX8_tiedLength 77 = .ok (.lload_n 2, 1) := by decide +kernel
theorem dX8_tiedLength_78 : decode cX8_tiedLength 78 = .ok (.lreturn, 1) := by decide +kernel
abbrev rm_X8_tiedLength : Room := { frames := 1, cells := 0, slots := 0, locals := 21 }
def wp_X8_tiedLength (a : Nat) (p1 : Int32) (S : PS) (Q : Int64 → PS → Prop) : Prop :=
  wp_X8_holds a p1 S (fun (r2 : Int32) (S1 : PS) => 
 (if r2 = 0 then
 Q 0 S1
 else
 (∃ b3, fR S1 76 a = some b3 ∧ (vp_in p1 (aN S1 b3) ∧ (if aI S1 33 b3 (p1).toNatClampNeg = 0 then
 (∀ P24_4 : Int64 → Int32 → PS → Prop, (∀ (x2_5 : Int64) (x4_6 : Int32) (S7 : PS),
 (if fI S7 70 a ≤ x4_6 then
 Q x2_5 S7
 else
 (∃ b8, fR S7 71 a = some b8 ∧ (vp_in x4_6 (aN S7 b8) ∧ (∃ b9, fR S7 71 a = some b9 ∧ (vp_in p1 (aN S7 b9) ∧ (∀ K71_12 : Int64 → PS → Prop, (∀ (x2_10 : Int64) (S11 : PS),
 (∀ v13, v13 = x4_6 + 1 → P24_4 x2_10 v13 S11)
 → K71_12 x2_10 S11) →
 (if aI S7 28 b8 (x4_6).toNatClampNeg = aI S7 28 b9 (p1).toNatClampNeg then
 (∃ b14, fR S7 73 a = some b14 ∧ (vp_in x4_6 (aN S7 b14) ∧ (∀ v15, v15 = x2_5 + (aL S7 30 b14 (x4_6).toNatClampNeg) → (∃ b16, fR S7 75 a = some b16 ∧ (vp_in x4_6 (aN S7 b16) ∧ (if aI S7 32 b16 (x4_6).toNatClampNeg = 0 then
 Q v15 S7
 else
 K71_12 v15 S7))))))
 else
 K71_12 x2_5 S7)))))))
 → P24_4 x2_5 x4_6 S7) → P24_4 0 p1 S1)
 else
 Q 0 S1)))))
set_option maxRecDepth 100000 in
set_option maxHeartbeats 4000000 in
theorem c_X8_tiedLength {l : Launch} {E : EE} {A : Nat → Prop} {a : Nat} {p1 : Int32} {S : PS} {Q : Int64 → PS → Prop} (r_a : Rf S a 7) (h : wp_X8_tiedLength a p1 S Q) : MtL l yX8_tiedLength (.code yX8_tiedLength cX8_tiedLength 5 (some .long)) rm_X8_tiedLength E A [.ref a, .int p1] S Q := by
  refine MtL.of (by decide) (Nat.le_of_ble_eq_true rfl) (fun X F hQ hN => ?_)
  show VV X (0, 0) S [(0, .ref a), (1, .int p1)] [] 0
  unfold wp_X8_tiedLength at h
  refine v_aload_n F dX8_tiedLength_0 0 rfl rfl ?_
  refine v_iload_n F dX8_tiedLength_1 1 rfl rfl ?_
  refine v_cI0 (v_runV F k_X8_92 rfl (c_X8_holds r_a h) r_a rfl rfl (Nat.le_of_ble_eq_true rfl) (by decide) (by decide) dX8_tiedLength_2) ⟨rfl, rfl⟩ (fun r2 S1 h hE => ?_)
  obtain ⟨nz_r2, h⟩ := h
  have r_a := r_a.tr hE
  refine v_if_eq (tgt := 17) F dX8_tiedLength_5 (by decide) h (fun h => ?_) (fun h => ?_)
  · refine v_lconst (v := 0) F dX8_tiedLength_17 (by decide) ?_
    exact v_lret F hQ h (by decide) dX8_tiedLength_18
  · refine v_aload_n F dX8_tiedLength_8 0 rfl rfl ?_
    refine g_X8_33 F r_a h dX8_tiedLength_9 (fun b3 r_b3 h => ?_)
    refine v_iload_n F dX8_tiedLength_12 1 rfl rfl ?_
    refine v_zald F r_b3 o_33 h dX8_tiedLength_13 (fun h => ?_)
    refine v_if_eq (tgt := 19) F dX8_tiedLength_14 (by decide) h (fun h => ?_) (fun h => ?_)
    · refine v_lconst (v := 0) F dX8_tiedLength_19 (by decide) ?_
      refine v_lstore_n (lv1 := [(2, .long 0), (0, .ref a), (1, .int p1)]) F dX8_tiedLength_20 rfl (by rw [hN]; decide) rfl ?_
      refine v_iload_n F dX8_tiedLength_21 2 rfl rfl ?_
      refine v_istore (lv1 := [(4, .int p1), (2, .long 0), (0, .ref a), (1, .int p1)]) F dX8_tiedLength_22 (by rw [hN]; decide) rfl ?_
      refine v_sub [2, 3, 1, 0] rfl ?_
      refine h (fun (x2_5 : Int64) (x4_6 : Int32) (S7 : PS) => Rf S7 a 7 → VV X (0, 0) S7 [(0, .ref a), (1, .int p1), (2, .long x2_5), (4, .int x4_6)] [] 24) (fun x2_5 x4_6 S7 h r_a => ?_) r_a
      refine v_iload F dX8_tiedLength_24 3 rfl ?_
      refine v_aload_n F dX8_tiedLength_26 0 rfl rfl ?_
      refine g_X8_68 F r_a dX8_tiedLength_27 ?_
      refine v_icmp_ge (tgt := 77) F dX8_tiedLength_30 (by decide) h (fun h => ?_) (fun h => ?_)
      · refine v_lload_n F dX8_tiedLength_77 2 rfl rfl ?_
        exact v_lret F hQ h (by decide) dX8_tiedLength_78
      · refine v_aload_n F dX8_tiedLength_33 0 rfl rfl ?_
        refine g_X8_15 F r_a h dX8_tiedLength_34 (fun b8 r_b8 h => ?_)
        refine v_iload F dX8_tiedLength_37 3 rfl ?_
        refine v_iald F r_b8 o_28 h dX8_tiedLength_39 (fun h => ?_)
        refine v_aload_n F dX8_tiedLength_40 0 rfl rfl ?_
        refine g_X8_15 F r_a h dX8_tiedLength_41 (fun b9 r_b9 h => ?_)
        refine v_iload_n F dX8_tiedLength_44 1 rfl rfl ?_
        refine v_iald F r_b9 o_28 h dX8_tiedLength_45 (fun h => ?_)
        have h := h (fun (x2_10 : Int64) (S11 : PS) => Rf S11 a 7 → VV X (0, 0) S11 [(0, .ref a), (1, .int p1), (2, .long x2_10), (4, .int x4_6)] [] 71) (by
          intro x2_10 S11 h r_a
          obtain ⟨v13, e_v13⟩ : ∃ y : Int32, y = x4_6 + 1 := ⟨_, rfl⟩
          have h := h v13 e_v13
          refine v_iinc (v := v13) (lv1 := [(4, .int v13), (0, .ref a), (1, .int p1), (2, .long x2_10)]) F dX8_tiedLength_71 (q := 3) rfl (by rw [e_v13]; rfl) (by rw [hN]; decide) rfl ?_
          refine v_goto (tgt := 24) F dX8_tiedLength_74 (by decide) ?_
          exact v_sub [1, 2, 3, 0] rfl (h r_a))
        refine v_icmp_ne (tgt := 71) F dX8_tiedLength_46 (by decide) h (fun h => ?_) (fun h => ?_)
        · exact v_sub [0, 1, 2, 3] rfl (h r_a)
        · refine v_lload_n F dX8_tiedLength_49 2 rfl rfl ?_
          refine v_aload_n F dX8_tiedLength_50 0 rfl rfl ?_
          refine g_X8_23 F r_a h dX8_tiedLength_51 (fun b14 r_b14 h => ?_)
          refine v_iload F dX8_tiedLength_54 3 rfl ?_
          refine v_lald F r_b14 o_30 h dX8_tiedLength_56 (fun h => ?_)
          refine v_ladd F dX8_tiedLength_57 ?_
          refine v_topl (fun v15 e_v15 => ?_)
          have h := h v15 e_v15
          refine v_lstore_n (lv1 := [(2, .long v15), (0, .ref a), (1, .int p1), (4, .int x4_6)]) F dX8_tiedLength_58 rfl (by rw [hN]; decide) rfl ?_
          refine v_aload_n F dX8_tiedLength_59 1 rfl rfl ?_
          refine g_X8_29 F r_a h dX8_tiedLength_60 (fun b16 r_b16 h => ?_)
          refine v_iload F dX8_tiedLength_63 3 rfl ?_
          refine v_zald F r_b16 o_32 h dX8_tiedLength_65 (fun h => ?_)
          refine v_if_ne (tgt := 71) F dX8_tiedLength_66 (by decide) h (fun h => ?_) (fun h => ?_)
          · exact v_sub [1, 2, 0, 3] rfl (h r_a)
          · refine v_lload_n F dX8_tiedLength_69 0 rfl rfl ?_
            exact v_lret F hQ h (by decide) dX8_tiedLength_70
    · refine v_lconst (v := 0) F dX8_tiedLength_17 (by decide) ?_
      exact v_lret F hQ h (by decide) dX8_tiedLength_18
theorem dX8_countBegun_0 : decode cX8_countBegun 0 = .ok (.iconst 0, 1) := by decide +kernel
theorem dX8_countBegun_1 : decode cX8_countBegun 1 = .ok (.istore 5, 2) := by decide +kernel
theorem dX8_countBegun_3 : decode cX8_countBegun 3 = .ok (.iconst 0, 1) := by decide +kernel
theorem dX8_countBegun_4 : decode cX8_countBegun 4 = .ok (.istore 6, 2) := by decide +kernel
theorem dX8_countBegun_6 : decode cX8_countBegun 6 = .ok (.iload 6, 2) := by decide +kernel
theorem dX8_countBegun_8 : decode cX8_countBegun 8 = .ok (.aload_n 0, 1) := by decide +kernel
theorem dX8_countBegun_9 : decode cX8_countBegun 9 = .ok (.getfield 68, 3) := by decide +kernel
theorem dX8_countBegun_12 : decode cX8_countBegun 12 = .ok (.if_icmp .ge 36, 3) := by decide +kernel
theorem dX8_countBegun_15 : decode cX8_countBegun 15 = .ok (.aload_n 0, 1) := by decide +kernel
theorem dX8_countBegun_16 : decode cX8_countBegun 16 = .ok (.getfield 19, 3) := by decide +kernel
theorem dX8_countBegun_19 : decode cX8_countBegun 19 = .ok (.iload 6, 2) := by decide +kernel
theorem dX8_countBegun_21 : decode cX8_countBegun 21 = .ok (.laload, 1) := by decide +kernel
theorem dX8_countBegun_22 : decode cX8_countBegun 22 = .ok (.lload_n 1, 1) := by decide +kernel
theorem dX8_countBegun_23 : decode cX8_countBegun 23 = .ok (.lcmp, 1) := by decide +kernel
theorem dX8_countBegun_24 : decode cX8_countBegun 24 = .ok (.ifCond .lt 18, 3) := by decide +kernel
theorem dX8_countBegun_27 : decode cX8_countBegun 27 = .ok (.aload_n 0, 1) := by decide +kernel
theorem dX8_countBegun_28 : decode cX8_countBegun 28 = .ok (.getfield 19, 3) := by decide +kernel
theorem dX8_countBegun_31 : decode cX8_countBegun 31 = .ok (.iload 6, 2) := by decide +kernel
theorem dX8_countBegun_33 : decode cX8_countBegun 33 = .ok (.laload, 1) := by decide +kernel
theorem dX8_countBegun_34 : decode cX8_countBegun 34 = .ok (.lload_n 3, 1) := by decide +kernel
theorem dX8_countBegun_35 : decode cX8_countBegun 35 = .ok (.lcmp, 1) := by decide +kernel
theorem dX8_countBegun_36 : decode cX8_countBegun 36 = .ok (.ifCond .ge 6, 3) := by decide +kernel
theorem dX8_countBegun_39 : decode cX8_countBegun 39 = .ok (.iinc 5 1, 3) := by decide +kernel
theorem dX8_countBegun_42 : decode cX8_countBegun 42 = .ok (.iinc 6 1, 3) := by decide +kernel
theorem dX8_countBegun_45 : decode cX8_countBegun 45 = .ok (.goto (-39), 3) := by decide +kernel
theorem dX8_countBegun_48 : decode cX8_countBegun 48 = .ok (.iload 5, 2) := by decide +kernel
theorem dX8_countBegun_50 : decode cX8_countBegun 50 = .ok (.ireturn, 1) := by decide +kernel
abbrev rm_X8_countBegun : Room := { frames := 0, cells := 0, slots := 0, locals := 0 }
def wp_X8_countBegun (a : Nat) (p1 : Int64) (p2 : Int64) (S : PS) (Q : Int32 → PS → Prop) : Prop :=
  (∀ P6_1 : Int32 → Int32 → PS → Prop, (∀ (x5_2 : Int32) (x6_3 : Int32) (S4 : PS),
 (if fI S4 70 a ≤ x6_3 then
 Q x5_2 S4
 else
 (∃ b5, fR S4 72 a = some b5 ∧ (vp_in x6_3 (aN S4 b5) ∧ (∀ K42_8 : Int32 → PS → Prop, (∀ (x5_6 : Int32) (S7 : PS),
 (∀ v9, v9 = x6_3 + 1 → P6_1 x5_6 v9 S7)
 → K42_8 x5_6 S7) →
 (if aL S4 29 b5 (x6_3).toNatClampNeg < p1 then
 K42_8 x5_2 S4
 else
 (∃ b10, fR S4 72 a = some b10 ∧ (vp_in x6_3 (aN S4 b10) ∧ (if p2 ≤ aL S4 29 b10 (x6_3).toNatClampNeg then
 K42_8 x5_2 S4
 else
 (∀ v11, v11 = x5_2 + 1 → K42_8 v11 S4)))))))))
 → P6_1 x5_2 x6_3 S4) → P6_1 0 0 S)
set_option maxRecDepth 100000 in
set_option maxHeartbeats 4000000 in
theorem c_X8_countBegun {l : Launch} {E : EE} {A : Nat → Prop} {a : Nat} {p1 : Int64} {p2 : Int64} {S : PS} {Q : Int32 → PS → Prop} (r_a : Rf S a 7) (h : wp_X8_countBegun a p1 p2 S Q) : MtI l yX8_countBegun (.code yX8_countBegun cX8_countBegun 7 (some .int)) rm_X8_countBegun E A [.ref a, .long p1, .long p2] S Q := by
  refine MtI.of (by decide) (Nat.le_of_ble_eq_true rfl) (fun X F hQ hN => ?_)
  show VV X (0, 0) S [(0, .ref a), (1, .long p1), (3, .long p2)] [] 0
  unfold wp_X8_countBegun at h
  refine v_iconst (v := 0) F dX8_countBegun_0 (by decide) ?_
  refine v_istore (lv1 := [(5, .int 0), (0, .ref a), (1, .long p1), (3, .long p2)]) F dX8_countBegun_1 (by rw [hN]; decide) rfl ?_
  refine v_iconst (v := 0) F dX8_countBegun_3 (by decide) ?_
  refine v_istore (lv1 := [(6, .int 0), (5, .int 0), (0, .ref a), (1, .long p1), (3, .long p2)]) F dX8_countBegun_4 (by rw [hN]; decide) rfl ?_
  refine v_sub [2, 3, 4, 1, 0] rfl ?_
  refine h (fun (x5_2 : Int32) (x6_3 : Int32) (S4 : PS) => Rf S4 a 7 → VV X (0, 0) S4 [(0, .ref a), (1, .long p1), (3, .long p2), (5, .int x5_2), (6, .int x6_3)] [] 6) (fun x5_2 x6_3 S4 h r_a => ?_) r_a
  refine v_iload F dX8_countBegun_6 4 rfl ?_
  refine v_aload_n F dX8_countBegun_8 0 rfl rfl ?_
  refine g_X8_68 F r_a dX8_countBegun_9 ?_
  refine v_icmp_ge (tgt := 48) F dX8_countBegun_12 (by decide) h (fun h => ?_) (fun h => ?_)
  · refine v_iload F dX8_countBegun_48 3 rfl ?_
    exact v_iret F hQ h (by decide) dX8_countBegun_50
  · refine v_aload_n F dX8_countBegun_15 0 rfl rfl ?_
    refine g_X8_19 F r_a h dX8_countBegun_16 (fun b5 r_b5 h => ?_)
    refine v_iload F dX8_countBegun_19 4 rfl ?_
    refine v_lald F r_b5 o_29 h dX8_countBegun_21 (fun h => ?_)
    refine v_lload_n F dX8_countBegun_22 1 rfl rfl ?_
    have h := h (fun (x5_6 : Int32) (S7 : PS) => Rf S7 a 7 → VV X (0, 0) S7 [(0, .ref a), (1, .long p1), (3, .long p2), (5, .int x5_6), (6, .int x6_3)] [] 42) (by
      intro x5_6 S7 h r_a
      obtain ⟨v9, e_v9⟩ : ∃ y : Int32, y = x6_3 + 1 := ⟨_, rfl⟩
      have h := h v9 e_v9
      refine v_iinc (v := v9) (lv1 := [(6, .int v9), (0, .ref a), (1, .long p1), (3, .long p2), (5, .int x5_6)]) F dX8_countBegun_42 (q := 4) rfl (by rw [e_v9]; rfl) (by rw [hN]; decide) rfl ?_
      refine v_goto (tgt := 6) F dX8_countBegun_45 (by decide) ?_
      exact v_sub [1, 2, 3, 4, 0] rfl (h r_a))
    refine v_lcmp_lt (tgt := 42) F dX8_countBegun_23 dX8_countBegun_24 (by decide) h (fun h => ?_) (fun h => ?_)
    · exact v_sub [0, 1, 2, 3, 4] rfl (h r_a)
    · refine v_aload_n F dX8_countBegun_27 0 rfl rfl ?_
      refine g_X8_19 F r_a h dX8_countBegun_28 (fun b10 r_b10 h => ?_)
      refine v_iload F dX8_countBegun_31 4 rfl ?_
      refine v_lald F r_b10 o_29 h dX8_countBegun_33 (fun h => ?_)
      refine v_lload_n F dX8_countBegun_34 2 rfl rfl ?_
      refine v_lcmp_ge (tgt := 42) F dX8_countBegun_35 dX8_countBegun_36 (by decide) h (fun h => ?_) (fun h => ?_)
      · exact v_sub [0, 1, 2, 3, 4] rfl (h r_a)
      · obtain ⟨v11, e_v11⟩ : ∃ y : Int32, y = x5_2 + 1 := ⟨_, rfl⟩
        have h := h v11 e_v11
        refine v_iinc (v := v11) (lv1 := [(5, .int v11), (0, .ref a), (1, .long p1), (3, .long p2), (6, .int x6_3)]) F dX8_countBegun_39 (q := 3) rfl (by rw [e_v11]; rfl) (by rw [hN]; decide) rfl ?_
        exact v_sub [1, 2, 3, 0, 4] rfl (h r_a)
theorem dX8_sounding_0 : decode cX8_sounding 0 = .ok (.iconst 0, 1) := by decide +kernel
theorem dX8_sounding_1 : decode cX8_sounding 1 = .ok (.istore 6, 2) := by decide +kernel
theorem dX8_sounding_3 : decode cX8_sounding 3 = .ok (.iload 6, 2) := by decide +kernel
theorem dX8_sounding_5 : decode cX8_sounding 5 = .ok (.aload_n 0, 1) := by decide +kernel
theorem dX8_sounding_6 : decode cX8_sounding 6 = .ok (.getfield 68, 3) := by decide +kernel
theorem dX8_sounding_9 : decode cX8_sounding 9 = .ok (.if_icmp .ge 61, 3) := by decide +kernel
theorem dX8_sounding_12 : decode cX8_sounding 12 = .ok (.aload_n 0, 1) := by decide +kernel
theorem dX8_sounding_13 : decode cX8_sounding 13 = .ok (.getfield 15, 3) := by decide +kernel
theorem dX8_sounding_16 : decode cX8_sounding 16 = .ok (.iload 6, 2) := by decide +kernel
theorem dX8_sounding_18 : decode cX8_sounding 18 = .ok (.iaload, 1) := by decide +kernel
theorem dX8_sounding_19 : decode cX8_sounding 19 = .ok (.iload_n 1, 1) := by decide +kernel
theorem dX8_sounding_20 : decode cX8_sounding 20 = .ok (.if_icmp .ne 44, 3) := by decide +kernel
theorem dX8_sounding_23 : decode cX8_sounding 23 = .ok (.aload_n 0, 1) := by decide +kernel
theorem dX8_sounding_24 : decode cX8_sounding 24 = .ok (.getfield 19, 3) := by decide +kernel
theorem dX8_sounding_27 : decode cX8_sounding 27 = .ok (.iload 6, 2) := by decide +kernel
theorem dX8_sounding_29 : decode cX8_sounding 29 = .ok (.laload, 1) := by decide +kernel
theorem dX8_sounding_30 : decode cX8_sounding 30 = .ok (.lload 4, 2) := by decide +kernel
theorem dX8_sounding_32 : decode cX8_sounding 32 = .ok (.lmul, 1) := by decide +kernel
theorem dX8_sounding_33 : decode cX8_sounding 33 = .ok (.lload_n 2, 1) := by decide +kernel
theorem dX8_sounding_34 : decode cX8_sounding 34 = .ok (.lcmp, 1) := by decide +kernel
theorem dX8_sounding_35 : decode cX8_sounding 35 = .ok (.ifCond .gt 29, 3) := by decide +kernel
theorem dX8_sounding_38 : decode cX8_sounding 38 = .ok (.lload_n 2, 1) := by decide +kernel
theorem dX8_sounding_39 : decode cX8_sounding 39 = .ok (.aload_n 0, 1) := by decide +kernel
theorem dX8_sounding_40 : decode cX8_sounding 40 = .ok (.getfield 19, 3) := by decide +kernel
theorem dX8_sounding_43 : decode cX8_sounding 43 = .ok (.iload 6, 2) := by decide +kernel
theorem dX8_sounding_45 : decode cX8_sounding 45 = .ok (.laload, 1) := by decide +kernel
theorem dX8_sounding_46 : decode cX8_sounding 46 = .ok (.aload_n 0, 1) := by decide +kernel
theorem dX8_sounding_47 : decode cX8_sounding 47 = .ok (.getfield 23, 3) := by decide +kernel
theorem dX8_sounding_50 : decode cX8_sounding 50 = .ok (.iload 6, 2) := by decide +kernel
theorem dX8_sounding_52 : decode cX8_sounding 52 = .ok (.laload, 1) := by decide +kernel
theorem dX8_sounding_53 : decode cX8_sounding 53 = .ok (.ladd, 1) := by decide +kernel
theorem dX8_sounding_54 : decode cX8_sounding 54 = .ok (.lload 4, 2) := by decide +kernel
theorem dX8_sounding_56 : decode cX8_sounding 56 = .ok (.lmul, 1) := by decide +kernel
theorem dX8_sounding_57 : decode cX8_sounding 57 = .ok (.lcmp, 1) := by decide +kernel
theorem dX8_sounding_58 : decode cX8_sounding 58 = .ok (.ifCond .ge 6, 3) := by decide +kernel
theorem dX8_sounding_61 : decode cX8_sounding 61 = .ok (.iload 6, 2) := by decide +kernel
theorem dX8_sounding_63 : decode cX8_sounding 63 = .ok (.ireturn, 1) := by decide +kernel
theorem dX8_sounding_64 : decode cX8_sounding 64 = .ok (.iinc 6 1, 3) := by decide +kernel
theorem dX8_sounding_67 : decode cX8_sounding 67 = .ok (.goto (-64), 3) := by decide +kernel
theorem dX8_sounding_70 : decode cX8_sounding 70 = .ok (.iconst (-1), 1) := by decide +kernel
theorem dX8_sounding_71 : decode cX8_sounding 71 = .ok (.ireturn, 1) := by decide +kernel
abbrev rm_X8_sounding : Room := { frames := 0, cells := 0, slots := 0, locals := 0 }
def wp_X8_sounding (a : Nat) (p1 : Int32) (p2 : Int64) (p3 : Int64) (S : PS) (Q : Int32 → PS → Prop) : Prop :=
  (∀ P3_1 : Int32 → PS → Prop, (∀ (x6_2 : Int32) (S3 : PS),
 (if fI S3 70 a ≤ x6_2 then
 Q (-1) S3
 else
 (∃ b4, fR S3 71 a = some b4 ∧ (vp_in x6_2 (aN S3 b4) ∧ (∀ K64_6 : PS → Prop, (∀ (S5 : PS),
 (∀ v7, v7 = x6_2 + 1 → P3_1 v7 S5)
 → K64_6 S5) →
 (if aI S3 28 b4 (x6_2).toNatClampNeg = p1 then
 (∃ b8, fR S3 72 a = some b8 ∧ (vp_in x6_2 (aN S3 b8) ∧ (if p2 < (aL S3 29 b8 (x6_2).toNatClampNeg) * p3 then
 K64_6 S3
 else
 (∃ b9, fR S3 72 a = some b9 ∧ (vp_in x6_2 (aN S3 b9) ∧ (∃ b10, fR S3 73 a = some b10 ∧ (vp_in x6_2 (aN S3 b10) ∧ (if ((aL S3 29 b9 (x6_2).toNatClampNeg) + (aL S3 30 b10 (x6_2).toNatClampNeg)) * p3 ≤ p2 then
 K64_6 S3
 else
 Q x6_2 S3))))))))
 else
 K64_6 S3)))))
 → P3_1 x6_2 S3) → P3_1 0 S)
set_option maxRecDepth 100000 in
set_option maxHeartbeats 4000000 in
theorem c_X8_sounding {l : Launch} {E : EE} {A : Nat → Prop} {a : Nat} {p1 : Int32} {p2 : Int64} {p3 : Int64} {S : PS} {Q : Int32 → PS → Prop} (r_a : Rf S a 7) (h : wp_X8_sounding a p1 p2 p3 S Q) : MtI l yX8_sounding (.code yX8_sounding cX8_sounding 7 (some .int)) rm_X8_sounding E A [.ref a, .int p1, .long p2, .long p3] S Q := by
  refine MtI.of (by decide) (Nat.le_of_ble_eq_true rfl) (fun X F hQ hN => ?_)
  show VV X (0, 0) S [(0, .ref a), (1, .int p1), (2, .long p2), (4, .long p3)] [] 0
  unfold wp_X8_sounding at h
  refine v_iconst (v := 0) F dX8_sounding_0 (by decide) ?_
  refine v_istore (lv1 := [(6, .int 0), (0, .ref a), (1, .int p1), (2, .long p2), (4, .long p3)]) F dX8_sounding_1 (by rw [hN]; decide) rfl ?_
  refine v_sub [1, 2, 3, 4, 0] rfl ?_
  refine h (fun (x6_2 : Int32) (S3 : PS) => Rf S3 a 7 → VV X (0, 0) S3 [(0, .ref a), (1, .int p1), (2, .long p2), (4, .long p3), (6, .int x6_2)] [] 3) (fun x6_2 S3 h r_a => ?_) r_a
  refine v_iload F dX8_sounding_3 4 rfl ?_
  refine v_aload_n F dX8_sounding_5 0 rfl rfl ?_
  refine g_X8_68 F r_a dX8_sounding_6 ?_
  refine v_icmp_ge (tgt := 70) F dX8_sounding_9 (by decide) h (fun h => ?_) (fun h => ?_)
  · refine v_iconst (v := (-1)) F dX8_sounding_70 (by decide) ?_
    exact v_iret F hQ h (by decide) dX8_sounding_71
  · refine v_aload_n F dX8_sounding_12 0 rfl rfl ?_
    refine g_X8_15 F r_a h dX8_sounding_13 (fun b4 r_b4 h => ?_)
    refine v_iload F dX8_sounding_16 4 rfl ?_
    refine v_iald F r_b4 o_28 h dX8_sounding_18 (fun h => ?_)
    refine v_iload_n F dX8_sounding_19 1 rfl rfl ?_
    have h := h (fun (S5 : PS) => Rf S5 a 7 → VV X (0, 0) S5 [(0, .ref a), (1, .int p1), (2, .long p2), (4, .long p3), (6, .int x6_2)] [] 64) (by
      intro S5 h r_a
      obtain ⟨v7, e_v7⟩ : ∃ y : Int32, y = x6_2 + 1 := ⟨_, rfl⟩
      have h := h v7 e_v7
      refine v_iinc (v := v7) (lv1 := [(6, .int v7), (0, .ref a), (1, .int p1), (2, .long p2), (4, .long p3)]) F dX8_sounding_64 (q := 4) rfl (by rw [e_v7]; rfl) (by rw [hN]; decide) rfl ?_
      refine v_goto (tgt := 3) F dX8_sounding_67 (by decide) ?_
      exact v_sub [1, 2, 3, 4, 0] rfl (h r_a))
    refine v_icmp_ne (tgt := 64) F dX8_sounding_20 (by decide) h (fun h => ?_) (fun h => ?_)
    · exact v_sub [0, 1, 2, 3, 4] rfl (h r_a)
    · refine v_aload_n F dX8_sounding_23 0 rfl rfl ?_
      refine g_X8_19 F r_a h dX8_sounding_24 (fun b8 r_b8 h => ?_)
      refine v_iload F dX8_sounding_27 4 rfl ?_
      refine v_lald F r_b8 o_29 h dX8_sounding_29 (fun h => ?_)
      refine v_lload F dX8_sounding_30 3 rfl ?_
      refine v_lmul F dX8_sounding_32 ?_
      refine v_lload_n F dX8_sounding_33 2 rfl rfl ?_
      refine v_lcmp_gt (tgt := 64) F dX8_sounding_34 dX8_sounding_35 (by decide) h (fun h => ?_) (fun h => ?_)
      · exact v_sub [0, 1, 2, 3, 4] rfl (h r_a)
      · refine v_lload_n F dX8_sounding_38 2 rfl rfl ?_
        refine v_aload_n F dX8_sounding_39 0 rfl rfl ?_
        refine g_X8_19 F r_a h dX8_sounding_40 (fun b9 r_b9 h => ?_)
        refine v_iload F dX8_sounding_43 4 rfl ?_
        refine v_lald F r_b9 o_29 h dX8_sounding_45 (fun h => ?_)
        refine v_aload_n F dX8_sounding_46 0 rfl rfl ?_
        refine g_X8_23 F r_a h dX8_sounding_47 (fun b10 r_b10 h => ?_)
        refine v_iload F dX8_sounding_50 4 rfl ?_
        refine v_lald F r_b10 o_30 h dX8_sounding_52 (fun h => ?_)
        refine v_ladd F dX8_sounding_53 ?_
        refine v_lload F dX8_sounding_54 3 rfl ?_
        refine v_lmul F dX8_sounding_56 ?_
        refine v_lcmp_ge (tgt := 64) F dX8_sounding_57 dX8_sounding_58 (by decide) h (fun h => ?_) (fun h => ?_)
        · exact v_sub [0, 1, 2, 3, 4] rfl (h r_a)
        · refine v_iload F dX8_sounding_61 4 rfl ?_
          exact v_iret F hQ h (by decide) dX8_sounding_63
