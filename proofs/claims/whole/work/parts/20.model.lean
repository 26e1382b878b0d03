theorem dX12_thrown_0 : decode cX12_thrown 0 = .ok (.aload_n 0, 1) := by decide +kernel
theorem dX12_thrown_1 : decode cX12_thrown 1 = .ok (.getfield 1, 3) := by decide +kernel
theorem dX12_thrown_4 : decode cX12_thrown 4 = .ok (.ireturn, 1) := by decide +kernel
abbrev rm_X12_thrown : Room := { frames := 0, cells := 0, slots := 0, locals := 0 }
def wp_X12_thrown (a : Nat) (S : PS) (Q : Int32 → PS → Prop) : Prop :=
  Q (fI S 96 a) S
set_option maxRecDepth 100000 in
set_option maxHeartbeats 4000000 in
theorem c_X12_thrown {l : Launch} {E : EE} {A : Nat → Prop} {a : Nat} {S : PS} {Q : Int32 → PS → Prop} (r_a : Rf S a 9) (h : wp_X12_thrown a S Q) : MtI l yX12_thrown (.code yX12_thrown cX12_thrown 1 (some .int)) rm_X12_thrown E A [.ref a] S Q := by
  refine MtI.of (by decide) (Nat.le_of_ble_eq_true rfl) (fun X F hQ hN => ?_)
  show VV X (0, 0) S [(0, .ref a)] [] 0
  unfold wp_X12_thrown at h
  refine v_aload_n F dX12_thrown_0 0 rfl rfl ?_
  refine g_X12_1 F r_a dX12_thrown_1 ?_
  exact v_iret F hQ h (by decide) dX12_thrown_4
theorem dX12_in_0 : decode cX12_in 0 = .ok (.lload_n 0, 1) := by decide +kernel
theorem dX12_in_1 : decode cX12_in 1 = .ok (.lload_n 2, 1) := by decide +kernel
theorem dX12_in_2 : decode cX12_in 2 = .ok (.lcmp, 1) := by decide +kernel
theorem dX12_in_3 : decode cX12_in 3 = .ok (.ifCond .lt 14, 3) := by decide +kernel
theorem dX12_in_6 : decode cX12_in 6 = .ok (.lload_n 0, 1) := by decide +kernel
theorem dX12_in_7 : decode cX12_in 7 = .ok (.lload 4, 2) := by decide +kernel
theorem dX12_in_9 : decode cX12_in 9 = .ok (.lcmp, 1) := by decide +kernel
theorem dX12_in_10 : decode cX12_in 10 = .ok (.ifCond .gt 7, 3) := by decide +kernel
theorem dX12_in_13 : decode cX12_in 13 = .ok (.iconst 1, 1) := by decide +kernel
theorem dX12_in_14 : decode cX12_in 14 = .ok (.goto 4, 3) := by decide +kernel
theorem dX12_in_17 : decode cX12_in 17 = .ok (.iconst 0, 1) := by decide +kernel
theorem dX12_in_18 : decode cX12_in 18 = .ok (.ireturn, 1) := by decide +kernel
abbrev rm_X12_in : Room := { frames := 0, cells := 0, slots := 0, locals := 0 }
def wp_X12_in (p1 : Int64) (p2 : Int64) (p3 : Int64) (S : PS) (Q : Int32 → PS → Prop) : Prop :=
  (if p1 < p2 then
 Q 0 S
 else
 (if p3 < p1 then
 Q 0 S
 else
 Q 1 S))
set_option maxRecDepth 100000 in
set_option maxHeartbeats 4000000 in
theorem c_X12_in {l : Launch} {E : EE} {A : Nat → Prop} {p1 : Int64} {p2 : Int64} {p3 : Int64} {S : PS} {Q : Int32 → PS → Prop} (h : wp_X12_in p1 p2 p3 S Q) : MtI l yX12_in (.code yX12_in cX12_in 6 (some .boolean)) rm_X12_in E A [.long p1, .long p2, .long p3] S (fun r S1 => nz r ∧ Q r S1) := by
  refine MtI.of (by decide) (Nat.le_of_ble_eq_true rfl) (fun X F hQ hN => ?_)
  show VV X (0, 0) S [(0, .long p1), (2, .long p2), (4, .long p3)] [] 0
  unfold wp_X12_in at h
  refine v_lload_n F dX12_in_0 0 rfl rfl ?_
  refine v_lload_n F dX12_in_1 1 rfl rfl ?_
  refine v_lcmp_lt (tgt := 17) F dX12_in_2 dX12_in_3 (by decide) h (fun h => ?_) (fun h => ?_)
  · refine v_iconst (v := 0) F dX12_in_17 (by decide) ?_
    exact v_zret F hQ (by decide) ⟨nz0, h⟩ (by decide) dX12_in_18
  · refine v_lload_n F dX12_in_6 0 rfl rfl ?_
    refine v_lload F dX12_in_7 2 rfl ?_
    refine v_lcmp_gt (tgt := 17) F dX12_in_9 dX12_in_10 (by decide) h (fun h => ?_) (fun h => ?_)
    · refine v_iconst (v := 0) F dX12_in_17 (by decide) ?_
      exact v_zret F hQ (by decide) ⟨nz0, h⟩ (by decide) dX12_in_18
    · refine v_iconst (v := 1) F dX12_in_13 (by decide) ?_
      refine v_goto (tgt := 18) F dX12_in_14 (by decide) ?_
      exact v_zret F hQ (by decide) ⟨nz1, h⟩ (by decide) dX12_in_18
theorem dX12_feed_0 : decode cX12_feed 0 = .ok (.aload_n 0, 1) := by decide +kernel
theorem dX12_feed_1 : decode cX12_feed 1 = .ok (.iconst 0, 1) := by decide +kernel
theorem dX12_feed_2 : decode cX12_feed 2 = .ok (.putfield 1, 3) := by decide +kernel
theorem dX12_feed_5 : decode cX12_feed 5 = .ok (.iload_n 3, 1) := by decide +kernel
theorem dX12_feed_6 : decode cX12_feed 6 = .ok (.i2l, 1) := by decide +kernel
theorem dX12_feed_7 : decode cX12_feed 7 = .ok (.lconst 1, 1) := by decide +kernel
theorem dX12_feed_8 : decode cX12_feed 8 = .ok (.ldc2_w 7, 3) := by decide +kernel
theorem dX12_feed_11 : decode cX12_feed 11 = .ok (.invokestatic 9, 3) := by decide +kernel
theorem dX12_feed_14 : decode cX12_feed 14 = .ok (.ifCond .ne 10, 3) := by decide +kernel
theorem dX12_feed_17 : decode cX12_feed 17 = .ok (.aload_n 0, 1) := by decide +kernel
theorem dX12_feed_18 : decode cX12_feed 18 = .ok (.iconst 1, 1) := by decide +kernel
theorem dX12_feed_19 : decode cX12_feed 19 = .ok (.putfield 1, 3) := by decide +kernel
theorem dX12_feed_22 : decode cX12_feed 22 = .ok (.iconst 0, 1) := by decide +kernel
theorem dX12_feed_23 : decode cX12_feed 23 = .ok (.ireturn, 1) := by decide +kernel
theorem dX12_feed_24 : decode cX12_feed 24 = .ok (.aload_n 0, 1) := by decide +kernel
theorem dX12_feed_25 : decode cX12_feed 25 = .ok (.getfield 13, 3) := by decide +kernel
theorem dX12_feed_28 : decode cX12_feed 28 = .ok (.iload_n 3, 1) := by decide +kernel
theorem dX12_feed_29 : decode cX12_feed 29 = .ok (.iadd, 1) := by decide +kernel
theorem dX12_feed_30 : decode cX12_feed 30 = .ok (.sipush 1500, 3) := by decide +kernel
theorem dX12_feed_33 : decode cX12_feed 33 = .ok (.if_icmp .le 10, 3) := by decide +kernel
theorem dX12_feed_36 : decode cX12_feed 36 = .ok (.aload_n 0, 1) := by decide +kernel
theorem dX12_feed_37 : decode cX12_feed 37 = .ok (.iconst 2, 1) := by decide +kernel
theorem dX12_feed_38 : decode cX12_feed 38 = .ok (.putfield 1, 3) := by decide +kernel
theorem dX12_feed_41 : decode cX12_feed 41 = .ok (.iconst 0, 1) := by decide +kernel
theorem dX12_feed_42 : decode cX12_feed 42 = .ok (.ireturn, 1) := by decide +kernel
theorem dX12_feed_43 : decode cX12_feed 43 = .ok (.iload_n 3, 1) := by decide +kernel
theorem dX12_feed_44 : decode cX12_feed 44 = .ok (.iconst 1, 1) := by decide +kernel
theorem dX12_feed_45 : decode cX12_feed 45 = .ok (.isub, 1) := by decide +kernel
theorem dX12_feed_46 : decode cX12_feed 46 = .ok (.istore 4, 2) := by decide +kernel
theorem dX12_feed_48 : decode cX12_feed 48 = .ok (.iload 4, 2) := by decide +kernel
theorem dX12_feed_50 : decode cX12_feed 50 = .ok (.ifCond .lt 37, 3) := by decide +kernel
theorem dX12_feed_53 : decode cX12_feed 53 = .ok (.aload_n 0, 1) := by decide +kernel
theorem dX12_feed_54 : decode cX12_feed 54 = .ok (.getfield 16, 3) := by decide +kernel
theorem dX12_feed_57 : decode cX12_feed 57 = .ok (.aload_n 0, 1) := by decide +kernel
theorem dX12_feed_58 : decode cX12_feed 58 = .ok (.getfield 13, 3) := by decide +kernel
theorem dX12_feed_61 : decode cX12_feed 61 = .ok (.lload_n 1, 1) := by decide +kernel
theorem dX12_feed_62 : decode cX12_feed 62 = .ok (.bipush 8, 2) := by decide +kernel
theorem dX12_feed_64 : decode cX12_feed 64 = .ok (.iload 4, 2) := by decide +kernel
theorem dX12_feed_66 : decode cX12_feed 66 = .ok (.imul, 1) := by decide +kernel
theorem dX12_feed_67 : decode cX12_feed 67 = .ok (.lshr, 1) := by decide +kernel
theorem dX12_feed_68 : decode cX12_feed 68 = .ok (.l2i, 1) := by decide +kernel
theorem dX12_feed_69 : decode cX12_feed 69 = .ok (.i2b, 1) := by decide +kernel
theorem dX12_feed_70 : decode cX12_feed 70 = .ok (.bastore, 1) := by decide +kernel
theorem dX12_feed_71 : decode cX12_feed 71 = .ok (.aload_n 0, 1) := by decide +kernel
theorem dX12_feed_72 : decode cX12_feed 72 = .ok (.dup, 1) := by decide +kernel
theorem dX12_feed_73 : decode cX12_feed 73 = .ok (.getfield 13, 3) := by decide +kernel
theorem dX12_feed_76 : decode cX12_feed 76 = .ok (.iconst 1, 1) := by decide +kernel
theorem dX12_feed_77 : decode cX12_feed 77 = .ok (.iadd, 1) := by decide +kernel
theorem dX12_feed_78 : decode cX12_feed 78 = .ok (.putfield 13, 3) := by decide +kernel
theorem dX12_feed_81 : decode cX12_feed 81 = .ok (.iinc 4 (-1), 3) := by decide +kernel
theorem dX12_feed_84 : decode cX12_feed 84 = .ok (.goto (-36), 3) := by decide +kernel
theorem dX12_feed_87 : decode cX12_feed 87 = .ok (.aload_n 0, 1) := by decide +kernel
theorem dX12_feed_88 : decode cX12_feed 88 = .ok (.getfield 13, 3) := by decide +kernel
theorem dX12_feed_91 : decode cX12_feed 91 = .ok (.ireturn, 1) := by decide +kernel
abbrev rm_X12_feed : Room := { frames := 1, cells := 0, slots := 0, locals := 25 }
def wp_X12_feed (a : Nat) (p1 : Int64) (p2 : Int32) (S : PS) (Q : Int32 → PS → Prop) : Prop :=
  (∀ S1, S1 = sI S 96 a 0 → wp_X12_in (p2.toInt64) 1 8 S1 (fun (r3 : Int32) (S2 : PS) => 
 (if r3 = 0 then
 (∀ S13, S13 = sI S2 96 a 1 → Q 0 S13)
 else
 (if (fI S2 98 a) + p2 ≤ 1500 then
 (∀ v4, v4 = p2 - 1 → (∀ P48_5 : Int32 → PS → Prop, (∀ (x4_6 : Int32) (S7 : PS),
 (if x4_6 < 0 then
 Q (fI S7 98 a) S7
 else
 (∃ b8, fR S7 97 a = some b8 ∧ (vp_in (fI S7 98 a) (aN S7 b8) ∧ ∀ S9, S9 = wI S7 40 b8 (fI S7 98 a).toNatClampNeg (vp_nar .byte (((p1 >>> ((((8 : Int32) * x4_6) : Int32).toInt64 &&& 63)).toInt32).toInt8.toInt32)) → (∀ S10, S10 = sI S9 98 a ((fI S9 98 a) + 1) → (∀ v11, v11 = x4_6 + (-1) → P48_5 v11 S10)))))
 → P48_5 x4_6 S7) → P48_5 v4 S2))
 else
 (∀ S12, S12 = sI S2 96 a 2 → Q 0 S12)))))
set_option maxRecDepth 100000 in
set_option maxHeartbeats 4000000 in
theorem c_X12_feed {l : Launch} {E : EE} {A : Nat → Prop} {a : Nat} {p1 : Int64} {p2 : Int32} {S : PS} {Q : Int32 → PS → Prop} (r_a : Rf S a 9) (h : wp_X12_feed a p1 p2 S Q) : MtI l yX12_feed (.code yX12_feed cX12_feed 5 (some .int)) rm_X12_feed E A [.ref a, .long p1, .int p2] S Q := by
  refine MtI.of (by decide) (Nat.le_of_ble_eq_true rfl) (fun X F hQ hN => ?_)
  show VV X (0, 0) S [(0, .ref a), (1, .long p1), (3, .int p2)] [] 0
  unfold wp_X12_feed at h
  refine v_aload_n F dX12_feed_0 0 rfl rfl ?_
  refine v_iconst (v := 0) F dX12_feed_1 (by decide) ?_
  refine p_X12_1 F r_a h dX12_feed_2 (fun S1 h hE => ?_)
  have r_a := r_a.tr hE
  refine v_iload_n F dX12_feed_5 2 rfl rfl ?_
  refine v_i2l F dX12_feed_6 ?_
  refine v_lconst (v := 1) F dX12_feed_7 (by decide) ?_
  refine v_ldc2 F kc_X12_7 dX12_feed_8 ?_
  refine v_cI0 (v_runS F k_X12_9 (c_X12_in h) rfl rfl (Nat.le_of_ble_eq_true rfl) (by decide) (by decide) dX12_feed_11) ⟨rfl, rfl⟩ (fun r3 S2 h hE => ?_)
  obtain ⟨nz_r3, h⟩ := h
  have r_a := r_a.tr hE
  refine v_if_ne (tgt := 24) F dX12_feed_14 (by decide) h (fun h => ?_) (fun h => ?_)
  · refine v_aload_n F dX12_feed_24 0 rfl rfl ?_
    refine g_X12_13 F r_a dX12_feed_25 ?_
    refine v_iload_n F dX12_feed_28 2 rfl rfl ?_
    refine v_iadd F dX12_feed_29 ?_
    refine v_sipush (v := 1500) F dX12_feed_30 (by decide) ?_
    refine v_icmp_le (tgt := 43) F dX12_feed_33 (by decide) h (fun h => ?_) (fun h => ?_)
    · refine v_iload_n F dX12_feed_43 2 rfl rfl ?_
      refine v_iconst (v := 1) F dX12_feed_44 (by decide) ?_
      refine v_isub F dX12_feed_45 ?_
      refine v_topi (fun v4 e_v4 => ?_)
      have h := h v4 e_v4
      refine v_istore (lv1 := [(4, .int v4), (0, .ref a), (1, .long p1), (3, .int p2)]) F dX12_feed_46 (by rw [hN]; decide) rfl ?_
      refine v_sub [1, 2, 0] rfl ?_
      refine h (fun (x4_6 : Int32) (S7 : PS) => Rf S7 a 9 → VV X (0, 0) S7 [(0, .ref a), (1, .long p1), (4, .int x4_6)] [] 48) (fun x4_6 S7 h r_a => ?_) r_a
      refine v_iload F dX12_feed_48 2 rfl ?_
      refine v_if_lt (tgt := 87) F dX12_feed_50 (by decide) h (fun h => ?_) (fun h => ?_)
      · refine v_aload_n F dX12_feed_87 0 rfl rfl ?_
        refine g_X12_13 F r_a dX12_feed_88 ?_
        exact v_iret F hQ h (by decide) dX12_feed_91
      · refine v_aload_n F dX12_feed_53 0 rfl rfl ?_
        refine g_X12_16 F r_a h dX12_feed_54 (fun b8 r_b8 h => ?_)
        refine v_aload_n F dX12_feed_57 0 rfl rfl ?_
        refine g_X12_13 F r_a dX12_feed_58 ?_
        refine v_lload_n F dX12_feed_61 1 rfl rfl ?_
        refine v_bipush (v := 8) F dX12_feed_62 (by decide) ?_
        refine v_iload F dX12_feed_64 2 rfl ?_
        refine v_imul F dX12_feed_66 ?_
        refine v_lshr F dX12_feed_67 ?_
        refine v_l2i F dX12_feed_68 ?_
        refine v_i2b F dX12_feed_69 ?_
        refine v_bast F r_b8 o_40 h dX12_feed_70 (fun S9 h hE => ?_)
        have r_a := r_a.tr hE
        refine v_aload_n F dX12_feed_71 0 rfl rfl ?_
        refine v_dup F dX12_feed_72 rfl ?_
        refine g_X12_13 F r_a dX12_feed_73 ?_
        refine v_iconst (v := 1) F dX12_feed_76 (by decide) ?_
        refine v_iadd F dX12_feed_77 ?_
        refine p_X12_13 F r_a h dX12_feed_78 (fun S10 h hE => ?_)
        have r_a := r_a.tr hE
        obtain ⟨v11, e_v11⟩ : ∃ y : Int32, y = x4_6 + (-1) := ⟨_, rfl⟩
        have h := h v11 e_v11
        refine v_iinc (v := v11) (lv1 := [(4, .int v11), (0, .ref a), (1, .long p1)]) F dX12_feed_81 (q := 2) rfl (by rw [e_v11]; rfl) (by rw [hN]; decide) rfl ?_
        refine v_goto (tgt := 48) F dX12_feed_84 (by decide) ?_
        exact v_sub [1, 2, 0] rfl (h r_a)
    · refine v_aload_n F dX12_feed_36 0 rfl rfl ?_
      refine v_iconst (v := 2) F dX12_feed_37 (by decide) ?_
      refine p_X12_1 F r_a h dX12_feed_38 (fun S12 h hE => ?_)
      have r_a := r_a.tr hE
      refine v_iconst (v := 0) F dX12_feed_41 (by decide) ?_
      exact v_iret F hQ h (by decide) dX12_feed_42
  · refine v_aload_n F dX12_feed_17 0 rfl rfl ?_
    refine v_iconst (v := 1) F dX12_feed_18 (by decide) ?_
    refine p_X12_1 F r_a h dX12_feed_19 (fun S13 h hE => ?_)
    have r_a := r_a.tr hE
    refine v_iconst (v := 0) F dX12_feed_22 (by decide) ?_
    exact v_iret F hQ h (by decide) dX12_feed_23
theorem dX12_fault_0 : decode cX12_fault 0 = .ok (.aload_n 0, 1) := by decide +kernel
theorem dX12_fault_1 : decode cX12_fault 1 = .ok (.iconst 0, 1) := by decide +kernel
theorem dX12_fault_2 : decode cX12_fault 2 = .ok (.putfield 1, 3) := by decide +kernel
theorem dX12_fault_5 : decode cX12_fault 5 = .ok (.aload_n 0, 1) := by decide +kernel
theorem dX12_fault_6 : decode cX12_fault 6 = .ok (.getfield 20, 3) := by decide +kernel
theorem dX12_fault_9 : decode cX12_fault 9 = .ok (.ireturn, 1) := by decide +kernel
abbrev rm_X12_fault : Room := { frames := 0, cells := 0, slots := 0, locals := 0 }
def wp_X12_fault (a : Nat) (S : PS) (Q : Int32 → PS → Prop) : Prop :=
  (∀ S1, S1 = sI S 96 a 0 → Q (fI S1 104 a) S1)
set_option maxRecDepth 100000 in
set_option maxHeartbeats 4000000 in
theorem c_X12_fault {l : Launch} {E : EE} {A : Nat → Prop} {a : Nat} {S : PS} {Q : Int32 → PS → Prop} (r_a : Rf S a 9) (h : wp_X12_fault a S Q) : MtI l yX12_fault (.code yX12_fault cX12_fault 1 (some .int)) rm_X12_fault E A [.ref a] S Q := by
  refine MtI.of (by decide) (Nat.le_of_ble_eq_true rfl) (fun X F hQ hN => ?_)
  show VV X (0, 0) S [(0, .ref a)] [] 0
  unfold wp_X12_fault at h
  refine v_aload_n F dX12_fault_0 0 rfl rfl ?_
  refine v_iconst (v := 0) F dX12_fault_1 (by decide) ?_
  refine p_X12_1 F r_a h dX12_fault_2 (fun S1 h hE => ?_)
  have r_a := r_a.tr hE
  refine v_aload_n F dX12_fault_5 0 rfl rfl ?_
  refine g_X12_20 F r_a dX12_fault_6 ?_
  exact v_iret F hQ h (by decide) dX12_fault_9
theorem dX12_bad_0 : decode cX12_bad 0 = .ok (.aload_n 0, 1) := by decide +kernel
theorem dX12_bad_1 : decode cX12_bad 1 = .ok (.getfield 23, 3) := by decide +kernel
theorem dX12_bad_4 : decode cX12_bad 4 = .ok (.ifCond .ne 13, 3) := by decide +kernel
theorem dX12_bad_7 : decode cX12_bad 7 = .ok (.aload_n 0, 1) := by decide +kernel
theorem dX12_bad_8 : decode cX12_bad 8 = .ok (.iload_n 1, 1) := by decide +kernel
theorem dX12_bad_9 : decode cX12_bad 9 = .ok (.putfield 23, 3) := by decide +kernel
theorem dX12_bad_12 : decode cX12_bad 12 = .ok (.aload_n 0, 1) := by decide +kernel
theorem dX12_bad_13 : decode cX12_bad 13 = .ok (.iload_n 2, 1) := by decide +kernel
theorem dX12_bad_14 : decode cX12_bad 14 = .ok (.putfield 26, 3) := by decide +kernel
theorem dX12_bad_17 : decode cX12_bad 17 = .ok (.return_, 1) := by decide +kernel
abbrev rm_X12_bad : Room := { frames := 0, cells := 0, slots := 0, locals := 0 }
def wp_X12_bad (a : Nat) (p1 : Int32) (p2 : Int32) (S : PS) (Q : PS → Prop) : Prop :=
  (if fI S 102 a = 0 then
 (∀ S1, S1 = sI S 102 a p1 → (∀ S2, S2 = sI S1 103 a p2 → Q S2))
 else
 Q S)
set_option maxRecDepth 100000 in
set_option maxHeartbeats 4000000 in
theorem c_X12_bad {l : Launch} {E : EE} {A : Nat → Prop} {a : Nat} {p1 : Int32} {p2 : Int32} {S : PS} {Q : PS → Prop} (r_a : Rf S a 9) (h : wp_X12_bad a p1 p2 S Q) : MtV l yX12_bad (.code yX12_bad cX12_bad 3 none) rm_X12_bad E A [.ref a, .int p1, .int p2] S Q := by
  refine MtV.of (by decide) (Nat.le_of_ble_eq_true rfl) (fun X F hQ hN => ?_)
  show VV X (0, 0) S [(0, .ref a), (1, .int p1), (2, .int p2)] [] 0
  unfold wp_X12_bad at h
  refine v_aload_n F dX12_bad_0 0 rfl rfl ?_
  refine g_X12_23 F r_a dX12_bad_1 ?_
  refine v_if_ne (tgt := 17) F dX12_bad_4 (by decide) h (fun h => ?_) (fun h => ?_)
  · exact v_vret F hQ h (by decide) dX12_bad_17
  · refine v_aload_n F dX12_bad_7 0 rfl rfl ?_
    refine v_iload_n F dX12_bad_8 1 rfl rfl ?_
    refine p_X12_23 F r_a h dX12_bad_9 (fun S1 h hE => ?_)
    have r_a := r_a.tr hE
    refine v_aload_n F dX12_bad_12 0 rfl rfl ?_
    refine v_iload_n F dX12_bad_13 2 rfl rfl ?_
    refine p_X12_26 F r_a h dX12_bad_14 (fun S2 h hE => ?_)
    have r_a := r_a.tr hE
    exact v_vret F hQ h (by decide) dX12_bad_17
theorem dX12_here_0 : decode cX12_here 0 = .ok (.aload_n 0, 1) := by decide +kernel
theorem dX12_here_1 : decode cX12_here 1 = .ok (.getfield 29, 3) := by decide +kernel
theorem dX12_here_4 : decode cX12_here 4 = .ok (.aload_n 0, 1) := by decide +kernel
theorem dX12_here_5 : decode cX12_here 5 = .ok (.getfield 32, 3) := by decide +kernel
theorem dX12_here_8 : decode cX12_here 8 = .ok (.if_icmp .ge 19, 3) := by decide +kernel
theorem dX12_here_11 : decode cX12_here 11 = .ok (.aload_n 0, 1) := by decide +kernel
theorem dX12_here_12 : decode cX12_here 12 = .ok (.getfield 35, 3) := by decide +kernel
theorem dX12_here_15 : decode cX12_here 15 = .ok (.aload_n 0, 1) := by decide +kernel
theorem dX12_here_16 : decode cX12_here 16 = .ok (.getfield 29, 3) := by decide +kernel
theorem dX12_here_19 : decode cX12_here 19 = .ok (.baload, 1) := by decide +kernel
theorem dX12_here_20 : decode cX12_here 20 = .ok (.sipush 255, 3) := by decide +kernel
theorem dX12_here_23 : decode cX12_here 23 = .ok (.iand, 1) := by decide +kernel
theorem dX12_here_24 : decode cX12_here 24 = .ok (.goto 4, 3) := by decide +kernel
theorem dX12_here_27 : decode cX12_here 27 = .ok (.iconst (-1), 1) := by decide +kernel
theorem dX12_here_28 : decode cX12_here 28 = .ok (.ireturn, 1) := by decide +kernel
abbrev rm_X12_here : Room := { frames := 0, cells := 0, slots := 0, locals := 0 }
def wp_X12_here (a : Nat) (S : PS) (Q : Int32 → PS → Prop) : Prop :=
  (if fI S 100 a ≤ fI S 101 a then
 Q (-1) S
 else
 (∃ b1, fR S 99 a = some b1 ∧ (vp_in (fI S 101 a) (aN S b1) ∧ Q ((aI S 41 b1 (fI S 101 a).toNatClampNeg) &&& 255) S)))
set_option maxRecDepth 100000 in
set_option maxHeartbeats 4000000 in
theorem c_X12_here {l : Launch} {E : EE} {A : Nat → Prop} {a : Nat} {S : PS} {Q : Int32 → PS → Prop} (r_a : Rf S a 9) (h : wp_X12_here a S Q) : MtI l yX12_here (.code yX12_here cX12_here 1 (some .int)) rm_X12_here E A [.ref a] S Q := by
  refine MtI.of (by decide) (Nat.le_of_ble_eq_true rfl) (fun X F hQ hN => ?_)
  show VV X (0, 0) S [(0, .ref a)] [] 0
  unfold wp_X12_here at h
  refine v_aload_n F dX12_here_0 0 rfl rfl ?_
  refine g_X12_29 F r_a dX12_here_1 ?_
  refine v_aload_n F dX12_here_4 0 rfl rfl ?_
  refine g_X12_32 F r_a dX12_here_5 ?_
  refine v_icmp_ge (tgt := 27) F dX12_here_8 (by decide) h (fun h => ?_) (fun h => ?_)
  · refine v_iconst (v := (-1)) F dX12_here_27 (by decide) ?_
    exact v_iret F hQ h (by decide) dX12_here_28
  · refine v_aload_n F dX12_here_11 0 rfl rfl ?_
    refine g_X12_35 F r_a h dX12_here_12 (fun b1 r_b1 h => ?_)
    refine v_aload_n F dX12_here_15 0 rfl rfl ?_
    refine g_X12_29 F r_a dX12_here_16 ?_
    refine v_bald F r_b1 o_41 h dX12_here_19 (fun h => ?_)
    refine v_sipush (v := 255) F dX12_here_20 (by decide) ?_
    refine v_iand F dX12_here_23 ?_
    refine v_goto (tgt := 28) F dX12_here_24 (by decide) ?_
    exact v_iret F hQ h (by decide) dX12_here_28
theorem dX12_isHere_0 : decode cX12_isHere 0 = .ok (.aload_n 0, 1) := by decide +kernel
theorem dX12_isHere_1 : decode cX12_isHere 1 = .ok (.invokevirtual 38, 3) := by decide +kernel
theorem dX12_isHere_4 : decode cX12_isHere 4 = .ok (.iload_n 1, 1) := by decide +kernel
theorem dX12_isHere_5 : decode cX12_isHere 5 = .ok (.if_icmp .ne 7, 3) := by decide +kernel
theorem dX12_isHere_8 : decode cX12_isHere 8 = .ok (.iconst 1, 1) := by decide +kernel
theorem dX12_isHere_9 : decode cX12_isHere 9 = .ok (.goto 4, 3) := by decide +kernel
theorem dX12_isHere_12 : decode cX12_isHere 12 = .ok (.iconst 0, 1) := by decide +kernel
theorem dX12_isHere_13 : decode cX12_isHere 13 = .ok (.ireturn, 1) := by decide +kernel
abbrev rm_X12_isHere : Room := { frames := 1, cells := 0, slots := 0, locals := 20 }
def wp_X12_isHere (a : Nat) (p1 : Int32) (S : PS) (Q : Int32 → PS → Prop) : Prop :=
  wp_X12_here a S (fun (r2 : Int32) (S1 : PS) => 
 (if r2 = p1 then
 Q 1 S1
 else
 Q 0 S1))
set_option maxRecDepth 100000 in
set_option maxHeartbeats 4000000 in
theorem c_X12_isHere {l : Launch} {E : EE} {A : Nat → Prop} {a : Nat} {p1 : Int32} {S : PS} {Q : Int32 → PS → Prop} (r_a : Rf S a 9) (h : wp_X12_isHere a p1 S Q) : MtI l yX12_isHere (.code yX12_isHere cX12_isHere 2 (some .boolean)) rm_X12_isHere E A [.ref a, .int p1] S (fun r S1 => nz r ∧ Q r S1) := by
  refine MtI.of (by decide) (Nat.le_of_ble_eq_true rfl) (fun X F hQ hN => ?_)
  show VV X (0, 0) S [(0, .ref a), (1, .int p1)] [] 0
  unfold wp_X12_isHere at h
  refine v_aload_n F dX12_isHere_0 0 rfl rfl ?_
  refine v_cI0 (v_runV F k_X12_38 rfl (c_X12_here r_a h) r_a rfl rfl (Nat.le_of_ble_eq_true rfl) (by decide) (by decide) dX12_isHere_1) ⟨rfl, rfl⟩ (fun r2 S1 h hE => ?_)
  have r_a := r_a.tr hE
  refine v_iload_n F dX12_isHere_4 1 rfl rfl ?_
  refine v_icmp_ne (tgt := 12) F dX12_isHere_5 (by decide) h (fun h => ?_) (fun h => ?_)
  · refine v_iconst (v := 0) F dX12_isHere_12 (by decide) ?_
    exact v_zret F hQ (by decide) ⟨nz0, h⟩ (by decide) dX12_isHere_13
  · refine v_iconst (v := 1) F dX12_isHere_8 (by decide) ?_
    refine v_goto (tgt := 13) F dX12_isHere_9 (by decide) ?_
    exact v_zret F hQ (by decide) ⟨nz1, h⟩ (by decide) dX12_isHere_13
theorem dX12_blanks_0 : decode cX12_blanks 0 = .ok (.aload_n 0, 1) := by decide +kernel
theorem dX12_blanks_1 : decode cX12_blanks 1 = .ok (.bipush 32, 2) := by decide +kernel
theorem dX12_blanks_3 : decode cX12_blanks 3 = .ok (.invokevirtual 42, 3) := by decide +kernel
theorem dX12_blanks_6 : decode cX12_blanks 6 = .ok (.ifCond .ne 21, 3) := by decide +kernel
theorem dX12_blanks_9 : decode cX12_blanks 9 = .ok (.aload_n 0, 1) := by decide +kernel
theorem dX12_blanks_10 : decode cX12_blanks 10 = .ok (.bipush 10, 2) := by decide +kernel
theorem dX12_blanks_12 : decode cX12_blanks 12 = .ok (.invokevirtual 42, 3) := by decide +kernel
theorem dX12_blanks_15 : decode cX12_blanks 15 = .ok (.ifCond .ne 12, 3) := by decide +kernel
theorem dX12_blanks_18 : decode cX12_blanks 18 = .ok (.aload_n 0, 1) := by decide +kernel
theorem dX12_blanks_19 : decode cX12_blanks 19 = .ok (.bipush 37, 2) := by decide +kernel
theorem dX12_blanks_21 : decode cX12_blanks 21 = .ok (.invokevirtual 42, 3) := by decide +kernel
theorem dX12_blanks_24 : decode cX12_blanks 24 = .ok (.ifCond .eq 58, 3) := by decide +kernel
theorem dX12_blanks_27 : decode cX12_blanks 27 = .ok (.aload_n 0, 1) := by decide +kernel
theorem dX12_blanks_28 : decode cX12_blanks 28 = .ok (.bipush 37, 2) := by decide +kernel
theorem dX12_blanks_30 : decode cX12_blanks 30 = .ok (.invokevirtual 42, 3) := by decide +kernel
theorem dX12_blanks_33 : decode cX12_blanks 33 = .ok (.ifCond .eq 36, 3) := by decide +kernel
theorem dX12_blanks_36 : decode cX12_blanks 36 = .ok (.aload_n 0, 1) := by decide +kernel
theorem dX12_blanks_37 : decode cX12_blanks 37 = .ok (.getfield 29, 3) := by decide +kernel
theorem dX12_blanks_40 : decode cX12_blanks 40 = .ok (.aload_n 0, 1) := by decide +kernel
theorem dX12_blanks_41 : decode cX12_blanks 41 = .ok (.getfield 32, 3) := by decide +kernel
theorem dX12_blanks_44 : decode cX12_blanks 44 = .ok (.if_icmp .ge (-44), 3) := by decide +kernel
theorem dX12_blanks_47 : decode cX12_blanks 47 = .ok (.aload_n 0, 1) := by decide +kernel
theorem dX12_blanks_48 : decode cX12_blanks 48 = .ok (.bipush 10, 2) := by decide +kernel
theorem dX12_blanks_50 : decode cX12_blanks 50 = .ok (.invokevirtual 42, 3) := by decide +kernel
theorem dX12_blanks_53 : decode cX12_blanks 53 = .ok (.ifCond .ne (-53), 3) := by decide +kernel
theorem dX12_blanks_56 : decode cX12_blanks 56 = .ok (.aload_n 0, 1) := by decide +kernel
theorem dX12_blanks_57 : decode cX12_blanks 57 = .ok (.dup, 1) := by decide +kernel
theorem dX12_blanks_58 : decode cX12_blanks 58 = .ok (.getfield 29, 3) := by decide +kernel
theorem dX12_blanks_61 : decode cX12_blanks 61 = .ok (.iconst 1, 1) := by decide +kernel
theorem dX12_blanks_62 : decode cX12_blanks 62 = .ok (.iadd, 1) := by decide +kernel
theorem dX12_blanks_63 : decode cX12_blanks 63 = .ok (.putfield 29, 3) := by decide +kernel
theorem dX12_blanks_66 : decode cX12_blanks 66 = .ok (.goto (-30), 3) := by decide +kernel
theorem dX12_blanks_69 : decode cX12_blanks 69 = .ok (.aload_n 0, 1) := by decide +kernel
theorem dX12_blanks_70 : decode cX12_blanks 70 = .ok (.dup, 1) := by decide +kernel
theorem dX12_blanks_71 : decode cX12_blanks 71 = .ok (.getfield 29, 3) := by decide +kernel
theorem dX12_blanks_74 : decode cX12_blanks 74 = .ok (.iconst 1, 1) := by decide +kernel
theorem dX12_blanks_75 : decode cX12_blanks 75 = .ok (.iadd, 1) := by decide +kernel
theorem dX12_blanks_76 : decode cX12_blanks 76 = .ok (.putfield 29, 3) := by decide +kernel
theorem dX12_blanks_79 : decode cX12_blanks 79 = .ok (.goto (-79), 3) := by decide +kernel
theorem dX12_blanks_82 : decode cX12_blanks 82 = .ok (.return_, 1) := by decide +kernel
abbrev rm_X12_blanks : Room := { frames := 2, cells := 0, slots := 0, locals := 41 }
def wp_X12_blanks (a : Nat) (S : PS) (Q : PS → Prop) : Prop :=
  (∀ P0_1 : PS → Prop, (∀ (S2 : PS),
 wp_X12_isHere a 32 S2 (fun (r4 : Int32) (S3 : PS) => 
 (∀ K27_6 : PS → Prop, (∀ (S5 : PS),
 wp_X12_isHere a 37 S5 (fun (r8 : Int32) (S7 : PS) => 
 (if r8 = 0 then
 (∀ S9, S9 = sI S7 101 a ((fI S7 101 a) + 1) → P0_1 S9)
 else
 (∀ P36_10 : PS → Prop, (∀ (S11 : PS),
 (if fI S11 100 a ≤ fI S11 101 a then
 P0_1 S11
 else
 wp_X12_isHere a 10 S11 (fun (r13 : Int32) (S12 : PS) => 
 (if r13 = 0 then
 (∀ S14, S14 = sI S12 101 a ((fI S12 101 a) + 1) → P36_10 S14)
 else
 P0_1 S12)))
 → P36_10 S11) → P36_10 S7)))
 → K27_6 S5) →
 (if r4 = 0 then
 wp_X12_isHere a 10 S3 (fun (r16 : Int32) (S15 : PS) => 
 (if r16 = 0 then
 wp_X12_isHere a 37 S15 (fun (r18 : Int32) (S17 : PS) => 
 (if r18 = 0 then
 Q S17
 else
 K27_6 S17))
 else
 K27_6 S15))
 else
 K27_6 S3)))
 → P0_1 S2) → P0_1 S)
set_option maxRecDepth 100000 in
set_option maxHeartbeats 4000000 in
theorem c_X12_blanks {l : Launch} {E : EE} {A : Nat → Prop} {a : Nat} {S : PS} {Q : PS → Prop} (r_a : Rf S a 9) (h : wp_X12_blanks a S Q) : MtV l yX12_blanks (.code yX12_blanks cX12_blanks 1 none) rm_X12_blanks E A [.ref a] S Q := by
  refine MtV.of (by decide) (Nat.le_of_ble_eq_true rfl) (fun X F hQ hN => ?_)
  show VV X (0, 0) S [(0, .ref a)] [] 0
  unfold wp_X12_blanks at h
  refine v_sub [0] rfl ?_
  refine h (fun (S2 : PS) => Rf S2 a 9 → VV X (0, 0) S2 [(0, .ref a)] [] 0) (fun S2 h r_a => ?_) r_a
  refine v_aload_n F dX12_blanks_0 0 rfl rfl ?_
  refine v_bipush (v := 32) F dX12_blanks_1 (by decide) ?_
  refine v_cI0 (v_runV F k_X12_42 rfl (c_X12_isHere r_a h) r_a rfl rfl (Nat.le_of_ble_eq_true rfl) (by decide) (by decide) dX12_blanks_3) ⟨rfl, rfl⟩ (fun r4 S3 h hE => ?_)
  obtain ⟨nz_r4, h⟩ := h
  have r_a := r_a.tr hE
  have h := h (fun (S5 : PS) => Rf S5 a 9 → VV X (0, 0) S5 [(0, .ref a)] [] 27) (by
    intro S5 h r_a
    refine v_aload_n F dX12_blanks_27 0 rfl rfl ?_
    refine v_bipush (v := 37) F dX12_blanks_28 (by decide) ?_
    refine v_cI0 (v_runV F k_X12_42 rfl (c_X12_isHere r_a h) r_a rfl rfl (Nat.le_of_ble_eq_true rfl) (by decide) (by decide) dX12_blanks_30) ⟨rfl, rfl⟩ (fun r8 S7 h hE => ?_)
    obtain ⟨nz_r8, h⟩ := h
    have r_a := r_a.tr hE
    refine v_if_eq (tgt := 69) F dX12_blanks_33 (by decide) h (fun h => ?_) (fun h => ?_)
    · refine v_aload_n F dX12_blanks_69 0 rfl rfl ?_
      refine v_dup F dX12_blanks_70 rfl ?_
      refine g_X12_29 F r_a dX12_blanks_71 ?_
      refine v_iconst (v := 1) F dX12_blanks_74 (by decide) ?_
      refine v_iadd F dX12_blanks_75 ?_
      refine p_X12_29 F r_a h dX12_blanks_76 (fun S9 h hE => ?_)
      have r_a := r_a.tr hE
      refine v_goto (tgt := 0) F dX12_blanks_79 (by decide) ?_
      exact v_sub [0] rfl (h r_a)
    · refine v_sub [0] rfl ?_
      refine h (fun (S11 : PS) => Rf S11 a 9 → VV X (0, 0) S11 [(0, .ref a)] [] 36) (fun S11 h r_a => ?_) r_a
      refine v_aload_n F dX12_blanks_36 0 rfl rfl ?_
      refine g_X12_29 F r_a dX12_blanks_37 ?_
      refine v_aload_n F dX12_blanks_40 0 rfl rfl ?_
      refine g_X12_32 F r_a dX12_blanks_41 ?_
      refine v_icmp_ge (tgt := 0) F dX12_blanks_44 (by decide) h (fun h => ?_) (fun h => ?_)
      · exact v_sub [0] rfl (h r_a)
      · refine v_aload_n F dX12_blanks_47 0 rfl rfl ?_
        refine v_bipush (v := 10) F dX12_blanks_48 (by decide) ?_
        refine v_cI0 (v_runV F k_X12_42 rfl (c_X12_isHere r_a h) r_a rfl rfl (Nat.le_of_ble_eq_true rfl) (by decide) (by decide) dX12_blanks_50) ⟨rfl, rfl⟩ (fun r13 S12 h hE => ?_)
        obtain ⟨nz_r13, h⟩ := h
        have r_a := r_a.tr hE
        refine v_if_ne (tgt := 0) F dX12_blanks_53 (by decide) h (fun h => ?_) (fun h => ?_)
        · exact v_sub [0] rfl (h r_a)
        · refine v_aload_n F dX12_blanks_56 0 rfl rfl ?_
          refine v_dup F dX12_blanks_57 rfl ?_
          refine g_X12_29 F r_a dX12_blanks_58 ?_
          refine v_iconst (v := 1) F dX12_blanks_61 (by decide) ?_
          refine v_iadd F dX12_blanks_62 ?_
          refine p_X12_29 F r_a h dX12_blanks_63 (fun S14 h hE => ?_)
          have r_a := r_a.tr hE
          refine v_goto (tgt := 36) F dX12_blanks_66 (by decide) ?_
          exact v_sub [0] rfl (h r_a))
  refine v_if_ne (tgt := 27) F dX12_blanks_6 (by decide) h (fun h => ?_) (fun h => ?_)
  · exact v_sub [0] rfl (h r_a)
  · refine v_aload_n F dX12_blanks_9 0 rfl rfl ?_
    refine v_bipush (v := 10) F dX12_blanks_10 (by decide) ?_
    refine v_cI0 (v_runV F k_X12_42 rfl (c_X12_isHere r_a h) r_a rfl rfl (Nat.le_of_ble_eq_true rfl) (by decide) (by decide) dX12_blanks_12) ⟨rfl, rfl⟩ (fun r16 S15 h hE => ?_)
    obtain ⟨nz_r16, h⟩ := h
    have r_a := r_a.tr hE
    refine v_if_ne (tgt := 27) F dX12_blanks_15 (by decide) h (fun h => ?_) (fun h => ?_)
    · exact v_sub [0] rfl (h r_a)
    · refine v_aload_n F dX12_blanks_18 0 rfl rfl ?_
      refine v_bipush (v := 37) F dX12_blanks_19 (by decide) ?_
      refine v_cI0 (v_runV F k_X12_42 rfl (c_X12_isHere r_a h) r_a rfl rfl (Nat.le_of_ble_eq_true rfl) (by decide) (by decide) dX12_blanks_21) ⟨rfl, rfl⟩ (fun r18 S17 h hE => ?_)
      obtain ⟨nz_r18, h⟩ := h
      have r_a := r_a.tr hE
      refine v_if_eq (tgt := 82) F dX12_blanks_24 (by decide) h (fun h => ?_) (fun h => ?_)
      · exact v_vret F hQ h (by decide) dX12_blanks_82
      · exact v_sub [0] rfl (h r_a)
theorem dX12_isDigit_0 : decode cX12_isDigit 0 = .ok (.iload_n 0, 1) := by decide +kernel
theorem dX12_isDigit_1 : decode cX12_isDigit 1 = .ok (.bipush 48, 2) := by decide +kernel
theorem dX12_isDigit_3 : decode cX12_isDigit 3 = .ok (.if_icmp .lt 13, 3) := by decide +kernel
theorem dX12_isDigit_6 : decode cX12_isDigit 6 = .ok (.iload_n 0, 1) := by decide +kernel
theorem dX12_isDigit_7 : decode cX12_isDigit 7 = .ok (.bipush 57, 2) := by decide +kernel
theorem dX12_isDigit_9 : decode cX12_isDigit 9 = .ok (.if_icmp .gt 7, 3) := by decide +kernel
theorem dX12_isDigit_12 : decode cX12_isDigit 12 = .ok (.iconst 1, 1) := by decide +kernel
theorem dX12_isDigit_13 : decode cX12_isDigit 13 = .ok (.goto 4, 3) := by decide +kernel
theorem dX12_isDigit_16 : decode cX12_isDigit 16 = .ok (.iconst 0, 1) := by decide +kernel
theorem dX12_isDigit_17 : decode cX12_isDigit 17 = .ok (.ireturn, 1) := by decide +kernel
abbrev rm_X12_isDigit : Room := { frames := 0, cells := 0, slots := 0, locals := 0 }
def wp_X12_isDigit (p1 : Int32) (S : PS) (Q : Int32 → PS → Prop) : Prop :=
  (if p1 < 48 then
 Q 0 S
 else
 (if 57 < p1 then
 Q 0 S
 else
 Q 1 S))
set_option maxRecDepth 100000 in
set_option maxHeartbeats 4000000 in
theorem c_X12_isDigit {l : Launch} {E : EE} {A : Nat → Prop} {p1 : Int32} {S : PS} {Q : Int32 → PS → Prop} (h : wp_X12_isDigit p1 S Q) : MtI l yX12_isDigit (.code yX12_isDigit cX12_isDigit 1 (some .boolean)) rm_X12_isDigit E A [.int p1] S (fun r S1 => nz r ∧ Q r S1) := by
  refine MtI.of (by decide) (Nat.le_of_ble_eq_true rfl) (fun X F hQ hN => ?_)
  show VV X (0, 0) S [(0, .int p1)] [] 0
  unfold wp_X12_isDigit at h
  refine v_iload_n F dX12_isDigit_0 0 rfl rfl ?_
  refine v_bipush (v := 48) F dX12_isDigit_1 (by decide) ?_
  refine v_icmp_lt (tgt := 16) F dX12_isDigit_3 (by decide) h (fun h => ?_) (fun h => ?_)
  · refine v_iconst (v := 0) F dX12_isDigit_16 (by decide) ?_
    exact v_zret F hQ (by decide) ⟨nz0, h⟩ (by decide) dX12_isDigit_17
  · refine v_iload_n F dX12_isDigit_6 0 rfl rfl ?_
    refine v_bipush (v := 57) F dX12_isDigit_7 (by decide) ?_
    refine v_icmp_gt (tgt := 16) F dX12_isDigit_9 (by decide) h (fun h => ?_) (fun h => ?_)
    · refine v_iconst (v := 0) F dX12_isDigit_16 (by decide) ?_
      exact v_zret F hQ (by decide) ⟨nz0, h⟩ (by decide) dX12_isDigit_17
    · refine v_iconst (v := 1) F dX12_isDigit_12 (by decide) ?_
      refine v_goto (tgt := 17) F dX12_isDigit_13 (by decide) ?_
      exact v_zret F hQ (by decide) ⟨nz1, h⟩ (by decide) dX12_isDigit_17
theorem dX12_isLetter_0 : decode cX12_isLetter 0 = .ok (.iload_n 0, 1) := by decide +kernel
theorem dX12_isLetter_1 : decode cX12_isLetter 1 = .ok (.bipush 97, 2) := by decide +kernel
theorem dX12_isLetter_3 : decode cX12_isLetter 3 = .ok (.if_icmp .lt 13, 3) := by decide +kernel
theorem dX12_isLetter_6 : decode cX12_isLetter 6 = .ok (.iload_n 0, 1) := by decide +kernel
theorem dX12_isLetter_7 : decode cX12_isLetter 7 = .ok (.bipush 122, 2) := by decide +kernel
theorem dX12_isLetter_9 : decode cX12_isLetter 9 = .ok (.if_icmp .gt 7, 3) := by decide +kernel
theorem dX12_isLetter_12 : decode cX12_isLetter 12 = .ok (.iconst 1, 1) := by decide +kernel
theorem dX12_isLetter_13 : decode cX12_isLetter 13 = .ok (.goto 4, 3) := by decide +kernel
theorem dX12_isLetter_16 : decode cX12_isLetter 16 = .ok (.iconst 0, 1) := by decide +kernel
theorem dX12_isLetter_17 : decode cX12_isLetter 17 = .ok (.ireturn, 1) := by decide +kernel
abbrev rm_X12_isLetter : Room := { frames := 0, cells := 0, slots := 0, locals := 0 }
def wp_X12_isLetter (p1 : Int32) (S : PS) (Q : Int32 → PS → Prop) : Prop :=
  (if p1 < 97 then
 Q 0 S
 else
 (if 122 < p1 then
 Q 0 S
 else
 Q 1 S))
set_option maxRecDepth 100000 in
set_option maxHeartbeats 4000000 in
theorem c_X12_isLetter {l : Launch} {E : EE} {A : Nat → Prop} {p1 : Int32} {S : PS} {Q : Int32 → PS → Prop} (h : wp_X12_isLetter p1 S Q) : MtI l yX12_isLetter (.code yX12_isLetter cX12_isLetter 1 (some .boolean)) rm_X12_isLetter E A [.int p1] S (fun r S1 => nz r ∧ Q r S1) := by
  refine MtI.of (by decide) (Nat.le_of_ble_eq_true rfl) (fun X F hQ hN => ?_)
  show VV X (0, 0) S [(0, .int p1)] [] 0
  unfold wp_X12_isLetter at h
  refine v_iload_n F dX12_isLetter_0 0 rfl rfl ?_
  refine v_bipush (v := 97) F dX12_isLetter_1 (by decide) ?_
  refine v_icmp_lt (tgt := 16) F dX12_isLetter_3 (by decide) h (fun h => ?_) (fun h => ?_)
  · refine v_iconst (v := 0) F dX12_isLetter_16 (by decide) ?_
    exact v_zret F hQ (by decide) ⟨nz0, h⟩ (by decide) dX12_isLetter_17
  · refine v_iload_n F dX12_isLetter_6 0 rfl rfl ?_
    refine v_bipush (v := 122) F dX12_isLetter_7 (by decide) ?_
    refine v_icmp_gt (tgt := 16) F dX12_isLetter_9 (by decide) h (fun h => ?_) (fun h => ?_)
    · refine v_iconst (v := 0) F dX12_isLetter_16 (by decide) ?_
      exact v_zret F hQ (by decide) ⟨nz0, h⟩ (by decide) dX12_isLetter_17
    · refine v_iconst (v := 1) F dX12_isLetter_12 (by decide) ?_
      refine v_goto (tgt := 17) F dX12_isLetter_13 (by decide) ?_
      exact v_zret F hQ (by decide) ⟨nz1, h⟩ (by decide) dX12_isLetter_17
theorem dX12_isTone_0 : decode cX12_isTone 0 = .ok (.iload_n 0, 1) := by decide +kernel
theorem dX12_isTone_1 : decode cX12_isTone 1 = .ok (.bipush 97, 2) := by decide +kernel
theorem dX12_isTone_3 : decode cX12_isTone 3 = .ok (.if_icmp .lt 13, 3) := by decide +kernel
theorem dX12_isTone_6 : decode cX12_isTone 6 = .ok (.iload_n 0, 1) := by decide +kernel
theorem dX12_isTone_7 : decode cX12_isTone 7 = .ok (.bipush 103, 2) := by decide +kernel
theorem dX12_isTone_9 : decode cX12_isTone 9 = .ok (.if_icmp .gt 7, 3) := by decide +kernel
theorem dX12_isTone_12 : decode cX12_isTone 12 = .ok (.iconst 1, 1) := by decide +kernel
theorem dX12_isTone_13 : decode cX12_isTone 13 = .ok (.goto 4, 3) := by decide +kernel
theorem dX12_isTone_16 : decode cX12_isTone 16 = .ok (.iconst 0, 1) := by decide +kernel
theorem dX12_isTone_17 : decode cX12_isTone 17 = .ok (.ireturn, 1) := by decide +kernel
abbrev rm_X12_isTone : Room := { frames := 0, cells := 0, slots := 0, locals := 0 }
def wp_X12_isTone (p1 : Int32) (S : PS) (Q : Int32 → PS → Prop) : Prop :=
  (if p1 < 97 then
 Q 0 S
 else
 (if 103 < p1 then
 Q 0 S
 else
 Q 1 S))
set_option maxRecDepth 100000 in
set_option maxHeartbeats 4000000 in
theorem c_X12_isTone {l : Launch} {E : EE} {A : Nat → Prop} {p1 : Int32} {S : PS} {Q : Int32 → PS → Prop} (h : wp_X12_isTone p1 S Q) : MtI l yX12_isTone (.code yX12_isTone cX12_isTone 1 (some .boolean)) rm_X12_isTone E A [.int p1] S (fun r S1 => nz r ∧ Q r S1) := by
  refine MtI.of (by decide) (Nat.le_of_ble_eq_true rfl) (fun X F hQ hN => ?_)
  show VV X (0, 0) S [(0, .int p1)] [] 0
  unfold wp_X12_isTone at h
  refine v_iload_n F dX12_isTone_0 0 rfl rfl ?_
  refine v_bipush (v := 97) F dX12_isTone_1 (by decide) ?_
  refine v_icmp_lt (tgt := 16) F dX12_isTone_3 (by decide) h (fun h => ?_) (fun h => ?_)
  · refine v_iconst (v := 0) F dX12_isTone_16 (by decide) ?_
    exact v_zret F hQ (by decide) ⟨nz0, h⟩ (by decide) dX12_isTone_17
  · refine v_iload_n F dX12_isTone_6 0 rfl rfl ?_
    refine v_bipush (v := 103) F dX12_isTone_7 (by decide) ?_
    refine v_icmp_gt (tgt := 16) F dX12_isTone_9 (by decide) h (fun h => ?_) (fun h => ?_)
    · refine v_iconst (v := 0) F dX12_isTone_16 (by decide) ?_
      exact v_zret F hQ (by decide) ⟨nz0, h⟩ (by decide) dX12_isTone_17
    · refine v_iconst (v := 1) F dX12_isTone_12 (by decide) ?_
      refine v_goto (tgt := 17) F dX12_isTone_13 (by decide) ?_
      exact v_zret F hQ (by decide) ⟨nz1, h⟩ (by decide) dX12_isTone_17
theorem dX12_want_0 : decode cX12_want 0 = .ok (.aload_n 0, 1) := by decide +kernel
theorem dX12_want_1 : decode cX12_want 1 = .ok (.getfield 23, 3) := by decide +kernel
theorem dX12_want_4 : decode cX12_want 4 = .ok (.ifCond .ne 37, 3) := by decide +kernel
theorem dX12_want_7 : decode cX12_want 7 = .ok (.aload_n 0, 1) := by decide +kernel
theorem dX12_want_8 : decode cX12_want 8 = .ok (.invokevirtual 46, 3) := by decide +kernel
theorem dX12_want_11 : decode cX12_want 11 = .ok (.aload_n 0, 1) := by decide +kernel
theorem dX12_want_12 : decode cX12_want 12 = .ok (.iload_n 1, 1) := by decide +kernel
theorem dX12_want_13 : decode cX12_want 13 = .ok (.invokevirtual 42, 3) := by decide +kernel
theorem dX12_want_16 : decode cX12_want 16 = .ok (.ifCond .eq 16, 3) := by decide +kernel
theorem dX12_want_19 : decode cX12_want 19 = .ok (.aload_n 0, 1) := by decide +kernel
theorem dX12_want_20 : decode cX12_want 20 = .ok (.dup, 1) := by decide +kernel
theorem dX12_want_21 : decode cX12_want 21 = .ok (.getfield 29, 3) := by decide +kernel
theorem dX12_want_24 : decode cX12_want 24 = .ok (.iconst 1, 1) := by decide +kernel
theorem dX12_want_25 : decode cX12_want 25 = .ok (.iadd, 1) := by decide +kernel
theorem dX12_want_26 : decode cX12_want 26 = .ok (.putfield 29, 3) := by decide +kernel
theorem dX12_want_29 : decode cX12_want 29 = .ok (.goto 12, 3) := by decide +kernel
theorem dX12_want_32 : decode cX12_want 32 = .ok (.aload_n 0, 1) := by decide +kernel
theorem dX12_want_33 : decode cX12_want 33 = .ok (.iconst 1, 1) := by decide +kernel
theorem dX12_want_34 : decode cX12_want 34 = .ok (.aload_n 0, 1) := by decide +kernel
theorem dX12_want_35 : decode cX12_want 35 = .ok (.getfield 29, 3) := by decide +kernel
theorem dX12_want_38 : decode cX12_want 38 = .ok (.invokevirtual 50, 3) := by decide +kernel
theorem dX12_want_41 : decode cX12_want 41 = .ok (.return_, 1) := by decide +kernel
abbrev rm_X12_want : Room := { frames := 3, cells := 0, slots := 0, locals := 61 }
def wp_X12_want (a : Nat) (p1 : Int32) (S : PS) (Q : PS → Prop) : Prop :=
  (if fI S 102 a = 0 then
 wp_X12_blanks a S (fun (S1 : PS) => 
 wp_X12_isHere a p1 S1 (fun (r3 : Int32) (S2 : PS) => 
 (if r3 = 0 then
 wp_X12_bad a 1 (fI S2 101 a) S2 (fun (S4 : PS) => 
 Q S4)
 else
 (∀ S5, S5 = sI S2 101 a ((fI S2 101 a) + 1) → Q S5))))
 else
 Q S)
set_option maxRecDepth 100000 in
set_option maxHeartbeats 4000000 in
theorem c_X12_want {l : Launch} {E : EE} {A : Nat → Prop} {a : Nat} {p1 : Int32} {S : PS} {Q : PS → Prop} (r_a : Rf S a 9) (h : wp_X12_want a p1 S Q) : MtV l yX12_want (.code yX12_want cX12_want 2 none) rm_X12_want E A [.ref a, .int p1] S Q := by
  refine MtV.of (by decide) (Nat.le_of_ble_eq_true rfl) (fun X F hQ hN => ?_)
  show VV X (0, 0) S [(0, .ref a), (1, .int p1)] [] 0
  unfold wp_X12_want at h
  refine v_aload_n F dX12_want_0 0 rfl rfl ?_
  refine g_X12_23 F r_a dX12_want_1 ?_
  refine v_if_ne (tgt := 41) F dX12_want_4 (by decide) h (fun h => ?_) (fun h => ?_)
  · exact v_vret F hQ h (by decide) dX12_want_41
  · refine v_aload_n F dX12_want_7 0 rfl rfl ?_
    refine v_cV0 (v_runV F k_X12_46 rfl (c_X12_blanks r_a h) r_a rfl rfl (Nat.le_of_ble_eq_true rfl) (by decide) (by decide) dX12_want_8) ⟨rfl, rfl⟩ (fun  S1 h hE => ?_)
    have r_a := r_a.tr hE
    refine v_aload_n F dX12_want_11 0 rfl rfl ?_
    refine v_iload_n F dX12_want_12 1 rfl rfl ?_
    refine v_cI0 (v_runV F k_X12_42 rfl (c_X12_isHere r_a h) r_a rfl rfl (Nat.le_of_ble_eq_true rfl) (by decide) (by decide) dX12_want_13) ⟨rfl, rfl⟩ (fun r3 S2 h hE => ?_)
    obtain ⟨nz_r3, h⟩ := h
    have r_a := r_a.tr hE
    refine v_if_eq (tgt := 32) F dX12_want_16 (by decide) h (fun h => ?_) (fun h => ?_)
    · refine v_aload_n F dX12_want_32 0 rfl rfl ?_
      refine v_iconst (v := 1) F dX12_want_33 (by decide) ?_
      refine v_aload_n F dX12_want_34 0 rfl rfl ?_
      refine g_X12_29 F r_a dX12_want_35 ?_
      refine v_cV0 (v_runV F k_X12_50 rfl (c_X12_bad r_a h) r_a rfl rfl (Nat.le_of_ble_eq_true rfl) (by decide) (by decide) dX12_want_38) ⟨rfl, rfl⟩ (fun  S4 h hE => ?_)
      have r_a := r_a.tr hE
      exact v_vret F hQ h (by decide) dX12_want_41
    · refine v_aload_n F dX12_want_19 0 rfl rfl ?_
      refine v_dup F dX12_want_20 rfl ?_
      refine g_X12_29 F r_a dX12_want_21 ?_
      refine v_iconst (v := 1) F dX12_want_24 (by decide) ?_
      refine v_iadd F dX12_want_25 ?_
      refine p_X12_29 F r_a h dX12_want_26 (fun S5 h hE => ?_)
      have r_a := r_a.tr hE
      refine v_goto (tgt := 41) F dX12_want_29 (by decide) ?_
      exact v_vret F hQ h (by decide) dX12_want_41
theorem dX12_digits_0 : decode cX12_digits 0 = .ok (.aload_n 0, 1) := by decide +kernel
theorem dX12_digits_1 : decode cX12_digits 1 = .ok (.getfield 29, 3) := by decide +kernel
theorem dX12_digits_4 : decode cX12_digits 4 = .ok (.istore 6, 2) := by decide +kernel
theorem dX12_digits_6 : decode cX12_digits 6 = .ok (.lconst 0, 1) := by decide +kernel
theorem dX12_digits_7 : decode cX12_digits 7 = .ok (.lstore 7, 2) := by decide +kernel
theorem dX12_digits_9 : decode cX12_digits 9 = .ok (.aload_n 0, 1) := by decide +kernel
theorem dX12_digits_10 : decode cX12_digits 10 = .ok (.invokevirtual 38, 3) := by decide +kernel
theorem dX12_digits_13 : decode cX12_digits 13 = .ok (.invokestatic 54, 3) := by decide +kernel
theorem dX12_digits_16 : decode cX12_digits 16 = .ok (.ifCond .eq 50, 3) := by decide +kernel
theorem dX12_digits_19 : decode cX12_digits 19 = .ok (.aload_n 0, 1) := by decide +kernel
theorem dX12_digits_20 : decode cX12_digits 20 = .ok (.getfield 29, 3) := by decide +kernel
theorem dX12_digits_23 : decode cX12_digits 23 = .ok (.iload 6, 2) := by decide +kernel
theorem dX12_digits_25 : decode cX12_digits 25 = .ok (.isub, 1) := by decide +kernel
theorem dX12_digits_26 : decode cX12_digits 26 = .ok (.iload_n 1, 1) := by decide +kernel
theorem dX12_digits_27 : decode cX12_digits 27 = .ok (.if_icmp .ge 22, 3) := by decide +kernel
theorem dX12_digits_30 : decode cX12_digits 30 = .ok (.ldc2_w 57, 3) := by decide +kernel
theorem dX12_digits_33 : decode cX12_digits 33 = .ok (.lload 7, 2) := by decide +kernel
theorem dX12_digits_35 : decode cX12_digits 35 = .ok (.lmul, 1) := by decide +kernel
theorem dX12_digits_36 : decode cX12_digits 36 = .ok (.aload_n 0, 1) := by decide +kernel
theorem dX12_digits_37 : decode cX12_digits 37 = .ok (.invokevirtual 38, 3) := by decide +kernel
theorem dX12_digits_40 : decode cX12_digits 40 = .ok (.i2l, 1) := by decide +kernel
theorem dX12_digits_41 : decode cX12_digits 41 = .ok (.ladd, 1) := by decide +kernel
theorem dX12_digits_42 : decode cX12_digits 42 = .ok (.ldc2_w 59, 3) := by decide +kernel
theorem dX12_digits_45 : decode cX12_digits 45 = .ok (.lsub, 1) := by decide +kernel
theorem dX12_digits_46 : decode cX12_digits 46 = .ok (.goto 5, 3) := by decide +kernel
theorem dX12_digits_49 : decode cX12_digits 49 = .ok (.lload 7, 2) := by decide +kernel
theorem dX12_digits_51 : decode cX12_digits 51 = .ok (.lstore 7, 2) := by decide +kernel
theorem dX12_digits_53 : decode cX12_digits 53 = .ok (.aload_n 0, 1) := by decide +kernel
theorem dX12_digits_54 : decode cX12_digits 54 = .ok (.dup, 1) := by decide +kernel
theorem dX12_digits_55 : decode cX12_digits 55 = .ok (.getfield 29, 3) := by decide +kernel
theorem dX12_digits_58 : decode cX12_digits 58 = .ok (.iconst 1, 1) := by decide +kernel
theorem dX12_digits_59 : decode cX12_digits 59 = .ok (.iadd, 1) := by decide +kernel
theorem dX12_digits_60 : decode cX12_digits 60 = .ok (.putfield 29, 3) := by decide +kernel
theorem dX12_digits_63 : decode cX12_digits 63 = .ok (.goto (-54), 3) := by decide +kernel
theorem dX12_digits_66 : decode cX12_digits 66 = .ok (.aload_n 0, 1) := by decide +kernel
theorem dX12_digits_67 : decode cX12_digits 67 = .ok (.getfield 29, 3) := by decide +kernel
theorem dX12_digits_70 : decode cX12_digits 70 = .ok (.iload 6, 2) := by decide +kernel
theorem dX12_digits_72 : decode cX12_digits 72 = .ok (.if_icmp .ne 15, 3) := by decide +kernel
theorem dX12_digits_75 : decode cX12_digits 75 = .ok (.aload_n 0, 1) := by decide +kernel
theorem dX12_digits_76 : decode cX12_digits 76 = .ok (.iconst 1, 1) := by decide +kernel
theorem dX12_digits_77 : decode cX12_digits 77 = .ok (.aload_n 0, 1) := by decide +kernel
theorem dX12_digits_78 : decode cX12_digits 78 = .ok (.getfield 29, 3) := by decide +kernel
theorem dX12_digits_81 : decode cX12_digits 81 = .ok (.invokevirtual 50, 3) := by decide +kernel
theorem dX12_digits_84 : decode cX12_digits 84 = .ok (.goto 32, 3) := by decide +kernel
theorem dX12_digits_87 : decode cX12_digits 87 = .ok (.aload_n 0, 1) := by decide +kernel
theorem dX12_digits_88 : decode cX12_digits 88 = .ok (.getfield 29, 3) := by decide +kernel
theorem dX12_digits_91 : decode cX12_digits 91 = .ok (.iload 6, 2) := by decide +kernel
theorem dX12_digits_93 : decode cX12_digits 93 = .ok (.isub, 1) := by decide +kernel
theorem dX12_digits_94 : decode cX12_digits 94 = .ok (.iload_n 1, 1) := by decide +kernel
theorem dX12_digits_95 : decode cX12_digits 95 = .ok (.if_icmp .gt 14, 3) := by decide +kernel
theorem dX12_digits_98 : decode cX12_digits 98 = .ok (.lload 7, 2) := by decide +kernel
theorem dX12_digits_100 : decode cX12_digits 100 = .ok (.lload_n 2, 1) := by decide +kernel
theorem dX12_digits_101 : decode cX12_digits 101 = .ok (.lload 4, 2) := by decide +kernel
theorem dX12_digits_103 : decode cX12_digits 103 = .ok (.invokestatic 9, 3) := by decide +kernel
theorem dX12_digits_106 : decode cX12_digits 106 = .ok (.ifCond .ne 10, 3) := by decide +kernel
theorem dX12_digits_109 : decode cX12_digits 109 = .ok (.aload_n 0, 1) := by decide +kernel
theorem dX12_digits_110 : decode cX12_digits 110 = .ok (.iconst 2, 1) := by decide +kernel
theorem dX12_digits_111 : decode cX12_digits 111 = .ok (.iload 6, 2) := by decide +kernel
theorem dX12_digits_113 : decode cX12_digits 113 = .ok (.invokevirtual 50, 3) := by decide +kernel
theorem dX12_digits_116 : decode cX12_digits 116 = .ok (.lload 7, 2) := by decide +kernel
theorem dX12_digits_118 : decode cX12_digits 118 = .ok (.lreturn, 1) := by decide +kernel
abbrev rm_X12_digits : Room := { frames := 1, cells := 0, slots := 0, locals := 25 }
def wp_X12_digits (a : Nat) (p1 : Int32) (p2 : Int64) (p3 : Int64) (S : PS) (Q : Int64 → PS → Prop) : Prop :=
  (∀ v1, v1 = fI S 101 a → (∀ P9_2 : Int64 → PS → Prop, (∀ (x7_3 : Int64) (S4 : PS),
 wp_X12_here a S4 (fun (r6 : Int32) (S5 : PS) => 
 wp_X12_isDigit r6 S5 (fun (r8 : Int32) (S7 : PS) => 
 (if r8 = 0 then
 (if fI S7 101 a = v1 then
 wp_X12_bad a 1 (fI S7 101 a) S7 (fun (S14 : PS) => 
 Q x7_3 S14)
 else
 (∀ K109_10 : PS → Prop, (∀ (S9 : PS),
 wp_X12_bad a 2 v1 S9 (fun (S11 : PS) => 
 Q x7_3 S11)
 → K109_10 S9) →
 (if p1 < (fI S7 101 a) - v1 then
 K109_10 S7
 else
 wp_X12_in x7_3 p2 p3 S7 (fun (r13 : Int32) (S12 : PS) => 
 (if r13 = 0 then
 K109_10 S12
 else
 Q x7_3 S12)))))
 else
 (∀ K51_17 : Int64 → PS → Prop, (∀ (t15 : Int64) (S16 : PS),
 (∀ S18, S18 = sI S16 101 a ((fI S16 101 a) + 1) → P9_2 t15 S18)
 → K51_17 t15 S16) →
 (if p1 ≤ (fI S7 101 a) - v1 then
 K51_17 x7_3 S7
 else
 wp_X12_here a S7 (fun (r20 : Int32) (S19 : PS) => 
 K51_17 ((((10 : Int64) * x7_3) + (r20.toInt64)) - 48) S19))))))
 → P9_2 x7_3 S4) → P9_2 0 S))
set_option maxRecDepth 100000 in
set_option maxHeartbeats 4000000 in
theorem c_X12_digits {l : Launch} {E : EE} {A : Nat → Prop} {a : Nat} {p1 : Int32} {p2 : Int64} {p3 : Int64} {S : PS} {Q : Int64 → PS → Prop} (r_a : Rf S a 9) (h : wp_X12_digits a p1 p2 p3 S Q) : MtL l yX12_digits (.code yX12_digits cX12_digits 9 (some .long)) rm_X12_digits E A [.ref a, .int p1, .long p2, .long p3] S Q := by
  refine MtL.of (by decide) (Nat.le_of_ble_eq_true rfl) (fun X F hQ hN => ?_)
  show VV X (0, 0) S [(0, .ref a), (1, .int p1), (2, .long p2), (4, .long p3)] [] 0
  unfold wp_X12_digits at h
  refine v_aload_n F dX12_digits_0 0 rfl rfl ?_
  refine g_X12_29 F r_a dX12_digits_1 ?_
  refine v_topi (fun v1 e_v1 => ?_)
  have h := h v1 e_v1
  refine v_istore (lv1 := [(6, .int v1), (0, .ref a), (1, .int p1), (2, .long p2), (4, .long p3)]) F dX12_digits_4 (by rw [hN]; decide) rfl ?_
  refine v_lconst (v := 0) F dX12_digits_6 (by decide) ?_
  refine v_lstore (lv1 := [(7, .long 0), (6, .int v1), (0, .ref a), (1, .int p1), (2, .long p2), (4, .long p3)]) F dX12_digits_7 (by rw [hN]; decide) rfl ?_
  refine v_sub [2, 3, 4, 5, 1, 0] rfl ?_
  refine h (fun (x7_3 : Int64) (S4 : PS) => Rf S4 a 9 → VV X (0, 0) S4 [(0, .ref a), (1, .int p1), (2, .long p2), (4, .long p3), (6, .int v1), (7, .long x7_3)] [] 9) (fun x7_3 S4 h r_a => ?_) r_a
  refine v_aload_n F dX12_digits_9 0 rfl rfl ?_
  refine v_cI0 (v_runV F k_X12_38 rfl (c_X12_here r_a h) r_a rfl rfl (Nat.le_of_ble_eq_true rfl) (by decide) (by decide) dX12_digits_10) ⟨rfl, rfl⟩ (fun r6 S5 h hE => ?_)
  have r_a := r_a.tr hE
  refine v_cI0 (v_runS F k_X12_54 (c_X12_isDigit h) rfl rfl (Nat.le_of_ble_eq_true rfl) (by decide) (by decide) dX12_digits_13) ⟨rfl, rfl⟩ (fun r8 S7 h hE => ?_)
  obtain ⟨nz_r8, h⟩ := h
  have r_a := r_a.tr hE
  refine v_if_eq (tgt := 66) F dX12_digits_16 (by decide) h (fun h => ?_) (fun h => ?_)
  · refine v_aload_n F dX12_digits_66 0 rfl rfl ?_
    refine g_X12_29 F r_a dX12_digits_67 ?_
    refine v_iload F dX12_digits_70 4 rfl ?_
    refine v_icmp_ne (tgt := 87) F dX12_digits_72 (by decide) h (fun h => ?_) (fun h => ?_)
    · refine v_aload_n F dX12_digits_87 0 rfl rfl ?_
      refine g_X12_29 F r_a dX12_digits_88 ?_
      refine v_iload F dX12_digits_91 4 rfl ?_
      refine v_isub F dX12_digits_93 ?_
      refine v_iload_n F dX12_digits_94 1 rfl rfl ?_
      have h := h (fun (S9 : PS) => Rf S9 a 9 → VV X (0, 0) S9 [(0, .ref a), (6, .int v1), (7, .long x7_3)] [] 109) (by
        intro S9 h r_a
        refine v_aload_n F dX12_digits_109 0 rfl rfl ?_
        refine v_iconst (v := 2) F dX12_digits_110 (by decide) ?_
        refine v_iload F dX12_digits_111 1 rfl ?_
        refine v_cV0 (v_runV F k_X12_50 rfl (c_X12_bad r_a h) r_a rfl rfl (Nat.le_of_ble_eq_true rfl) (by decide) (by decide) dX12_digits_113) ⟨rfl, rfl⟩ (fun  S11 h hE => ?_)
        have r_a := r_a.tr hE
        refine v_lload F dX12_digits_116 2 rfl ?_
        exact v_lret F hQ h (by decide) dX12_digits_118)
      refine v_icmp_gt (tgt := 109) F dX12_digits_95 (by decide) h (fun h => ?_) (fun h => ?_)
      · exact v_sub [0, 4, 5] rfl (h r_a)
      · refine v_lload F dX12_digits_98 5 rfl ?_
        refine v_lload_n F dX12_digits_100 2 rfl rfl ?_
        refine v_lload F dX12_digits_101 3 rfl ?_
        refine v_cI0 (v_runS F k_X12_9 (c_X12_in h) rfl rfl (Nat.le_of_ble_eq_true rfl) (by decide) (by decide) dX12_digits_103) ⟨rfl, rfl⟩ (fun r13 S12 h hE => ?_)
        obtain ⟨nz_r13, h⟩ := h
        have r_a := r_a.tr hE
        refine v_if_ne (tgt := 116) F dX12_digits_106 (by decide) h (fun h => ?_) (fun h => ?_)
        · refine v_lload F dX12_digits_116 5 rfl ?_
          exact v_lret F hQ h (by decide) dX12_digits_118
        · exact v_sub [0, 4, 5] rfl (h r_a)
    · refine v_aload_n F dX12_digits_75 0 rfl rfl ?_
      refine v_iconst (v := 1) F dX12_digits_76 (by decide) ?_
      refine v_aload_n F dX12_digits_77 0 rfl rfl ?_
      refine g_X12_29 F r_a dX12_digits_78 ?_
      refine v_cV0 (v_runV F k_X12_50 rfl (c_X12_bad r_a h) r_a rfl rfl (Nat.le_of_ble_eq_true rfl) (by decide) (by decide) dX12_digits_81) ⟨rfl, rfl⟩ (fun  S14 h hE => ?_)
      have r_a := r_a.tr hE
      refine v_goto (tgt := 116) F dX12_digits_84 (by decide) ?_
      refine v_lload F dX12_digits_116 5 rfl ?_
      exact v_lret F hQ h (by decide) dX12_digits_118
  · refine v_aload_n F dX12_digits_19 0 rfl rfl ?_
    refine g_X12_29 F r_a dX12_digits_20 ?_
    refine v_iload F dX12_digits_23 4 rfl ?_
    refine v_isub F dX12_digits_25 ?_
    refine v_iload_n F dX12_digits_26 1 rfl rfl ?_
    have h := h (fun (t15 : Int64) (S16 : PS) => Rf S16 a 9 → VV X (0, 0) S16 [(0, .ref a), (1, .int p1), (2, .long p2), (4, .long p3), (6, .int v1)] [.long t15] 51) (by
      intro t15 S16 h r_a
      refine v_lstore (lv1 := [(7, .long t15), (0, .ref a), (1, .int p1), (2, .long p2), (4, .long p3), (6, .int v1)]) F dX12_digits_51 (by rw [hN]; decide) rfl ?_
      refine v_aload_n F dX12_digits_53 1 rfl rfl ?_
      refine v_dup F dX12_digits_54 rfl ?_
      refine g_X12_29 F r_a dX12_digits_55 ?_
      refine v_iconst (v := 1) F dX12_digits_58 (by decide) ?_
      refine v_iadd F dX12_digits_59 ?_
      refine p_X12_29 F r_a h dX12_digits_60 (fun S18 h hE => ?_)
      have r_a := r_a.tr hE
      refine v_goto (tgt := 9) F dX12_digits_63 (by decide) ?_
      exact v_sub [1, 2, 3, 4, 5, 0] rfl (h r_a))
    refine v_icmp_ge (tgt := 49) F dX12_digits_27 (by decide) h (fun h => ?_) (fun h => ?_)
    · refine v_lload F dX12_digits_49 5 rfl ?_
      exact v_sub [0, 1, 2, 3, 4] rfl (h r_a)
    · refine v_ldc2 F kc_X12_57 dX12_digits_30 ?_
      refine v_lload F dX12_digits_33 5 rfl ?_
      refine v_lmul F dX12_digits_35 ?_
      refine v_aload_n F dX12_digits_36 0 rfl rfl ?_
      refine v_cI0 (v_runV F k_X12_38 rfl (c_X12_here r_a h) r_a rfl rfl (Nat.le_of_ble_eq_true rfl) (by decide) (by decide) dX12_digits_37) ⟨rfl, rfl⟩ (fun r20 S19 h hE => ?_)
      have r_a := r_a.tr hE
      refine v_i2l F dX12_digits_40 ?_
      refine v_ladd F dX12_digits_41 ?_
      refine v_ldc2 F kc_X12_59 dX12_digits_42 ?_
      refine v_lsub F dX12_digits_45 ?_
      refine v_goto (tgt := 51) F dX12_digits_46 (by decide) ?_
      exact v_sub [0, 1, 2, 3, 4] rfl (h r_a)
theorem dX12_number_0 : decode cX12_number 0 = .ok (.aload_n 0, 1) := by decide +kernel
theorem dX12_number_1 : decode cX12_number 1 = .ok (.getfield 23, 3) := by decide +kernel
theorem dX12_number_4 : decode cX12_number 4 = .ok (.ifCond .le 5, 3) := by decide +kernel
theorem dX12_number_7 : decode cX12_number 7 = .ok (.iconst 0, 1) := by decide +kernel
theorem dX12_number_8 : decode cX12_number 8 = .ok (.ireturn, 1) := by decide +kernel
theorem dX12_number_9 : decode cX12_number 9 = .ok (.aload_n 0, 1) := by decide +kernel
theorem dX12_number_10 : decode cX12_number 10 = .ok (.invokevirtual 46, 3) := by decide +kernel
theorem dX12_number_13 : decode cX12_number 13 = .ok (.aload_n 0, 1) := by decide +kernel
theorem dX12_number_14 : decode cX12_number 14 = .ok (.iconst 3, 1) := by decide +kernel
theorem dX12_number_15 : decode cX12_number 15 = .ok (.iload_n 1, 1) := by decide +kernel
theorem dX12_number_16 : decode cX12_number 16 = .ok (.i2l, 1) := by decide +kernel
theorem dX12_number_17 : decode cX12_number 17 = .ok (.iload_n 2, 1) := by decide +kernel
theorem dX12_number_18 : decode cX12_number 18 = .ok (.i2l, 1) := by decide +kernel
theorem dX12_number_19 : decode cX12_number 19 = .ok (.invokevirtual 61, 3) := by decide +kernel
theorem dX12_number_22 : decode cX12_number 22 = .ok (.l2i, 1) := by decide +kernel
theorem dX12_number_23 : decode cX12_number 23 = .ok (.ireturn, 1) := by decide +kernel
abbrev rm_X12_number : Room := { frames := 3, cells := 0, slots := 0, locals := 61 }
def wp_X12_number (a : Nat) (p1 : Int32) (p2 : Int32) (S : PS) (Q : Int32 → PS → Prop) : Prop :=
  (if fI S 102 a ≤ 0 then
 wp_X12_blanks a S (fun (S1 : PS) => 
 wp_X12_digits a 3 (p1.toInt64) (p2.toInt64) S1 (fun (r3 : Int64) (S2 : PS) => 
 Q (r3.toInt32) S2))
 else
 Q 0 S)
set_option maxRecDepth 100000 in
set_option maxHeartbeats 4000000 in
theorem c_X12_number {l : Launch} {E : EE} {A : Nat → Prop} {a : Nat} {p1 : Int32} {p2 : Int32} {S : PS} {Q : Int32 → PS → Prop} (r_a : Rf S a 9) (h : wp_X12_number a p1 p2 S Q) : MtI l yX12_number (.code yX12_number cX12_number 3 (some .int)) rm_X12_number E A [.ref a, .int p1, .int p2] S Q := by
  refine MtI.of (by decide) (Nat.le_of_ble_eq_true rfl) (fun X F hQ hN => ?_)
  show VV X (0, 0) S [(0, .ref a), (1, .int p1), (2, .int p2)] [] 0
  unfold wp_X12_number at h
  refine v_aload_n F dX12_number_0 0 rfl rfl ?_
  refine g_X12_23 F r_a dX12_number_1 ?_
  refine v_if_le (tgt := 9) F dX12_number_4 (by decide) h (fun h => ?_) (fun h => ?_)
  · refine v_aload_n F dX12_number_9 0 rfl rfl ?_
    refine v_cV0 (v_runV F k_X12_46 rfl (c_X12_blanks r_a h) r_a rfl rfl (Nat.le_of_ble_eq_true rfl) (by decide) (by decide) dX12_number_10) ⟨rfl, rfl⟩ (fun  S1 h hE => ?_)
    have r_a := r_a.tr hE
    refine v_aload_n F dX12_number_13 0 rfl rfl ?_
    refine v_iconst (v := 3) F dX12_number_14 (by decide) ?_
    refine v_iload_n F dX12_number_15 1 rfl rfl ?_
    refine v_i2l F dX12_number_16 ?_
    refine v_iload_n F dX12_number_17 2 rfl rfl ?_
    refine v_i2l F dX12_number_18 ?_
    refine v_cL0 (v_runV F k_X12_61 rfl (c_X12_digits r_a h) r_a rfl rfl (Nat.le_of_ble_eq_true rfl) (by decide) (by decide) dX12_number_19) ⟨rfl, rfl⟩ (fun r3 S2 h hE => ?_)
    have r_a := r_a.tr hE
    refine v_l2i F dX12_number_22 ?_
    exact v_iret F hQ h (by decide) dX12_number_23
  · refine v_iconst (v := 0) F dX12_number_7 (by decide) ?_
    exact v_iret F hQ h (by decide) dX12_number_8
theorem dX12_isHalved_0 : decode cX12_isHalved 0 = .ok (.lload_n 0, 1) := by decide +kernel
theorem dX12_isHalved_1 : decode cX12_isHalved 1 = .ok (.lconst 1, 1) := by decide +kernel
theorem dX12_isHalved_2 : decode cX12_isHalved 2 = .ok (.lcmp, 1) := by decide +kernel
theorem dX12_isHalved_3 : decode cX12_isHalved 3 = .ok (.ifCond .eq 57, 3) := by decide +kernel
theorem dX12_isHalved_6 : decode cX12_isHalved 6 = .ok (.lload_n 0, 1) := by decide +kernel
theorem dX12_isHalved_7 : decode cX12_isHalved 7 = .ok (.ldc2_w 65, 3) := by decide +kernel
theorem dX12_isHalved_10 : decode cX12_isHalved 10 = .ok (.lcmp, 1) := by decide +kernel
theorem dX12_isHalved_11 : decode cX12_isHalved 11 = .ok (.ifCond .eq 49, 3) := by decide +kernel
theorem dX12_isHalved_14 : decode cX12_isHalved 14 = .ok (.lload_n 0, 1) := by decide +kernel
theorem dX12_isHalved_15 : decode cX12_isHalved 15 = .ok (.ldc2_w 67, 3) := by decide +kernel
theorem dX12_isHalved_18 : decode cX12_isHalved 18 = .ok (.lcmp, 1) := by decide +kernel
theorem dX12_isHalved_19 : decode cX12_isHalved 19 = .ok (.ifCond .eq 41, 3) := by decide +kernel
theorem dX12_isHalved_22 : decode cX12_isHalved 22 = .ok (.lload_n 0, 1) := by decide +kernel
theorem dX12_isHalved_23 : decode cX12_isHalved 23 = .ok (.ldc2_w 7, 3) := by decide +kernel
theorem dX12_isHalved_26 : decode cX12_isHalved 26 = .ok (.lcmp, 1) := by decide +kernel
theorem dX12_isHalved_27 : decode cX12_isHalved 27 = .ok (.ifCond .eq 33, 3) := by decide +kernel
theorem dX12_isHalved_30 : decode cX12_isHalved 30 = .ok (.lload_n 0, 1) := by decide +kernel
theorem dX12_isHalved_31 : decode cX12_isHalved 31 = .ok (.ldc2_w 69, 3) := by decide +kernel
theorem dX12_isHalved_34 : decode cX12_isHalved 34 = .ok (.lcmp, 1) := by decide +kernel
theorem dX12_isHalved_35 : decode cX12_isHalved 35 = .ok (.ifCond .eq 25, 3) := by decide +kernel
theorem dX12_isHalved_38 : decode cX12_isHalved 38 = .ok (.lload_n 0, 1) := by decide +kernel
theorem dX12_isHalved_39 : decode cX12_isHalved 39 = .ok (.ldc2_w 71, 3) := by decide +kernel
theorem dX12_isHalved_42 : decode cX12_isHalved 42 = .ok (.lcmp, 1) := by decide +kernel
theorem dX12_isHalved_43 : decode cX12_isHalved 43 = .ok (.ifCond .eq 17, 3) := by decide +kernel
theorem dX12_isHalved_46 : decode cX12_isHalved 46 = .ok (.lload_n 0, 1) := by decide +kernel
theorem dX12_isHalved_47 : decode cX12_isHalved 47 = .ok (.ldc2_w 73, 3) := by decide +kernel
theorem dX12_isHalved_50 : decode cX12_isHalved 50 = .ok (.lcmp, 1) := by decide +kernel
theorem dX12_isHalved_51 : decode cX12_isHalved 51 = .ok (.ifCond .ne 13, 3) := by decide +kernel
theorem dX12_isHalved_54 : decode cX12_isHalved 54 = .ok (.iload_n 2, 1) := by decide +kernel
theorem dX12_isHalved_55 : decode cX12_isHalved 55 = .ok (.bipush 64, 2) := by decide +kernel
theorem dX12_isHalved_57 : decode cX12_isHalved 57 = .ok (.if_icmp .ne 7, 3) := by decide +kernel
theorem dX12_isHalved_60 : decode cX12_isHalved 60 = .ok (.iconst 1, 1) := by decide +kernel
theorem dX12_isHalved_61 : decode cX12_isHalved 61 = .ok (.goto 4, 3) := by decide +kernel
theorem dX12_isHalved_64 : decode cX12_isHalved 64 = .ok (.iconst 0, 1) := by decide +kernel
theorem dX12_isHalved_65 : decode cX12_isHalved 65 = .ok (.ireturn, 1) := by decide +kernel
abbrev rm_X12_isHalved : Room := { frames := 0, cells := 0, slots := 0, locals := 0 }
def wp_X12_isHalved (p1 : Int64) (p2 : Int32) (S : PS) (Q : Int32 → PS → Prop) : Prop :=
  (if p1 = 1 then
 Q 1 S
 else
 (if p1 = 2 then
 Q 1 S
 else
 (if p1 = 4 then
 Q 1 S
 else
 (if p1 = 8 then
 Q 1 S
 else
 (if p1 = 16 then
 Q 1 S
 else
 (if p1 = 32 then
 Q 1 S
 else
 (if p1 = 64 then
 (if p2 = 64 then
 Q 1 S
 else
 Q 0 S)
 else
 Q 0 S)))))))
set_option maxRecDepth 100000 in
set_option maxHeartbeats 4000000 in
theorem c_X12_isHalved {l : Launch} {E : EE} {A : Nat → Prop} {p1 : Int64} {p2 : Int32} {S : PS} {Q : Int32 → PS → Prop} (h : wp_X12_isHalved p1 p2 S Q) : MtI l yX12_isHalved (.code yX12_isHalved cX12_isHalved 3 (some .boolean)) rm_X12_isHalved E A [.long p1, .int p2] S (fun r S1 => nz r ∧ Q r S1) := by
  refine MtI.of (by decide) (Nat.le_of_ble_eq_true rfl) (fun X F hQ hN => ?_)
  show VV X (0, 0) S [(0, .long p1), (2, .int p2)] [] 0
  unfold wp_X12_isHalved at h
  refine v_lload_n F dX12_isHalved_0 0 rfl rfl ?_
  refine v_lconst (v := 1) F dX12_isHalved_1 (by decide) ?_
  refine v_lcmp_eq (tgt := 60) F dX12_isHalved_2 dX12_isHalved_3 (by decide) h (fun h => ?_) (fun h => ?_)
  · refine v_iconst (v := 1) F dX12_isHalved_60 (by decide) ?_
    refine v_goto (tgt := 65) F dX12_isHalved_61 (by decide) ?_
    exact v_zret F hQ (by decide) ⟨nz1, h⟩ (by decide) dX12_isHalved_65
  · refine v_lload_n F dX12_isHalved_6 0 rfl rfl ?_
    refine v_ldc2 F kc_X12_65 dX12_isHalved_7 ?_
    refine v_lcmp_eq (tgt := 60) F dX12_isHalved_10 dX12_isHalved_11 (by decide) h (fun h => ?_) (fun h => ?_)
    · refine v_iconst (v := 1) F dX12_isHalved_60 (by decide) ?_
      refine v_goto (tgt := 65) F dX12_isHalved_61 (by decide) ?_
      exact v_zret F hQ (by decide) ⟨nz1, h⟩ (by decide) dX12_isHalved_65
    · refine v_lload_n F dX12_isHalved_14 0 rfl rfl ?_
      refine v_ldc2 F kc_X12_67 dX12_isHalved_15 ?_
      refine v_lcmp_eq (tgt := 60) F dX12_isHalved_18 dX12_isHalved_19 (by decide) h (fun h => ?_) (fun h => ?_)
      · refine v_iconst (v := 1) F dX12_isHalved_60 (by decide) ?_
        refine v_goto (tgt := 65) F dX12_isHalved_61 (by decide) ?_
        exact v_zret F hQ (by decide) ⟨nz1, h⟩ (by decide) dX12_isHalved_65
      · refine v_lload_n F dX12_isHalved_22 0 rfl rfl ?_
        refine v_ldc2 F kc_X12_7 dX12_isHalved_23 ?_
        refine v_lcmp_eq (tgt := 60) F dX12_isHalved_26 dX12_isHalved_27 (by decide) h (fun h => ?_) (fun h => ?_)
        · refine v_iconst (v := 1) F dX12_isHalved_60 (by decide) ?_
          refine v_goto (tgt := 65) F dX12_isHalved_61 (by decide) ?_
          exact v_zret F hQ (by decide) ⟨nz1, h⟩ (by decide) dX12_isHalved_65
        · refine v_lload_n F dX12_isHalved_30 0 rfl rfl ?_
          refine v_ldc2 F kc_X12_69 dX12_isHalved_31 ?_
          refine v_lcmp_eq (tgt := 60) F dX12_isHalved_34 dX12_isHalved_35 (by decide) h (fun h => ?_) (fun h => ?_)
          · refine v_iconst (v := 1) F dX12_isHalved_60 (by decide) ?_
            refine v_goto (tgt := 65) F dX12_isHalved_61 (by decide) ?_
            exact v_zret F hQ (by decide) ⟨nz1, h⟩ (by decide) dX12_isHalved_65
          · refine v_lload_n F dX12_isHalved_38 0 rfl rfl ?_
            refine v_ldc2 F kc_X12_71 dX12_isHalved_39 ?_
            refine v_lcmp_eq (tgt := 60) F dX12_isHalved_42 dX12_isHalved_43 (by decide) h (fun h => ?_) (fun h => ?_)
            · refine v_iconst (v := 1) F dX12_isHalved_60 (by decide) ?_
              refine v_goto (tgt := 65) F dX12_isHalved_61 (by decide) ?_
              exact v_zret F hQ (by decide) ⟨nz1, h⟩ (by decide) dX12_isHalved_65
            · refine v_lload_n F dX12_isHalved_46 0 rfl rfl ?_
              refine v_ldc2 F kc_X12_73 dX12_isHalved_47 ?_
              refine v_lcmp_ne (tgt := 64) F dX12_isHalved_50 dX12_isHalved_51 (by decide) h (fun h => ?_) (fun h => ?_)
              · refine v_iconst (v := 0) F dX12_isHalved_64 (by decide) ?_
                exact v_zret F hQ (by decide) ⟨nz0, h⟩ (by decide) dX12_isHalved_65
              · refine v_iload_n F dX12_isHalved_54 1 rfl rfl ?_
                refine v_bipush (v := 64) F dX12_isHalved_55 (by decide) ?_
                refine v_icmp_ne (tgt := 64) F dX12_isHalved_57 (by decide) h (fun h => ?_) (fun h => ?_)
                · refine v_iconst (v := 0) F dX12_isHalved_64 (by decide) ?_
                  exact v_zret F hQ (by decide) ⟨nz0, h⟩ (by decide) dX12_isHalved_65
                · refine v_iconst (v := 1) F dX12_isHalved_60 (by decide) ?_
                  refine v_goto (tgt := 65) F dX12_isHalved_61 (by decide) ?_
                  exact v_zret F hQ (by decide) ⟨nz1, h⟩ (by decide) dX12_isHalved_65
theorem dX12_halved_0 : decode cX12_halved 0 = .ok (.aload_n 0, 1) := by decide +kernel
theorem dX12_halved_1 : decode cX12_halved 1 = .ok (.getfield 29, 3) := by decide +kernel
theorem dX12_halved_4 : decode cX12_halved 4 = .ok (.istore_n 2, 1) := by decide +kernel
theorem dX12_halved_5 : decode cX12_halved 5 = .ok (.aload_n 0, 1) := by decide +kernel
theorem dX12_halved_6 : decode cX12_halved 6 = .ok (.iconst 3, 1) := by decide +kernel
theorem dX12_halved_7 : decode cX12_halved 7 = .ok (.lconst 0, 1) := by decide +kernel
theorem dX12_halved_8 : decode cX12_halved 8 = .ok (.ldc2_w 75, 3) := by decide +kernel
theorem dX12_halved_11 : decode cX12_halved 11 = .ok (.invokevirtual 61, 3) := by decide +kernel
theorem dX12_halved_14 : decode cX12_halved 14 = .ok (.lstore_n 3, 1) := by decide +kernel
theorem dX12_halved_15 : decode cX12_halved 15 = .ok (.aload_n 0, 1) := by decide +kernel
theorem dX12_halved_16 : decode cX12_halved 16 = .ok (.getfield 23, 3) := by decide +kernel
theorem dX12_halved_19 : decode cX12_halved 19 = .ok (.ifCond .ne 17, 3) := by decide +kernel
theorem dX12_halved_22 : decode cX12_halved 22 = .ok (.lload_n 3, 1) := by decide +kernel
theorem dX12_halved_23 : decode cX12_halved 23 = .ok (.iload_n 1, 1) := by decide +kernel
theorem dX12_halved_24 : decode cX12_halved 24 = .ok (.invokestatic 77, 3) := by decide +kernel
theorem dX12_halved_27 : decode cX12_halved 27 = .ok (.ifCond .ne 9, 3) := by decide +kernel
theorem dX12_halved_30 : decode cX12_halved 30 = .ok (.aload_n 0, 1) := by decide +kernel
theorem dX12_halved_31 : decode cX12_halved 31 = .ok (.iconst 2, 1) := by decide +kernel
theorem dX12_halved_32 : decode cX12_halved 32 = .ok (.iload_n 2, 1) := by decide +kernel
theorem dX12_halved_33 : decode cX12_halved 33 = .ok (.invokevirtual 50, 3) := by decide +kernel
theorem dX12_halved_36 : decode cX12_halved 36 = .ok (.lload_n 3, 1) := by decide +kernel
theorem dX12_halved_37 : decode cX12_halved 37 = .ok (.lreturn, 1) := by decide +kernel
abbrev rm_X12_halved : Room := { frames := 2, cells := 0, slots := 0, locals := 53 }
def wp_X12_halved (a : Nat) (p1 : Int32) (S : PS) (Q : Int64 → PS → Prop) : Prop :=
  (∀ v1, v1 = fI S 101 a → wp_X12_digits a 3 0 999 S (fun (r3 : Int64) (S2 : PS) => 
 (if fI S2 102 a = 0 then
 wp_X12_isHalved r3 p1 S2 (fun (r5 : Int32) (S4 : PS) => 
 (if r5 = 0 then
 wp_X12_bad a 2 v1 S4 (fun (S6 : PS) => 
 Q r3 S6)
 else
 Q r3 S4))
 else
 Q r3 S2)))
set_option maxRecDepth 100000 in
set_option maxHeartbeats 4000000 in
theorem c_X12_halved {l : Launch} {E : EE} {A : Nat → Prop} {a : Nat} {p1 : Int32} {S : PS} {Q : Int64 → PS → Prop} (r_a : Rf S a 9) (h : wp_X12_halved a p1 S Q) : MtL l yX12_halved (.code yX12_halved cX12_halved 5 (some .long)) rm_X12_halved E A [.ref a, .int p1] S Q := by
  refine MtL.of (by decide) (Nat.le_of_ble_eq_true rfl) (fun X F hQ hN => ?_)
  show VV X (0, 0) S [(0, .ref a), (1, .int p1)] [] 0
  unfold wp_X12_halved at h
  refine v_aload_n F dX12_halved_0 0 rfl rfl ?_
  refine g_X12_29 F r_a dX12_halved_1 ?_
  refine v_topi (fun v1 e_v1 => ?_)
  have h := h v1 e_v1
  refine v_istore_n (lv1 := [(2, .int v1), (0, .ref a), (1, .int p1)]) F dX12_halved_4 rfl (by rw [hN]; decide) rfl ?_
  refine v_aload_n F dX12_halved_5 1 rfl rfl ?_
  refine v_iconst (v := 3) F dX12_halved_6 (by decide) ?_
  refine v_lconst (v := 0) F dX12_halved_7 (by decide) ?_
  refine v_ldc2 F kc_X12_75 dX12_halved_8 ?_
  refine v_cL0 (v_runV F k_X12_61 rfl (c_X12_digits r_a h) r_a rfl rfl (Nat.le_of_ble_eq_true rfl) (by decide) (by decide) dX12_halved_11) ⟨rfl, rfl⟩ (fun r3 S2 h hE => ?_)
  have r_a := r_a.tr hE
  refine v_lstore_n (lv1 := [(3, .long r3), (2, .int v1), (0, .ref a), (1, .int p1)]) F dX12_halved_14 rfl (by rw [hN]; decide) rfl ?_
  refine v_aload_n F dX12_halved_15 2 rfl rfl ?_
  refine g_X12_23 F r_a dX12_halved_16 ?_
  refine v_if_ne (tgt := 36) F dX12_halved_19 (by decide) h (fun h => ?_) (fun h => ?_)
  · refine v_lload_n F dX12_halved_36 0 rfl rfl ?_
    exact v_lret F hQ h (by decide) dX12_halved_37
  · refine v_lload_n F dX12_halved_22 0 rfl rfl ?_
    refine v_iload_n F dX12_halved_23 3 rfl rfl ?_
    refine v_cI0 (v_runS F k_X12_77 (c_X12_isHalved h) rfl rfl (Nat.le_of_ble_eq_true rfl) (by decide) (by decide) dX12_halved_24) ⟨rfl, rfl⟩ (fun r5 S4 h hE => ?_)
    obtain ⟨nz_r5, h⟩ := h
    have r_a := r_a.tr hE
    refine v_if_ne (tgt := 36) F dX12_halved_27 (by decide) h (fun h => ?_) (fun h => ?_)
    · refine v_lload_n F dX12_halved_36 0 rfl rfl ?_
      exact v_lret F hQ h (by decide) dX12_halved_37
    · refine v_aload_n F dX12_halved_30 2 rfl rfl ?_
      refine v_iconst (v := 2) F dX12_halved_31 (by decide) ?_
      refine v_iload_n F dX12_halved_32 1 rfl rfl ?_
      refine v_cV0 (v_runV F k_X12_50 rfl (c_X12_bad r_a h) r_a rfl rfl (Nat.le_of_ble_eq_true rfl) (by decide) (by decide) dX12_halved_33) ⟨rfl, rfl⟩ (fun  S6 h hE => ?_)
      have r_a := r_a.tr hE
      refine v_lload_n F dX12_halved_36 0 rfl rfl ?_
      exact v_lret F hQ h (by decide) dX12_halved_37
theorem dX12_signed_0 : decode cX12_signed 0 = .ok (.aload_n 0, 1) := by decide +kernel
theorem dX12_signed_1 : decode cX12_signed 1 = .ok (.getfield 23, 3) := by decide +kernel
theorem dX12_signed_4 : decode cX12_signed 4 = .ok (.ifCond .le 5, 3) := by decide +kernel
theorem dX12_signed_7 : decode cX12_signed 7 = .ok (.iconst 0, 1) := by decide +kernel
theorem dX12_signed_8 : decode cX12_signed 8 = .ok (.ireturn, 1) := by decide +kernel
theorem dX12_signed_9 : decode cX12_signed 9 = .ok (.aload_n 0, 1) := by decide +kernel
theorem dX12_signed_10 : decode cX12_signed 10 = .ok (.invokevirtual 46, 3) := by decide +kernel
theorem dX12_signed_13 : decode cX12_signed 13 = .ok (.iconst 1, 1) := by decide +kernel
theorem dX12_signed_14 : decode cX12_signed 14 = .ok (.istore_n 1, 1) := by decide +kernel
theorem dX12_signed_15 : decode cX12_signed 15 = .ok (.aload_n 0, 1) := by decide +kernel
theorem dX12_signed_16 : decode cX12_signed 16 = .ok (.bipush 45, 2) := by decide +kernel
theorem dX12_signed_18 : decode cX12_signed 18 = .ok (.invokevirtual 42, 3) := by decide +kernel
theorem dX12_signed_21 : decode cX12_signed 21 = .ok (.ifCond .eq 15, 3) := by decide +kernel
theorem dX12_signed_24 : decode cX12_signed 24 = .ok (.iconst (-1), 1) := by decide +kernel
theorem dX12_signed_25 : decode cX12_signed 25 = .ok (.istore_n 1, 1) := by decide +kernel
theorem dX12_signed_26 : decode cX12_signed 26 = .ok (.aload_n 0, 1) := by decide +kernel
theorem dX12_signed_27 : decode cX12_signed 27 = .ok (.dup, 1) := by decide +kernel
theorem dX12_signed_28 : decode cX12_signed 28 = .ok (.getfield 29, 3) := by decide +kernel
theorem dX12_signed_31 : decode cX12_signed 31 = .ok (.iconst 1, 1) := by decide +kernel
theorem dX12_signed_32 : decode cX12_signed 32 = .ok (.iadd, 1) := by decide +kernel
theorem dX12_signed_33 : decode cX12_signed 33 = .ok (.putfield 29, 3) := by decide +kernel
theorem dX12_signed_36 : decode cX12_signed 36 = .ok (.iload_n 1, 1) := by decide +kernel
theorem dX12_signed_37 : decode cX12_signed 37 = .ok (.aload_n 0, 1) := by decide +kernel
theorem dX12_signed_38 : decode cX12_signed 38 = .ok (.iconst 2, 1) := by decide +kernel
theorem dX12_signed_39 : decode cX12_signed 39 = .ok (.lconst 0, 1) := by decide +kernel
theorem dX12_signed_40 : decode cX12_signed 40 = .ok (.ldc2_w 81, 3) := by decide +kernel
theorem dX12_signed_43 : decode cX12_signed 43 = .ok (.invokevirtual 61, 3) := by decide +kernel
theorem dX12_signed_46 : decode cX12_signed 46 = .ok (.l2i, 1) := by decide +kernel
theorem dX12_signed_47 : decode cX12_signed 47 = .ok (.imul, 1) := by decide +kernel
theorem dX12_signed_48 : decode cX12_signed 48 = .ok (.ireturn, 1) := by decide +kernel
abbrev rm_X12_signed : Room := { frames := 3, cells := 0, slots := 0, locals := 61 }
def wp_X12_signed (a : Nat) (S : PS) (Q : Int32 → PS → Prop) : Prop :=
  (if fI S 102 a ≤ 0 then
 wp_X12_blanks a S (fun (S1 : PS) => 
 wp_X12_isHere a 45 S1 (fun (r3 : Int32) (S2 : PS) => 
 (∀ K36_6 : Int32 → PS → Prop, (∀ (x1_4 : Int32) (S5 : PS),
 wp_X12_digits a 2 0 99 S5 (fun (r8 : Int64) (S7 : PS) => 
 Q (x1_4 * (r8.toInt32)) S7)
 → K36_6 x1_4 S5) →
 (if r3 = 0 then
 K36_6 1 S2
 else
 (∀ S9, S9 = sI S2 101 a ((fI S2 101 a) + 1) → K36_6 (-1) S9)))))
 else
 Q 0 S)
set_option maxRecDepth 100000 in
set_option maxHeartbeats 4000000 in
theorem c_X12_signed {l : Launch} {E : EE} {A : Nat → Prop} {a : Nat} {S : PS} {Q : Int32 → PS → Prop} (r_a : Rf S a 9) (h : wp_X12_signed a S Q) : MtI l yX12_signed (.code yX12_signed cX12_signed 2 (some .int)) rm_X12_signed E A [.ref a] S Q := by
  refine MtI.of (by decide) (Nat.le_of_ble_eq_true rfl) (fun X F hQ hN => ?_)
  show VV X (0, 0) S [(0, .ref a)] [] 0
  unfold wp_X12_signed at h
  refine v_aload_n F dX12_signed_0 0 rfl rfl ?_
  refine g_X12_23 F r_a dX12_signed_1 ?_
  refine v_if_le (tgt := 9) F dX12_signed_4 (by decide) h (fun h => ?_) (fun h => ?_)
  · refine v_aload_n F dX12_signed_9 0 rfl rfl ?_
    refine v_cV0 (v_runV F k_X12_46 rfl (c_X12_blanks r_a h) r_a rfl rfl (Nat.le_of_ble_eq_true rfl) (by decide) (by decide) dX12_signed_10) ⟨rfl, rfl⟩ (fun  S1 h hE => ?_)
    have r_a := r_a.tr hE
    refine v_iconst (v := 1) F dX12_signed_13 (by decide) ?_
    refine v_istore_n (lv1 := [(1, .int 1), (0, .ref a)]) F dX12_signed_14 rfl (by rw [hN]; decide) rfl ?_
    refine v_aload_n F dX12_signed_15 1 rfl rfl ?_
    refine v_bipush (v := 45) F dX12_signed_16 (by decide) ?_
    refine v_cI0 (v_runV F k_X12_42 rfl (c_X12_isHere r_a h) r_a rfl rfl (Nat.le_of_ble_eq_true rfl) (by decide) (by decide) dX12_signed_18) ⟨rfl, rfl⟩ (fun r3 S2 h hE => ?_)
    obtain ⟨nz_r3, h⟩ := h
    have r_a := r_a.tr hE
    have h := h (fun (x1_4 : Int32) (S5 : PS) => Rf S5 a 9 → VV X (0, 0) S5 [(0, .ref a), (1, .int x1_4)] [] 36) (by
      intro x1_4 S5 h r_a
      refine v_iload_n F dX12_signed_36 1 rfl rfl ?_
      refine v_aload_n F dX12_signed_37 0 rfl rfl ?_
      refine v_iconst (v := 2) F dX12_signed_38 (by decide) ?_
      refine v_lconst (v := 0) F dX12_signed_39 (by decide) ?_
      refine v_ldc2 F kc_X12_81 dX12_signed_40 ?_
      refine v_cL0 (v_runV F k_X12_61 rfl (c_X12_digits r_a h) r_a rfl rfl (Nat.le_of_ble_eq_true rfl) (by decide) (by decide) dX12_signed_43) ⟨rfl, rfl⟩ (fun r8 S7 h hE => ?_)
      have r_a := r_a.tr hE
      refine v_l2i F dX12_signed_46 ?_
      refine v_imul F dX12_signed_47 ?_
      exact v_iret F hQ h (by decide) dX12_signed_48)
    refine v_if_eq (tgt := 36) F dX12_signed_21 (by decide) h (fun h => ?_) (fun h => ?_)
    · exact v_sub [1, 0] rfl (h r_a)
    · refine v_iconst (v := (-1)) F dX12_signed_24 (by decide) ?_
      refine v_istore_n (lv1 := [(1, .int (-1)), (0, .ref a)]) F dX12_signed_25 rfl (by rw [hN]; decide) rfl ?_
      refine v_aload_n F dX12_signed_26 1 rfl rfl ?_
      refine v_dup F dX12_signed_27 rfl ?_
      refine g_X12_29 F r_a dX12_signed_28 ?_
      refine v_iconst (v := 1) F dX12_signed_31 (by decide) ?_
      refine v_iadd F dX12_signed_32 ?_
      refine p_X12_29 F r_a h dX12_signed_33 (fun S9 h hE => ?_)
      have r_a := r_a.tr hE
      exact v_sub [1, 0] rfl (h r_a)
  · refine v_iconst (v := 0) F dX12_signed_7 (by decide) ?_
    exact v_iret F hQ h (by decide) dX12_signed_8
theorem dX12_item_0 : decode cX12_item 0 = .ok (.aload_n 0, 1) := by decide +kernel
theorem dX12_item_1 : decode cX12_item 1 = .ok (.getfield 83, 3) := by decide +kernel
theorem dX12_item_4 : decode cX12_item 4 = .ok (.istore_n 3, 1) := by decide +kernel
theorem dX12_item_5 : decode cX12_item 5 = .ok (.aload_n 0, 1) := by decide +kernel
theorem dX12_item_6 : decode cX12_item 6 = .ok (.dup, 1) := by decide +kernel
theorem dX12_item_7 : decode cX12_item 7 = .ok (.getfield 83, 3) := by decide +kernel
theorem dX12_item_10 : decode cX12_item 10 = .ok (.iconst 1, 1) := by decide +kernel
theorem dX12_item_11 : decode cX12_item 11 = .ok (.iadd, 1) := by decide +kernel
theorem dX12_item_12 : decode cX12_item 12 = .ok (.putfield 83, 3) := by decide +kernel
theorem dX12_item_15 : decode cX12_item 15 = .ok (.aload_n 0, 1) := by decide +kernel
theorem dX12_item_16 : decode cX12_item 16 = .ok (.getfield 86, 3) := by decide +kernel
theorem dX12_item_19 : decode cX12_item 19 = .ok (.iload_n 3, 1) := by decide +kernel
theorem dX12_item_20 : decode cX12_item 20 = .ok (.iload_n 1, 1) := by decide +kernel
theorem dX12_item_21 : decode cX12_item 21 = .ok (.iastore, 1) := by decide +kernel
theorem dX12_item_22 : decode cX12_item 22 = .ok (.aload_n 0, 1) := by decide +kernel
theorem dX12_item_23 : decode cX12_item 23 = .ok (.getfield 90, 3) := by decide +kernel
theorem dX12_item_26 : decode cX12_item 26 = .ok (.iload_n 3, 1) := by decide +kernel
theorem dX12_item_27 : decode cX12_item 27 = .ok (.iload_n 2, 1) := by decide +kernel
theorem dX12_item_28 : decode cX12_item 28 = .ok (.iastore, 1) := by decide +kernel
theorem dX12_item_29 : decode cX12_item 29 = .ok (.aload_n 0, 1) := by decide +kernel
theorem dX12_item_30 : decode cX12_item 30 = .ok (.getfield 93, 3) := by decide +kernel
theorem dX12_item_33 : decode cX12_item 33 = .ok (.iload_n 3, 1) := by decide +kernel
theorem dX12_item_34 : decode cX12_item 34 = .ok (.iconst 0, 1) := by decide +kernel
theorem dX12_item_35 : decode cX12_item 35 = .ok (.iastore, 1) := by decide +kernel
theorem dX12_item_36 : decode cX12_item 36 = .ok (.aload_n 0, 1) := by decide +kernel
theorem dX12_item_37 : decode cX12_item 37 = .ok (.getfield 96, 3) := by decide +kernel
theorem dX12_item_40 : decode cX12_item 40 = .ok (.iload_n 3, 1) := by decide +kernel
theorem dX12_item_41 : decode cX12_item 41 = .ok (.iconst 0, 1) := by decide +kernel
theorem dX12_item_42 : decode cX12_item 42 = .ok (.iastore, 1) := by decide +kernel
theorem dX12_item_43 : decode cX12_item 43 = .ok (.aload_n 0, 1) := by decide +kernel
theorem dX12_item_44 : decode cX12_item 44 = .ok (.getfield 99, 3) := by decide +kernel
theorem dX12_item_47 : decode cX12_item 47 = .ok (.iload_n 3, 1) := by decide +kernel
theorem dX12_item_48 : decode cX12_item 48 = .ok (.iconst (-1), 1) := by decide +kernel
theorem dX12_item_49 : decode cX12_item 49 = .ok (.iastore, 1) := by decide +kernel
theorem dX12_item_50 : decode cX12_item 50 = .ok (.aload_n 0, 1) := by decide +kernel
theorem dX12_item_51 : decode cX12_item 51 = .ok (.getfield 102, 3) := by decide +kernel
theorem dX12_item_54 : decode cX12_item 54 = .ok (.iload_n 3, 1) := by decide +kernel
theorem dX12_item_55 : decode cX12_item 55 = .ok (.iconst (-1), 1) := by decide +kernel
theorem dX12_item_56 : decode cX12_item 56 = .ok (.iastore, 1) := by decide +kernel
theorem dX12_item_57 : decode cX12_item 57 = .ok (.aload_n 0, 1) := by decide +kernel
theorem dX12_item_58 : decode cX12_item 58 = .ok (.getfield 105, 3) := by decide +kernel
theorem dX12_item_61 : decode cX12_item 61 = .ok (.iload_n 3, 1) := by decide +kernel
theorem dX12_item_62 : decode cX12_item 62 = .ok (.lconst 0, 1) := by decide +kernel
theorem dX12_item_63 : decode cX12_item 63 = .ok (.lastore, 1) := by decide +kernel
theorem dX12_item_64 : decode cX12_item 64 = .ok (.aload_n 0, 1) := by decide +kernel
theorem dX12_item_65 : decode cX12_item 65 = .ok (.getfield 109, 3) := by decide +kernel
theorem dX12_item_68 : decode cX12_item 68 = .ok (.iload_n 3, 1) := by decide +kernel
theorem dX12_item_69 : decode cX12_item 69 = .ok (.iconst 0, 1) := by decide +kernel
theorem dX12_item_70 : decode cX12_item 70 = .ok (.bastore, 1) := by decide +kernel
theorem dX12_item_71 : decode cX12_item 71 = .ok (.iload_n 3, 1) := by decide +kernel
theorem dX12_item_72 : decode cX12_item 72 = .ok (.ireturn, 1) := by decide +kernel
abbrev rm_X12_item : Room := { frames := 0, cells := 0, slots := 0, locals := 0 }
def wp_X12_item (a : Nat) (p1 : Int32) (p2 : Int32) (S : PS) (Q : Int32 → PS → Prop) : Prop :=
  (∀ v1, v1 = fI S 113 a → (∀ S2, S2 = sI S 113 a ((fI S 113 a) + 1) → (∃ b3, fR S2 105 a = some b3 ∧ (vp_in v1 (aN S2 b3) ∧ ∀ S4, S4 = wI S2 42 b3 (v1).toNatClampNeg p1 → (∃ b5, fR S4 106 a = some b5 ∧ (vp_in v1 (aN S4 b5) ∧ ∀ S6, S6 = wI S4 43 b5 (v1).toNatClampNeg p2 → (∃ b7, fR S6 107 a = some b7 ∧ (vp_in v1 (aN S6 b7) ∧ ∀ S8, S8 = wI S6 44 b7 (v1).toNatClampNeg 0 → (∃ b9, fR S8 108 a = some b9 ∧ (vp_in v1 (aN S8 b9) ∧ ∀ S10, S10 = wI S8 45 b9 (v1).toNatClampNeg 0 → (∃ b11, fR S10 109 a = some b11 ∧ (vp_in v1 (aN S10 b11) ∧ ∀ S12, S12 = wI S10 46 b11 (v1).toNatClampNeg (-1) → (∃ b13, fR S12 110 a = some b13 ∧ (vp_in v1 (aN S12 b13) ∧ ∀ S14, S14 = wI S12 47 b13 (v1).toNatClampNeg (-1) → (∃ b15, fR S14 111 a = some b15 ∧ (vp_in v1 (aN S14 b15) ∧ ∀ S16, S16 = wL S14 48 b15 (v1).toNatClampNeg 0 → (∃ b17, fR S16 112 a = some b17 ∧ (vp_in v1 (aN S16 b17) ∧ ∀ S18, S18 = wI S16 49 b17 (v1).toNatClampNeg (vp_nar .boolean 0) → Q v1 S18))))))))))))))))))
set_option maxRecDepth 100000 in
set_option maxHeartbeats 4000000 in
theorem c_X12_item {l : Launch} {E : EE} {A : Nat → Prop} {a : Nat} {p1 : Int32} {p2 : Int32} {S : PS} {Q : Int32 → PS → Prop} (r_a : Rf S a 9) (h : wp_X12_item a p1 p2 S Q) : MtI l yX12_item (.code yX12_item cX12_item 4 (some .int)) rm_X12_item E A [.ref a, .int p1, .int p2] S Q := by
  refine MtI.of (by decide) (Nat.le_of_ble_eq_true rfl) (fun X F hQ hN => ?_)
  show VV X (0, 0) S [(0, .ref a), (1, .int p1), (2, .int p2)] [] 0
  unfold wp_X12_item at h
  refine v_aload_n F dX12_item_0 0 rfl rfl ?_
  refine g_X12_83 F r_a dX12_item_1 ?_
  refine v_topi (fun v1 e_v1 => ?_)
  have h := h v1 e_v1
  refine v_istore_n (lv1 := [(3, .int v1), (0, .ref a), (1, .int p1), (2, .int p2)]) F dX12_item_4 rfl (by rw [hN]; decide) rfl ?_
  refine v_aload_n F dX12_item_5 1 rfl rfl ?_
  refine v_dup F dX12_item_6 rfl ?_
  refine g_X12_83 F r_a dX12_item_7 ?_
  refine v_iconst (v := 1) F dX12_item_10 (by decide) ?_
  refine v_iadd F dX12_item_11 ?_
  refine p_X12_83 F r_a h dX12_item_12 (fun S2 h hE => ?_)
  have r_a := r_a.tr hE
  refine v_aload_n F dX12_item_15 1 rfl rfl ?_
  refine g_X12_86 F r_a h dX12_item_16 (fun b3 r_b3 h => ?_)
  refine v_iload_n F dX12_item_19 0 rfl rfl ?_
  refine v_iload_n F dX12_item_20 2 rfl rfl ?_
  refine v_iast F r_b3 o_42 h dX12_item_21 (fun S4 h hE => ?_)
  have r_a := r_a.tr hE
  refine v_aload_n F dX12_item_22 1 rfl rfl ?_
  refine g_X12_90 F r_a h dX12_item_23 (fun b5 r_b5 h => ?_)
  refine v_iload_n F dX12_item_26 0 rfl rfl ?_
  refine v_iload_n F dX12_item_27 3 rfl rfl ?_
  refine v_iast F r_b5 o_43 h dX12_item_28 (fun S6 h hE => ?_)
  have r_a := r_a.tr hE
  refine v_aload_n F dX12_item_29 1 rfl rfl ?_
  refine g_X12_93 F r_a h dX12_item_30 (fun b7 r_b7 h => ?_)
  refine v_iload_n F dX12_item_33 0 rfl rfl ?_
  refine v_iconst (v := 0) F dX12_item_34 (by decide) ?_
  refine v_iast F r_b7 o_44 h dX12_item_35 (fun S8 h hE => ?_)
  have r_a := r_a.tr hE
  refine v_aload_n F dX12_item_36 1 rfl rfl ?_
  refine g_X12_96 F r_a h dX12_item_37 (fun b9 r_b9 h => ?_)
  refine v_iload_n F dX12_item_40 0 rfl rfl ?_
  refine v_iconst (v := 0) F dX12_item_41 (by decide) ?_
  refine v_iast F r_b9 o_45 h dX12_item_42 (fun S10 h hE => ?_)
  have r_a := r_a.tr hE
  refine v_aload_n F dX12_item_43 1 rfl rfl ?_
  refine g_X12_99 F r_a h dX12_item_44 (fun b11 r_b11 h => ?_)
  refine v_iload_n F dX12_item_47 0 rfl rfl ?_
  refine v_iconst (v := (-1)) F dX12_item_48 (by decide) ?_
  refine v_iast F r_b11 o_46 h dX12_item_49 (fun S12 h hE => ?_)
  have r_a := r_a.tr hE
  refine v_aload_n F dX12_item_50 1 rfl rfl ?_
  refine g_X12_102 F r_a h dX12_item_51 (fun b13 r_b13 h => ?_)
  refine v_iload_n F dX12_item_54 0 rfl rfl ?_
  refine v_iconst (v := (-1)) F dX12_item_55 (by decide) ?_
  refine v_iast F r_b13 o_47 h dX12_item_56 (fun S14 h hE => ?_)
  have r_a := r_a.tr hE
  refine v_aload_n F dX12_item_57 1 rfl rfl ?_
  refine g_X12_105 F r_a h dX12_item_58 (fun b15 r_b15 h => ?_)
  refine v_iload_n F dX12_item_61 0 rfl rfl ?_
  refine v_lconst (v := 0) F dX12_item_62 (by decide) ?_
  refine v_last F r_b15 o_48 h dX12_item_63 (fun S16 h hE => ?_)
  have r_a := r_a.tr hE
  refine v_aload_n F dX12_item_64 1 rfl rfl ?_
  refine g_X12_109 F r_a h dX12_item_65 (fun b17 r_b17 h => ?_)
  refine v_iload_n F dX12_item_68 0 rfl rfl ?_
  refine v_iconst (v := 0) F dX12_item_69 (by decide) ?_
  refine v_zast F r_b17 o_49 h dX12_item_70 (fun S18 h hE => ?_)
  have r_a := r_a.tr hE
  refine v_iload_n F dX12_item_71 0 rfl rfl ?_
  exact v_iret F hQ h (by decide) dX12_item_72
theorem dX12_openMusic_0 : decode cX12_openMusic 0 = .ok (.aload_n 0, 1) := by decide +kernel
theorem dX12_openMusic_1 : decode cX12_openMusic 1 = .ok (.getfield 113, 3) := by decide +kernel
theorem dX12_openMusic_4 : decode cX12_openMusic 4 = .ok (.aload_n 0, 1) := by decide +kernel
theorem dX12_openMusic_5 : decode cX12_openMusic 5 = .ok (.getfield 116, 3) := by decide +kernel
theorem dX12_openMusic_8 : decode cX12_openMusic 8 = .ok (.iload_n 1, 1) := by decide +kernel
theorem dX12_openMusic_9 : decode cX12_openMusic 9 = .ok (.iastore, 1) := by decide +kernel
theorem dX12_openMusic_10 : decode cX12_openMusic 10 = .ok (.aload_n 0, 1) := by decide +kernel
theorem dX12_openMusic_11 : decode cX12_openMusic 11 = .ok (.getfield 119, 3) := by decide +kernel
theorem dX12_openMusic_14 : decode cX12_openMusic 14 = .ok (.aload_n 0, 1) := by decide +kernel
theorem dX12_openMusic_15 : decode cX12_openMusic 15 = .ok (.getfield 116, 3) := by decide +kernel
theorem dX12_openMusic_18 : decode cX12_openMusic 18 = .ok (.iload_n 2, 1) := by decide +kernel
theorem dX12_openMusic_19 : decode cX12_openMusic 19 = .ok (.iastore, 1) := by decide +kernel
theorem dX12_openMusic_20 : decode cX12_openMusic 20 = .ok (.aload_n 0, 1) := by decide +kernel
theorem dX12_openMusic_21 : decode cX12_openMusic 21 = .ok (.getfield 122, 3) := by decide +kernel
theorem dX12_openMusic_24 : decode cX12_openMusic 24 = .ok (.aload_n 0, 1) := by decide +kernel
theorem dX12_openMusic_25 : decode cX12_openMusic 25 = .ok (.getfield 116, 3) := by decide +kernel
theorem dX12_openMusic_28 : decode cX12_openMusic 28 = .ok (.iload_n 3, 1) := by decide +kernel
theorem dX12_openMusic_29 : decode cX12_openMusic 29 = .ok (.iastore, 1) := by decide +kernel
theorem dX12_openMusic_30 : decode cX12_openMusic 30 = .ok (.aload_n 0, 1) := by decide +kernel
theorem dX12_openMusic_31 : decode cX12_openMusic 31 = .ok (.getfield 125, 3) := by decide +kernel
theorem dX12_openMusic_34 : decode cX12_openMusic 34 = .ok (.aload_n 0, 1) := by decide +kernel
theorem dX12_openMusic_35 : decode cX12_openMusic 35 = .ok (.getfield 116, 3) := by decide +kernel
theorem dX12_openMusic_38 : decode cX12_openMusic 38 = .ok (.iconst (-1), 1) := by decide +kernel
theorem dX12_openMusic_39 : decode cX12_openMusic 39 = .ok (.iastore, 1) := by decide +kernel
theorem dX12_openMusic_40 : decode cX12_openMusic 40 = .ok (.aload_n 0, 1) := by decide +kernel
theorem dX12_openMusic_41 : decode cX12_openMusic 41 = .ok (.dup, 1) := by decide +kernel
theorem dX12_openMusic_42 : decode cX12_openMusic 42 = .ok (.getfield 116, 3) := by decide +kernel
theorem dX12_openMusic_45 : decode cX12_openMusic 45 = .ok (.iconst 1, 1) := by decide +kernel
theorem dX12_openMusic_46 : decode cX12_openMusic 46 = .ok (.iadd, 1) := by decide +kernel
theorem dX12_openMusic_47 : decode cX12_openMusic 47 = .ok (.putfield 116, 3) := by decide +kernel
theorem dX12_openMusic_50 : decode cX12_openMusic 50 = .ok (.return_, 1) := by decide +kernel
abbrev rm_X12_openMusic : Room := { frames := 0, cells := 0, slots := 0, locals := 0 }
def wp_X12_openMusic (a : Nat) (p1 : Int32) (p2 : Int32) (p3 : Int32) (S : PS) (Q : PS → Prop) : Prop :=
  (∃ b1, fR S 130 a = some b1 ∧ (vp_in (fI S 134 a) (aN S b1) ∧ ∀ S2, S2 = wI S 61 b1 (fI S 134 a).toNatClampNeg p1 → (∃ b3, fR S2 131 a = some b3 ∧ (vp_in (fI S2 134 a) (aN S2 b3) ∧ ∀ S4, S4 = wI S2 62 b3 (fI S2 134 a).toNatClampNeg p2 → (∃ b5, fR S4 132 a = some b5 ∧ (vp_in (fI S4 134 a) (aN S4 b5) ∧ ∀ S6, S6 = wI S4 63 b5 (fI S4 134 a).toNatClampNeg p3 → (∃ b7, fR S6 133 a = some b7 ∧ (vp_in (fI S6 134 a) (aN S6 b7) ∧ ∀ S8, S8 = wI S6 64 b7 (fI S6 134 a).toNatClampNeg (-1) → (∀ S9, S9 = sI S8 134 a ((fI S8 134 a) + 1) → Q S9)))))))))
set_option maxRecDepth 100000 in
set_option maxHeartbeats 4000000 in
theorem c_X12_openMusic {l : Launch} {E : EE} {A : Nat → Prop} {a : Nat} {p1 : Int32} {p2 : Int32} {p3 : Int32} {S : PS} {Q : PS → Prop} (r_a : Rf S a 9) (h : wp_X12_openMusic a p1 p2 p3 S Q) : MtV l yX12_openMusic (.code yX12_openMusic cX12_openMusic 4 none) rm_X12_openMusic E A [.ref a, .int p1, .int p2, .int p3] S Q := by
  refine MtV.of (by decide) (Nat.le_of_ble_eq_true rfl) (fun X F hQ hN => ?_)
  show VV X (0, 0) S [(0, .ref a), (1, .int p1), (2, .int p2), (3, .int p3)] [] 0
  unfold wp_X12_openMusic at h
  refine v_aload_n F dX12_openMusic_0 0 rfl rfl ?_
  refine g_X12_113 F r_a h dX12_openMusic_1 (fun b1 r_b1 h => ?_)
  refine v_aload_n F dX12_openMusic_4 0 rfl rfl ?_
  refine g_X12_116 F r_a dX12_openMusic_5 ?_
  refine v_iload_n F dX12_openMusic_8 1 rfl rfl ?_
  refine v_iast F r_b1 o_61 h dX12_openMusic_9 (fun S2 h hE => ?_)
  have r_a := r_a.tr hE
  refine v_aload_n F dX12_openMusic_10 0 rfl rfl ?_
  refine g_X12_119 F r_a h dX12_openMusic_11 (fun b3 r_b3 h => ?_)
  refine v_aload_n F dX12_openMusic_14 0 rfl rfl ?_
  refine g_X12_116 F r_a dX12_openMusic_15 ?_
  refine v_iload_n F dX12_openMusic_18 2 rfl rfl ?_
  refine v_iast F r_b3 o_62 h dX12_openMusic_19 (fun S4 h hE => ?_)
  have r_a := r_a.tr hE
  refine v_aload_n F dX12_openMusic_20 0 rfl rfl ?_
  refine g_X12_122 F r_a h dX12_openMusic_21 (fun b5 r_b5 h => ?_)
  refine v_aload_n F dX12_openMusic_24 0 rfl rfl ?_
  refine g_X12_116 F r_a dX12_openMusic_25 ?_
  refine v_iload_n F dX12_openMusic_28 3 rfl rfl ?_
  refine v_iast F r_b5 o_63 h dX12_openMusic_29 (fun S6 h hE => ?_)
  have r_a := r_a.tr hE
  refine v_aload_n F dX12_openMusic_30 0 rfl rfl ?_
  refine g_X12_125 F r_a h dX12_openMusic_31 (fun b7 r_b7 h => ?_)
  refine v_aload_n F dX12_openMusic_34 0 rfl rfl ?_
  refine g_X12_116 F r_a dX12_openMusic_35 ?_
  refine v_iconst (v := (-1)) F dX12_openMusic_38 (by decide) ?_
  refine v_iast F r_b7 o_64 h dX12_openMusic_39 (fun S8 h hE => ?_)
  have r_a := r_a.tr hE
  refine v_aload_n F dX12_openMusic_40 0 rfl rfl ?_
  refine v_dup F dX12_openMusic_41 rfl ?_
  refine g_X12_116 F r_a dX12_openMusic_42 ?_
  refine v_iconst (v := 1) F dX12_openMusic_45 (by decide) ?_
  refine v_iadd F dX12_openMusic_46 ?_
  refine p_X12_116 F r_a h dX12_openMusic_47 (fun S9 h hE => ?_)
  have r_a := r_a.tr hE
  exact v_vret F hQ h (by decide) dX12_openMusic_50
theorem dX12_hang_0 : decode cX12_hang 0 = .ok (.aload_n 0, 1) := by decide +kernel
theorem dX12_hang_1 : decode cX12_hang 1 = .ok (.getfield 116, 3) := by decide +kernel
theorem dX12_hang_4 : decode cX12_hang 4 = .ok (.iconst 1, 1) := by decide +kernel
theorem dX12_hang_5 : decode cX12_hang 5 = .ok (.isub, 1) := by decide +kernel
theorem dX12_hang_6 : decode cX12_hang 6 = .ok (.istore_n 2, 1) := by decide +kernel
theorem dX12_hang_7 : decode cX12_hang 7 = .ok (.aload_n 0, 1) := by decide +kernel
theorem dX12_hang_8 : decode cX12_hang 8 = .ok (.getfield 125, 3) := by decide +kernel
theorem dX12_hang_11 : decode cX12_hang 11 = .ok (.iload_n 2, 1) := by decide +kernel
theorem dX12_hang_12 : decode cX12_hang 12 = .ok (.iaload, 1) := by decide +kernel
theorem dX12_hang_13 : decode cX12_hang 13 = .ok (.iconst (-1), 1) := by decide +kernel
theorem dX12_hang_14 : decode cX12_hang 14 = .ok (.if_icmp .ne 18, 3) := by decide +kernel
theorem dX12_hang_17 : decode cX12_hang 17 = .ok (.aload_n 0, 1) := by decide +kernel
theorem dX12_hang_18 : decode cX12_hang 18 = .ok (.getfield 99, 3) := by decide +kernel
theorem dX12_hang_21 : decode cX12_hang 21 = .ok (.aload_n 0, 1) := by decide +kernel
theorem dX12_hang_22 : decode cX12_hang 22 = .ok (.getfield 122, 3) := by decide +kernel
theorem dX12_hang_25 : decode cX12_hang 25 = .ok (.iload_n 2, 1) := by decide +kernel
theorem dX12_hang_26 : decode cX12_hang 26 = .ok (.iaload, 1) := by decide +kernel
theorem dX12_hang_27 : decode cX12_hang 27 = .ok (.iload_n 1, 1) := by decide +kernel
theorem dX12_hang_28 : decode cX12_hang 28 = .ok (.iastore, 1) := by decide +kernel
theorem dX12_hang_29 : decode cX12_hang 29 = .ok (.goto 15, 3) := by decide +kernel
theorem dX12_hang_32 : decode cX12_hang 32 = .ok (.aload_n 0, 1) := by decide +kernel
theorem dX12_hang_33 : decode cX12_hang 33 = .ok (.getfield 102, 3) := by decide +kernel
theorem dX12_hang_36 : decode cX12_hang 36 = .ok (.aload_n 0, 1) := by decide +kernel
theorem dX12_hang_37 : decode cX12_hang 37 = .ok (.getfield 125, 3) := by decide +kernel
theorem dX12_hang_40 : decode cX12_hang 40 = .ok (.iload_n 2, 1) := by decide +kernel
theorem dX12_hang_41 : decode cX12_hang 41 = .ok (.iaload, 1) := by decide +kernel
theorem dX12_hang_42 : decode cX12_hang 42 = .ok (.iload_n 1, 1) := by decide +kernel
theorem dX12_hang_43 : decode cX12_hang 43 = .ok (.iastore, 1) := by decide +kernel
theorem dX12_hang_44 : decode cX12_hang 44 = .ok (.aload_n 0, 1) := by decide +kernel
theorem dX12_hang_45 : decode cX12_hang 45 = .ok (.getfield 125, 3) := by decide +kernel
theorem dX12_hang_48 : decode cX12_hang 48 = .ok (.iload_n 2, 1) := by decide +kernel
theorem dX12_hang_49 : decode cX12_hang 49 = .ok (.iload_n 1, 1) := by decide +kernel
theorem dX12_hang_50 : decode cX12_hang 50 = .ok (.iastore, 1) := by decide +kernel
theorem dX12_hang_51 : decode cX12_hang 51 = .ok (.return_, 1) := by decide +kernel
abbrev rm_X12_hang : Room := { frames := 0, cells := 0, slots := 0, locals := 0 }
def wp_X12_hang (a : Nat) (p1 : Int32) (S : PS) (Q : PS → Prop) : Prop :=
  (∀ v1, v1 = (fI S 134 a) - 1 → (∃ b2, fR S 133 a = some b2 ∧ (vp_in v1 (aN S b2) ∧ (∀ K44_4 : PS → Prop, (∀ (S3 : PS),
 (∃ b5, fR S3 133 a = some b5 ∧ (vp_in v1 (aN S3 b5) ∧ ∀ S6, S6 = wI S3 64 b5 (v1).toNatClampNeg p1 → Q S6))
 → K44_4 S3) →
 (if aI S 64 b2 (v1).toNatClampNeg = (-1) then
 (∃ b10, fR S 109 a = some b10 ∧ (∃ b11, fR S 132 a = some b11 ∧ (vp_in v1 (aN S b11) ∧ (vp_in (aI S 63 b11 (v1).toNatClampNeg) (aN S b10) ∧ ∀ S12, S12 = wI S 46 b10 (aI S 63 b11 (v1).toNatClampNeg).toNatClampNeg p1 → K44_4 S12))))
 else
 (∃ b7, fR S 110 a = some b7 ∧ (∃ b8, fR S 133 a = some b8 ∧ (vp_in v1 (aN S b8) ∧ (vp_in (aI S 64 b8 (v1).toNatClampNeg) (aN S b7) ∧ ∀ S9, S9 = wI S 47 b7 (aI S 64 b8 (v1).toNatClampNeg).toNatClampNeg p1 → K44_4 S9)))))))))
set_option maxRecDepth 100000 in
set_option maxHeartbeats 4000000 in
theorem c_X12_hang {l : Launch} {E : EE} {A : Nat → Prop} {a : Nat} {p1 : Int32} {S : PS} {Q : PS → Prop} (r_a : Rf S a 9) (h : wp_X12_hang a p1 S Q) : MtV l yX12_hang (.code yX12_hang cX12_hang 3 none) rm_X12_hang E A [.ref a, .int p1] S Q := by
  refine MtV.of (by decide) (Nat.le_of_ble_eq_true rfl) (fun X F hQ hN => ?_)
  show VV X (0, 0) S [(0, .ref a), (1, .int p1)] [] 0
  unfold wp_X12_hang at h
  refine v_aload_n F dX12_hang_0 0 rfl rfl ?_
  refine g_X12_116 F r_a dX12_hang_1 ?_
  refine v_iconst (v := 1) F dX12_hang_4 (by decide) ?_
  refine v_isub F dX12_hang_5 ?_
  refine v_topi (fun v1 e_v1 => ?_)
  have h := h v1 e_v1
  refine v_istore_n (lv1 := [(2, .int v1), (0, .ref a), (1, .int p1)]) F dX12_hang_6 rfl (by rw [hN]; decide) rfl ?_
  refine v_aload_n F dX12_hang_7 1 rfl rfl ?_
  refine g_X12_125 F r_a h dX12_hang_8 (fun b2 r_b2 h => ?_)
  refine v_iload_n F dX12_hang_11 0 rfl rfl ?_
  refine v_iald F r_b2 o_64 h dX12_hang_12 (fun h => ?_)
  refine v_iconst (v := (-1)) F dX12_hang_13 (by decide) ?_
  have h := h (fun (S3 : PS) => Rf S3 a 9 → VV X (0, 0) S3 [(0, .ref a), (1, .int p1), (2, .int v1)] [] 44) (by
    intro S3 h r_a
    refine v_aload_n F dX12_hang_44 0 rfl rfl ?_
    refine g_X12_125 F r_a h dX12_hang_45 (fun b5 r_b5 h => ?_)
    refine v_iload_n F dX12_hang_48 2 rfl rfl ?_
    refine v_iload_n F dX12_hang_49 1 rfl rfl ?_
    refine v_iast F r_b5 o_64 h dX12_hang_50 (fun S6 h hE => ?_)
    have r_a := r_a.tr hE
    exact v_vret F hQ h (by decide) dX12_hang_51)
  refine v_icmp_ne (tgt := 32) F dX12_hang_14 (by decide) h (fun h => ?_) (fun h => ?_)
  · refine v_aload_n F dX12_hang_32 1 rfl rfl ?_
    refine g_X12_102 F r_a h dX12_hang_33 (fun b7 r_b7 h => ?_)
    refine v_aload_n F dX12_hang_36 1 rfl rfl ?_
    refine g_X12_125 F r_a h dX12_hang_37 (fun b8 r_b8 h => ?_)
    refine v_iload_n F dX12_hang_40 0 rfl rfl ?_
    refine v_iald F r_b8 o_64 h dX12_hang_41 (fun h => ?_)
    refine v_iload_n F dX12_hang_42 2 rfl rfl ?_
    refine v_iast F r_b7 o_47 h dX12_hang_43 (fun S9 h hE => ?_)
    have r_a := r_a.tr hE
    exact v_sub [1, 2, 0] rfl (h r_a)
  · refine v_aload_n F dX12_hang_17 1 rfl rfl ?_
    refine g_X12_99 F r_a h dX12_hang_18 (fun b10 r_b10 h => ?_)
    refine v_aload_n F dX12_hang_21 1 rfl rfl ?_
    refine g_X12_122 F r_a h dX12_hang_22 (fun b11 r_b11 h => ?_)
    refine v_iload_n F dX12_hang_25 0 rfl rfl ?_
    refine v_iald F r_b11 o_63 h dX12_hang_26 (fun h => ?_)
    refine v_iload_n F dX12_hang_27 2 rfl rfl ?_
    refine v_iast F r_b10 o_46 h dX12_hang_28 (fun S12 h hE => ?_)
    have r_a := r_a.tr hE
    refine v_goto (tgt := 44) F dX12_hang_29 (by decide) ?_
    exact v_sub [1, 2, 0] rfl (h r_a)
theorem dX12_openBlock_0 : decode cX12_openBlock 0 = .ok (.aload_n 0, 1) := by decide +kernel
theorem dX12_openBlock_1 : decode cX12_openBlock 1 = .ok (.getfield 23, 3) := by decide +kernel
theorem dX12_openBlock_4 : decode cX12_openBlock 4 = .ok (.ifCond .le 4, 3) := by decide +kernel
theorem dX12_openBlock_7 : decode cX12_openBlock 7 = .ok (.return_, 1) := by decide +kernel
theorem dX12_openBlock_8 : decode cX12_openBlock 8 = .ok (.aload_n 0, 1) := by decide +kernel
theorem dX12_openBlock_9 : decode cX12_openBlock 9 = .ok (.invokevirtual 46, 3) := by decide +kernel
theorem dX12_openBlock_12 : decode cX12_openBlock 12 = .ok (.aload_n 0, 1) := by decide +kernel
theorem dX12_openBlock_13 : decode cX12_openBlock 13 = .ok (.bipush 123, 2) := by decide +kernel
theorem dX12_openBlock_15 : decode cX12_openBlock 15 = .ok (.invokevirtual 42, 3) := by decide +kernel
theorem dX12_openBlock_18 : decode cX12_openBlock 18 = .ok (.ifCond .ne 15, 3) := by decide +kernel
theorem dX12_openBlock_21 : decode cX12_openBlock 21 = .ok (.aload_n 0, 1) := by decide +kernel
theorem dX12_openBlock_22 : decode cX12_openBlock 22 = .ok (.iconst 1, 1) := by decide +kernel
theorem dX12_openBlock_23 : decode cX12_openBlock 23 = .ok (.aload_n 0, 1) := by decide +kernel
theorem dX12_openBlock_24 : decode cX12_openBlock 24 = .ok (.getfield 29, 3) := by decide +kernel
theorem dX12_openBlock_27 : decode cX12_openBlock 27 = .ok (.invokevirtual 50, 3) := by decide +kernel
theorem dX12_openBlock_30 : decode cX12_openBlock 30 = .ok (.goto 52, 3) := by decide +kernel
theorem dX12_openBlock_33 : decode cX12_openBlock 33 = .ok (.aload_n 0, 1) := by decide +kernel
theorem dX12_openBlock_34 : decode cX12_openBlock 34 = .ok (.getfield 116, 3) := by decide +kernel
theorem dX12_openBlock_37 : decode cX12_openBlock 37 = .ok (.bipush 9, 2) := by decide +kernel
theorem dX12_openBlock_39 : decode cX12_openBlock 39 = .ok (.if_icmp .ne 15, 3) := by decide +kernel
theorem dX12_openBlock_42 : decode cX12_openBlock 42 = .ok (.aload_n 0, 1) := by decide +kernel
theorem dX12_openBlock_43 : decode cX12_openBlock 43 = .ok (.iconst 5, 1) := by decide +kernel
theorem dX12_openBlock_44 : decode cX12_openBlock 44 = .ok (.aload_n 0, 1) := by decide +kernel
theorem dX12_openBlock_45 : decode cX12_openBlock 45 = .ok (.getfield 29, 3) := by decide +kernel
theorem dX12_openBlock_48 : decode cX12_openBlock 48 = .ok (.invokevirtual 50, 3) := by decide +kernel
theorem dX12_openBlock_51 : decode cX12_openBlock 51 = .ok (.goto 31, 3) := by decide +kernel
theorem dX12_openBlock_54 : decode cX12_openBlock 54 = .ok (.aload_n 0, 1) := by decide +kernel
theorem dX12_openBlock_55 : decode cX12_openBlock 55 = .ok (.bipush 11, 2) := by decide +kernel
theorem dX12_openBlock_57 : decode cX12_openBlock 57 = .ok (.aload_n 0, 1) := by decide +kernel
theorem dX12_openBlock_58 : decode cX12_openBlock 58 = .ok (.getfield 29, 3) := by decide +kernel
theorem dX12_openBlock_61 : decode cX12_openBlock 61 = .ok (.invokevirtual 128, 3) := by decide +kernel
theorem dX12_openBlock_64 : decode cX12_openBlock 64 = .ok (.istore_n 3, 1) := by decide +kernel
theorem dX12_openBlock_65 : decode cX12_openBlock 65 = .ok (.aload_n 0, 1) := by decide +kernel
theorem dX12_openBlock_66 : decode cX12_openBlock 66 = .ok (.dup, 1) := by decide +kernel
theorem dX12_openBlock_67 : decode cX12_openBlock 67 = .ok (.getfield 29, 3) := by decide +kernel
theorem dX12_openBlock_70 : decode cX12_openBlock 70 = .ok (.iconst 1, 1) := by decide +kernel
theorem dX12_openBlock_71 : decode cX12_openBlock 71 = .ok (.iadd, 1) := by decide +kernel
theorem dX12_openBlock_72 : decode cX12_openBlock 72 = .ok (.putfield 29, 3) := by decide +kernel
theorem dX12_openBlock_75 : decode cX12_openBlock 75 = .ok (.aload_n 0, 1) := by decide +kernel
theorem dX12_openBlock_76 : decode cX12_openBlock 76 = .ok (.iload_n 1, 1) := by decide +kernel
theorem dX12_openBlock_77 : decode cX12_openBlock 77 = .ok (.iload_n 2, 1) := by decide +kernel
theorem dX12_openBlock_78 : decode cX12_openBlock 78 = .ok (.iload_n 3, 1) := by decide +kernel
theorem dX12_openBlock_79 : decode cX12_openBlock 79 = .ok (.invokevirtual 132, 3) := by decide +kernel
theorem dX12_openBlock_82 : decode cX12_openBlock 82 = .ok (.return_, 1) := by decide +kernel
abbrev rm_X12_openBlock : Room := { frames := 3, cells := 0, slots := 0, locals := 61 }
def wp_X12_openBlock (a : Nat) (p1 : Int32) (p2 : Int32) (S : PS) (Q : PS → Prop) : Prop :=
  (if fI S 102 a ≤ 0 then
 wp_X12_blanks a S (fun (S1 : PS) => 
 wp_X12_isHere a 123 S1 (fun (r3 : Int32) (S2 : PS) => 
 (if r3 = 0 then
 wp_X12_bad a 1 (fI S2 101 a) S2 (fun (S9 : PS) => 
 Q S9)
 else
 (if fI S2 134 a = 9 then
 wp_X12_bad a 5 (fI S2 101 a) S2 (fun (S8 : PS) => 
 Q S8)
 else
 wp_X12_item a 11 (fI S2 101 a) S2 (fun (r5 : Int32) (S4 : PS) => 
 (∀ S6, S6 = sI S4 101 a ((fI S4 101 a) + 1) → wp_X12_openMusic a p1 p2 r5 S6 (fun (S7 : PS) => 
 Q S7)))))))
 else
 Q S)
set_option maxRecDepth 100000 in
set_option maxHeartbeats 4000000 in
theorem c_X12_openBlock {l : Launch} {E : EE} {A : Nat → Prop} {a : Nat} {p1 : Int32} {p2 : Int32} {S : PS} {Q : PS → Prop} (r_a : Rf S a 9) (h : wp_X12_openBlock a p1 p2 S Q) : MtV l yX12_openBlock (.code yX12_openBlock cX12_openBlock 4 none) rm_X12_openBlock E A [.ref a, .int p1, .int p2] S Q := by
  refine MtV.of (by decide) (Nat.le_of_ble_eq_true rfl) (fun X F hQ hN => ?_)
  show VV X (0, 0) S [(0, .ref a), (1, .int p1), (2, .int p2)] [] 0
  unfold wp_X12_openBlock at h
  refine v_aload_n F dX12_openBlock_0 0 rfl rfl ?_
  refine g_X12_23 F r_a dX12_openBlock_1 ?_
  refine v_if_le (tgt := 8) F dX12_openBlock_4 (by decide) h (fun h => ?_) (fun h => ?_)
  · refine v_aload_n F dX12_openBlock_8 0 rfl rfl ?_
    refine v_cV0 (v_runV F k_X12_46 rfl (c_X12_blanks r_a h) r_a rfl rfl (Nat.le_of_ble_eq_true rfl) (by decide) (by decide) dX12_openBlock_9) ⟨rfl, rfl⟩ (fun  S1 h hE => ?_)
    have r_a := r_a.tr hE
    refine v_aload_n F dX12_openBlock_12 0 rfl rfl ?_
    refine v_bipush (v := 123) F dX12_openBlock_13 (by decide) ?_
    refine v_cI0 (v_runV F k_X12_42 rfl (c_X12_isHere r_a h) r_a rfl rfl (Nat.le_of_ble_eq_true rfl) (by decide) (by decide) dX12_openBlock_15) ⟨rfl, rfl⟩ (fun r3 S2 h hE => ?_)
    obtain ⟨nz_r3, h⟩ := h
    have r_a := r_a.tr hE
    refine v_if_ne (tgt := 33) F dX12_openBlock_18 (by decide) h (fun h => ?_) (fun h => ?_)
    · refine v_aload_n F dX12_openBlock_33 0 rfl rfl ?_
      refine g_X12_116 F r_a dX12_openBlock_34 ?_
      refine v_bipush (v := 9) F dX12_openBlock_37 (by decide) ?_
      refine v_icmp_ne (tgt := 54) F dX12_openBlock_39 (by decide) h (fun h => ?_) (fun h => ?_)
      · refine v_aload_n F dX12_openBlock_54 0 rfl rfl ?_
        refine v_bipush (v := 11) F dX12_openBlock_55 (by decide) ?_
        refine v_aload_n F dX12_openBlock_57 0 rfl rfl ?_
        refine g_X12_29 F r_a dX12_openBlock_58 ?_
        refine v_cI0 (v_runV F k_X12_128 rfl (c_X12_item r_a h) r_a rfl rfl (Nat.le_of_ble_eq_true rfl) (by decide) (by decide) dX12_openBlock_61) ⟨rfl, rfl⟩ (fun r5 S4 h hE => ?_)
        have r_a := r_a.tr hE
        refine v_istore_n (lv1 := [(3, .int r5), (0, .ref a), (1, .int p1), (2, .int p2)]) F dX12_openBlock_64 rfl (by rw [hN]; decide) rfl ?_
        refine v_aload_n F dX12_openBlock_65 1 rfl rfl ?_
        refine v_dup F dX12_openBlock_66 rfl ?_
        refine g_X12_29 F r_a dX12_openBlock_67 ?_
        refine v_iconst (v := 1) F dX12_openBlock_70 (by decide) ?_
        refine v_iadd F dX12_openBlock_71 ?_
        refine p_X12_29 F r_a h dX12_openBlock_72 (fun S6 h hE => ?_)
        have r_a := r_a.tr hE
        refine v_aload_n F dX12_openBlock_75 1 rfl rfl ?_
        refine v_iload_n F dX12_openBlock_76 2 rfl rfl ?_
        refine v_iload_n F dX12_openBlock_77 3 rfl rfl ?_
        refine v_iload_n F dX12_openBlock_78 0 rfl rfl ?_
        refine v_cV0 (v_runV F k_X12_132 rfl (c_X12_openMusic r_a h) r_a rfl rfl (Nat.le_of_ble_eq_true rfl) (by decide) (by decide) dX12_openBlock_79) ⟨rfl, rfl⟩ (fun  S7 h hE => ?_)
        have r_a := r_a.tr hE
        exact v_vret F hQ h (by decide) dX12_openBlock_82
      · refine v_aload_n F dX12_openBlock_42 0 rfl rfl ?_
        refine v_iconst (v := 5) F dX12_openBlock_43 (by decide) ?_
        refine v_aload_n F dX12_openBlock_44 0 rfl rfl ?_
        refine g_X12_29 F r_a dX12_openBlock_45 ?_
        refine v_cV0 (v_runV F k_X12_50 rfl (c_X12_bad r_a h) r_a rfl rfl (Nat.le_of_ble_eq_true rfl) (by decide) (by decide) dX12_openBlock_48) ⟨rfl, rfl⟩ (fun  S8 h hE => ?_)
        have r_a := r_a.tr hE
        refine v_goto (tgt := 82) F dX12_openBlock_51 (by decide) ?_
        exact v_vret F hQ h (by decide) dX12_openBlock_82
    · refine v_aload_n F dX12_openBlock_21 0 rfl rfl ?_
      refine v_iconst (v := 1) F dX12_openBlock_22 (by decide) ?_
      refine v_aload_n F dX12_openBlock_23 0 rfl rfl ?_
      refine g_X12_29 F r_a dX12_openBlock_24 ?_
      refine v_cV0 (v_runV F k_X12_50 rfl (c_X12_bad r_a h) r_a rfl rfl (Nat.le_of_ble_eq_true rfl) (by decide) (by decide) dX12_openBlock_27) ⟨rfl, rfl⟩ (fun  S9 h hE => ?_)
      have r_a := r_a.tr hE
      refine v_goto (tgt := 82) F dX12_openBlock_30 (by decide) ?_
      exact v_vret F hQ h (by decide) dX12_openBlock_82
  · exact v_vret F hQ h (by decide) dX12_openBlock_7
theorem dX12_signs_0 : decode cX12_signs 0 = .ok (.iconst 0, 1) := by decide +kernel
theorem dX12_signs_1 : decode cX12_signs 1 = .ok (.istore_n 3, 1) := by decide +kernel
theorem dX12_signs_2 : decode cX12_signs 2 = .ok (.iload_n 3, 1) := by decide +kernel
theorem dX12_signs_3 : decode cX12_signs 3 = .ok (.iload_n 2, 1) := by decide +kernel
theorem dX12_signs_4 : decode cX12_signs 4 = .ok (.if_icmp .ge 27, 3) := by decide +kernel
theorem dX12_signs_7 : decode cX12_signs 7 = .ok (.aload_n 0, 1) := by decide +kernel
theorem dX12_signs_8 : decode cX12_signs 8 = .ok (.iload_n 1, 1) := by decide +kernel
theorem dX12_signs_9 : decode cX12_signs 9 = .ok (.invokevirtual 42, 3) := by decide +kernel
theorem dX12_signs_12 : decode cX12_signs 12 = .ok (.ifCond .eq 19, 3) := by decide +kernel
theorem dX12_signs_15 : decode cX12_signs 15 = .ok (.iinc 3 1, 3) := by decide +kernel
theorem dX12_signs_18 : decode cX12_signs 18 = .ok (.aload_n 0, 1) := by decide +kernel
theorem dX12_signs_19 : decode cX12_signs 19 = .ok (.dup, 1) := by decide +kernel
theorem dX12_signs_20 : decode cX12_signs 20 = .ok (.getfield 29, 3) := by decide +kernel
theorem dX12_signs_23 : decode cX12_signs 23 = .ok (.iconst 1, 1) := by decide +kernel
theorem dX12_signs_24 : decode cX12_signs 24 = .ok (.iadd, 1) := by decide +kernel
theorem dX12_signs_25 : decode cX12_signs 25 = .ok (.putfield 29, 3) := by decide +kernel
theorem dX12_signs_28 : decode cX12_signs 28 = .ok (.goto (-26), 3) := by decide +kernel
theorem dX12_signs_31 : decode cX12_signs 31 = .ok (.iload_n 3, 1) := by decide +kernel
theorem dX12_signs_32 : decode cX12_signs 32 = .ok (.ireturn, 1) := by decide +kernel
abbrev rm_X12_signs : Room := { frames := 2, cells := 0, slots := 0, locals := 41 }
def wp_X12_signs (a : Nat) (p1 : Int32) (p2 : Int32) (S : PS) (Q : Int32 → PS → Prop) : Prop :=
  (∀ P2_1 : Int32 → PS → Prop, (∀ (x3_2 : Int32) (S3 : PS),
 (if p2 ≤ x3_2 then
 Q x3_2 S3
 else
 wp_X12_isHere a p1 S3 (fun (r5 : Int32) (S4 : PS) => 
 (if r5 = 0 then
 Q x3_2 S4
 else
 (∀ v6, v6 = x3_2 + 1 → (∀ S7, S7 = sI S4 101 a ((fI S4 101 a) + 1) → P2_1 v6 S7)))))
 → P2_1 x3_2 S3) → P2_1 0 S)
set_option maxRecDepth 100000 in
set_option maxHeartbeats 4000000 in
theorem c_X12_signs {l : Launch} {E : EE} {A : Nat → Prop} {a : Nat} {p1 : Int32} {p2 : Int32} {S : PS} {Q : Int32 → PS → Prop} (r_a : Rf S a 9) (h : wp_X12_signs a p1 p2 S Q) : MtI l yX12_signs (.code yX12_signs cX12_signs 4 (some .int)) rm_X12_signs E A [.ref a, .int p1, .int p2] S Q := by
  refine MtI.of (by decide) (Nat.le_of_ble_eq_true rfl) (fun X F hQ hN => ?_)
  show VV X (0, 0) S [(0, .ref a), (1, .int p1), (2, .int p2)] [] 0
  unfold wp_X12_signs at h
  refine v_iconst (v := 0) F dX12_signs_0 (by decide) ?_
  refine v_istore_n (lv1 := [(3, .int 0), (0, .ref a), (1, .int p1), (2, .int p2)]) F dX12_signs_1 rfl (by rw [hN]; decide) rfl ?_
  refine v_sub [1, 2, 3, 0] rfl ?_
  refine h (fun (x3_2 : Int32) (S3 : PS) => Rf S3 a 9 → VV X (0, 0) S3 [(0, .ref a), (1, .int p1), (2, .int p2), (3, .int x3_2)] [] 2) (fun x3_2 S3 h r_a => ?_) r_a
  refine v_iload_n F dX12_signs_2 3 rfl rfl ?_
  refine v_iload_n F dX12_signs_3 2 rfl rfl ?_
  refine v_icmp_ge (tgt := 31) F dX12_signs_4 (by decide) h (fun h => ?_) (fun h => ?_)
  · refine v_iload_n F dX12_signs_31 3 rfl rfl ?_
    exact v_iret F hQ h (by decide) dX12_signs_32
  · refine v_aload_n F dX12_signs_7 0 rfl rfl ?_
    refine v_iload_n F dX12_signs_8 1 rfl rfl ?_
    refine v_cI0 (v_runV F k_X12_42 rfl (c_X12_isHere r_a h) r_a rfl rfl (Nat.le_of_ble_eq_true rfl) (by decide) (by decide) dX12_signs_9) ⟨rfl, rfl⟩ (fun r5 S4 h hE => ?_)
    obtain ⟨nz_r5, h⟩ := h
    have r_a := r_a.tr hE
    refine v_if_eq (tgt := 31) F dX12_signs_12 (by decide) h (fun h => ?_) (fun h => ?_)
    · refine v_iload_n F dX12_signs_31 3 rfl rfl ?_
      exact v_iret F hQ h (by decide) dX12_signs_32
    · obtain ⟨v6, e_v6⟩ : ∃ y : Int32, y = x3_2 + 1 := ⟨_, rfl⟩
      have h := h v6 e_v6
      refine v_iinc (v := v6) (lv1 := [(3, .int v6), (0, .ref a), (1, .int p1), (2, .int p2)]) F dX12_signs_15 (q := 3) rfl (by rw [e_v6]; rfl) (by rw [hN]; decide) rfl ?_
      refine v_aload_n F dX12_signs_18 1 rfl rfl ?_
      refine v_dup F dX12_signs_19 rfl ?_
      refine g_X12_29 F r_a dX12_signs_20 ?_
      refine v_iconst (v := 1) F dX12_signs_23 (by decide) ?_
      refine v_iadd F dX12_signs_24 ?_
      refine p_X12_29 F r_a h dX12_signs_25 (fun S7 h hE => ?_)
      have r_a := r_a.tr hE
      refine v_goto (tgt := 2) F dX12_signs_28 (by decide) ?_
      exact v_sub [1, 2, 3, 0] rfl (h r_a)
theorem dX12_pitchAt_0 : decode cX12_pitchAt 0 = .ok (.aload_n 0, 1) := by decide +kernel
theorem dX12_pitchAt_1 : decode cX12_pitchAt 1 = .ok (.getfield 198, 3) := by decide +kernel
theorem dX12_pitchAt_4 : decode cX12_pitchAt 4 = .ok (.aload_n 0, 1) := by decide +kernel
theorem dX12_pitchAt_5 : decode cX12_pitchAt 5 = .ok (.getfield 189, 3) := by decide +kernel
theorem dX12_pitchAt_8 : decode cX12_pitchAt 8 = .ok (.aload_n 0, 1) := by decide +kernel
theorem dX12_pitchAt_9 : decode cX12_pitchAt 9 = .ok (.invokevirtual 38, 3) := by decide +kernel
theorem dX12_pitchAt_12 : decode cX12_pitchAt 12 = .ok (.bipush 99, 2) := by decide +kernel
theorem dX12_pitchAt_14 : decode cX12_pitchAt 14 = .ok (.isub, 1) := by decide +kernel
theorem dX12_pitchAt_15 : decode cX12_pitchAt 15 = .ok (.bipush 7, 2) := by decide +kernel
theorem dX12_pitchAt_17 : decode cX12_pitchAt 17 = .ok (.iadd, 1) := by decide +kernel
theorem dX12_pitchAt_18 : decode cX12_pitchAt 18 = .ok (.bipush 7, 2) := by decide +kernel
theorem dX12_pitchAt_20 : decode cX12_pitchAt 20 = .ok (.irem, 1) := by decide +kernel
theorem dX12_pitchAt_21 : decode cX12_pitchAt 21 = .ok (.iastore, 1) := by decide +kernel
theorem dX12_pitchAt_22 : decode cX12_pitchAt 22 = .ok (.aload_n 0, 1) := by decide +kernel
theorem dX12_pitchAt_23 : decode cX12_pitchAt 23 = .ok (.dup, 1) := by decide +kernel
theorem dX12_pitchAt_24 : decode cX12_pitchAt 24 = .ok (.getfield 29, 3) := by decide +kernel
theorem dX12_pitchAt_27 : decode cX12_pitchAt 27 = .ok (.iconst 1, 1) := by decide +kernel
theorem dX12_pitchAt_28 : decode cX12_pitchAt 28 = .ok (.iadd, 1) := by decide +kernel
theorem dX12_pitchAt_29 : decode cX12_pitchAt 29 = .ok (.putfield 29, 3) := by decide +kernel
theorem dX12_pitchAt_32 : decode cX12_pitchAt 32 = .ok (.aload_n 0, 1) := by decide +kernel
theorem dX12_pitchAt_33 : decode cX12_pitchAt 33 = .ok (.getfield 201, 3) := by decide +kernel
theorem dX12_pitchAt_36 : decode cX12_pitchAt 36 = .ok (.aload_n 0, 1) := by decide +kernel
theorem dX12_pitchAt_37 : decode cX12_pitchAt 37 = .ok (.getfield 189, 3) := by decide +kernel
theorem dX12_pitchAt_40 : decode cX12_pitchAt 40 = .ok (.aload_n 0, 1) := by decide +kernel
theorem dX12_pitchAt_41 : decode cX12_pitchAt 41 = .ok (.bipush 43, 2) := by decide +kernel
theorem dX12_pitchAt_43 : decode cX12_pitchAt 43 = .ok (.invokevirtual 42, 3) := by decide +kernel
theorem dX12_pitchAt_46 : decode cX12_pitchAt 46 = .ok (.ifCond .eq 13, 3) := by decide +kernel
theorem dX12_pitchAt_49 : decode cX12_pitchAt 49 = .ok (.aload_n 0, 1) := by decide +kernel
theorem dX12_pitchAt_50 : decode cX12_pitchAt 50 = .ok (.bipush 43, 2) := by decide +kernel
theorem dX12_pitchAt_52 : decode cX12_pitchAt 52 = .ok (.iconst 2, 1) := by decide +kernel
theorem dX12_pitchAt_53 : decode cX12_pitchAt 53 = .ok (.invokevirtual 204, 3) := by decide +kernel
theorem dX12_pitchAt_56 : decode cX12_pitchAt 56 = .ok (.goto 11, 3) := by decide +kernel
theorem dX12_pitchAt_59 : decode cX12_pitchAt 59 = .ok (.aload_n 0, 1) := by decide +kernel
theorem dX12_pitchAt_60 : decode cX12_pitchAt 60 = .ok (.bipush 45, 2) := by decide +kernel
theorem dX12_pitchAt_62 : decode cX12_pitchAt 62 = .ok (.iconst 2, 1) := by decide +kernel
theorem dX12_pitchAt_63 : decode cX12_pitchAt 63 = .ok (.invokevirtual 204, 3) := by decide +kernel
theorem dX12_pitchAt_66 : decode cX12_pitchAt 66 = .ok (.ineg, 1) := by decide +kernel
theorem dX12_pitchAt_67 : decode cX12_pitchAt 67 = .ok (.iastore, 1) := by decide +kernel
theorem dX12_pitchAt_68 : decode cX12_pitchAt 68 = .ok (.aload_n 0, 1) := by decide +kernel
theorem dX12_pitchAt_69 : decode cX12_pitchAt 69 = .ok (.getfield 207, 3) := by decide +kernel
theorem dX12_pitchAt_72 : decode cX12_pitchAt 72 = .ok (.aload_n 0, 1) := by decide +kernel
theorem dX12_pitchAt_73 : decode cX12_pitchAt 73 = .ok (.getfield 189, 3) := by decide +kernel
theorem dX12_pitchAt_76 : decode cX12_pitchAt 76 = .ok (.aload_n 0, 1) := by decide +kernel
theorem dX12_pitchAt_77 : decode cX12_pitchAt 77 = .ok (.bipush 39, 2) := by decide +kernel
theorem dX12_pitchAt_79 : decode cX12_pitchAt 79 = .ok (.invokevirtual 42, 3) := by decide +kernel
theorem dX12_pitchAt_82 : decode cX12_pitchAt 82 = .ok (.ifCond .eq 14, 3) := by decide +kernel
theorem dX12_pitchAt_85 : decode cX12_pitchAt 85 = .ok (.aload_n 0, 1) := by decide +kernel
theorem dX12_pitchAt_86 : decode cX12_pitchAt 86 = .ok (.bipush 39, 2) := by decide +kernel
theorem dX12_pitchAt_88 : decode cX12_pitchAt 88 = .ok (.bipush 9, 2) := by decide +kernel
theorem dX12_pitchAt_90 : decode cX12_pitchAt 90 = .ok (.invokevirtual 204, 3) := by decide +kernel
theorem dX12_pitchAt_93 : decode cX12_pitchAt 93 = .ok (.goto 12, 3) := by decide +kernel
theorem dX12_pitchAt_96 : decode cX12_pitchAt 96 = .ok (.aload_n 0, 1) := by decide +kernel
theorem dX12_pitchAt_97 : decode cX12_pitchAt 97 = .ok (.bipush 44, 2) := by decide +kernel
theorem dX12_pitchAt_99 : decode cX12_pitchAt 99 = .ok (.bipush 9, 2) := by decide +kernel
theorem dX12_pitchAt_101 : decode cX12_pitchAt 101 = .ok (.invokevirtual 204, 3) := by decide +kernel
theorem dX12_pitchAt_104 : decode cX12_pitchAt 104 = .ok (.ineg, 1) := by decide +kernel
theorem dX12_pitchAt_105 : decode cX12_pitchAt 105 = .ok (.iastore, 1) := by decide +kernel
theorem dX12_pitchAt_106 : decode cX12_pitchAt 106 = .ok (.aload_n 0, 1) := by decide +kernel
theorem dX12_pitchAt_107 : decode cX12_pitchAt 107 = .ok (.dup, 1) := by decide +kernel
theorem dX12_pitchAt_108 : decode cX12_pitchAt 108 = .ok (.getfield 189, 3) := by decide +kernel
theorem dX12_pitchAt_111 : decode cX12_pitchAt 111 = .ok (.iconst 1, 1) := by decide +kernel
theorem dX12_pitchAt_112 : decode cX12_pitchAt 112 = .ok (.iadd, 1) := by decide +kernel
theorem dX12_pitchAt_113 : decode cX12_pitchAt 113 = .ok (.putfield 189, 3) := by decide +kernel
theorem dX12_pitchAt_116 : decode cX12_pitchAt 116 = .ok (.return_, 1) := by decide +kernel
abbrev rm_X12_pitchAt : Room := { frames := 3, cells := 0, slots := 0, locals := 64 }
def wp_X12_pitchAt (a : Nat) (S : PS) (Q : PS → Prop) : Prop :=
  (∃ b1, fR S 114 a = some b1 ∧ wp_X12_here a S (fun (r3 : Int32) (S2 : PS) => 
 (vp_in (fI S 117 a) (aN S2 b1) ∧ ∀ S4, S4 = wI S2 50 b1 (fI S 117 a).toNatClampNeg (((r3 - 99) + 7) - ((r3 - 99) + 7) / 7 * 7) → (∀ S5, S5 = sI S4 101 a ((fI S4 101 a) + 1) → (∃ b6, fR S5 115 a = some b6 ∧ wp_X12_isHere a 43 S5 (fun (r8 : Int32) (S7 : PS) => 
 (∀ K67_13 : Nat → Int32 → Int32 → PS → Prop, (∀ (t9 : Nat) (t10 : Int32) (t11 : Int32) (S12 : PS),
 (vp_in t10 (aN S12 t9) ∧ ∀ S14, S14 = wI S12 51 t9 (t10).toNatClampNeg t11 → (∃ b15, fR S14 116 a = some b15 ∧ wp_X12_isHere a 39 S14 (fun (r17 : Int32) (S16 : PS) => 
 (∀ K105_22 : Nat → Int32 → Int32 → PS → Prop, (∀ (t18 : Nat) (t19 : Int32) (t20 : Int32) (S21 : PS),
 (vp_in t19 (aN S21 t18) ∧ ∀ S23, S23 = wI S21 52 t18 (t19).toNatClampNeg t20 → (∀ S24, S24 = sI S23 117 a ((fI S23 117 a) + 1) → Q S24))
 → K105_22 t18 t19 t20 S21) →
 (if r17 = 0 then
 wp_X12_signs a 44 9 S16 (fun (r26 : Int32) (S25 : PS) => 
 K105_22 b15 (fI S14 117 a) (-r26) S25)
 else
 wp_X12_signs a 39 9 S16 (fun (r28 : Int32) (S27 : PS) => 
 K105_22 b15 (fI S14 117 a) r28 S27))))))
 → K67_13 t9 t10 t11 S12) →
 (if r8 = 0 then
 wp_X12_signs a 45 2 S7 (fun (r30 : Int32) (S29 : PS) => 
 K67_13 b6 (fI S5 117 a) (-r30) S29)
 else
 wp_X12_signs a 43 2 S7 (fun (r32 : Int32) (S31 : PS) => 
 K67_13 b6 (fI S5 117 a) r32 S31)))))))))
set_option maxRecDepth 100000 in
set_option maxHeartbeats 4000000 in
theorem c_X12_pitchAt {l : Launch} {E : EE} {A : Nat → Prop} {a : Nat} {S : PS} {Q : PS → Prop} (r_a : Rf S a 9) (h : wp_X12_pitchAt a S Q) : MtV l yX12_pitchAt (.code yX12_pitchAt cX12_pitchAt 1 none) rm_X12_pitchAt E A [.ref a] S Q := by
  refine MtV.of (by decide) (Nat.le_of_ble_eq_true rfl) (fun X F hQ hN => ?_)
  show VV X (0, 0) S [(0, .ref a)] [] 0
  unfold wp_X12_pitchAt at h
  refine v_aload_n F dX12_pitchAt_0 0 rfl rfl ?_
  refine g_X12_198 F r_a h dX12_pitchAt_1 (fun b1 r_b1 h => ?_)
  refine v_aload_n F dX12_pitchAt_4 0 rfl rfl ?_
  refine g_X12_189 F r_a dX12_pitchAt_5 ?_
  refine v_aload_n F dX12_pitchAt_8 0 rfl rfl ?_
  refine v_cI0 (v_runV F k_X12_38 rfl (c_X12_here r_a h) r_a rfl rfl (Nat.le_of_ble_eq_true rfl) (by decide) (by decide) dX12_pitchAt_9) ⟨rfl, rfl⟩ (fun r3 S2 h hE => ?_)
  have r_a := r_a.tr hE
  have r_b1 := r_b1.tr hE
  refine v_bipush (v := 99) F dX12_pitchAt_12 (by decide) ?_
  refine v_isub F dX12_pitchAt_14 ?_
  refine v_bipush (v := 7) F dX12_pitchAt_15 (by decide) ?_
  refine v_iadd F dX12_pitchAt_17 ?_
  refine v_bipush (v := 7) F dX12_pitchAt_18 (by decide) ?_
  refine v_irem F dX12_pitchAt_20 (by decide) ?_
  refine v_iast F r_b1 o_50 h dX12_pitchAt_21 (fun S4 h hE => ?_)
  have r_a := r_a.tr hE
  refine v_aload_n F dX12_pitchAt_22 0 rfl rfl ?_
  refine v_dup F dX12_pitchAt_23 rfl ?_
  refine g_X12_29 F r_a dX12_pitchAt_24 ?_
  refine v_iconst (v := 1) F dX12_pitchAt_27 (by decide) ?_
  refine v_iadd F dX12_pitchAt_28 ?_
  refine p_X12_29 F r_a h dX12_pitchAt_29 (fun S5 h hE => ?_)
  have r_a := r_a.tr hE
  refine v_aload_n F dX12_pitchAt_32 0 rfl rfl ?_
  refine g_X12_201 F r_a h dX12_pitchAt_33 (fun b6 r_b6 h => ?_)
  refine v_aload_n F dX12_pitchAt_36 0 rfl rfl ?_
  refine g_X12_189 F r_a dX12_pitchAt_37 ?_
  refine v_aload_n F dX12_pitchAt_40 0 rfl rfl ?_
  refine v_bipush (v := 43) F dX12_pitchAt_41 (by decide) ?_
  refine v_cI0 (v_runV F k_X12_42 rfl (c_X12_isHere r_a h) r_a rfl rfl (Nat.le_of_ble_eq_true rfl) (by decide) (by decide) dX12_pitchAt_43) ⟨rfl, rfl⟩ (fun r8 S7 h hE => ?_)
  obtain ⟨nz_r8, h⟩ := h
  have r_a := r_a.tr hE
  have r_b6 := r_b6.tr hE
  have h := h (fun (t9 : Nat) (t10 : Int32) (t11 : Int32) (S12 : PS) => Rf S12 a 9 → Rf S12 t9 51 → VV X (0, 0) S12 [(0, .ref a)] [.int t11, .int t10, .ref t9] 67) (by
    intro t9 t10 t11 S12 h r_a r_t9
    refine v_iast F r_t9 o_51 h dX12_pitchAt_67 (fun S14 h hE => ?_)
    have r_a := r_a.tr hE
    refine v_aload_n F dX12_pitchAt_68 0 rfl rfl ?_
    refine g_X12_207 F r_a h dX12_pitchAt_69 (fun b15 r_b15 h => ?_)
    refine v_aload_n F dX12_pitchAt_72 0 rfl rfl ?_
    refine g_X12_189 F r_a dX12_pitchAt_73 ?_
    refine v_aload_n F dX12_pitchAt_76 0 rfl rfl ?_
    refine v_bipush (v := 39) F dX12_pitchAt_77 (by decide) ?_
    refine v_cI0 (v_runV F k_X12_42 rfl (c_X12_isHere r_a h) r_a rfl rfl (Nat.le_of_ble_eq_true rfl) (by decide) (by decide) dX12_pitchAt_79) ⟨rfl, rfl⟩ (fun r17 S16 h hE => ?_)
    obtain ⟨nz_r17, h⟩ := h
    have r_a := r_a.tr hE
    have r_b15 := r_b15.tr hE
    have h := h (fun (t18 : Nat) (t19 : Int32) (t20 : Int32) (S21 : PS) => Rf S21 a 9 → Rf S21 t18 52 → VV X (0, 0) S21 [(0, .ref a)] [.int t20, .int t19, .ref t18] 105) (by
      intro t18 t19 t20 S21 h r_a r_t18
      refine v_iast F r_t18 o_52 h dX12_pitchAt_105 (fun S23 h hE => ?_)
      have r_a := r_a.tr hE
      refine v_aload_n F dX12_pitchAt_106 0 rfl rfl ?_
      refine v_dup F dX12_pitchAt_107 rfl ?_
      refine g_X12_189 F r_a dX12_pitchAt_108 ?_
      refine v_iconst (v := 1) F dX12_pitchAt_111 (by decide) ?_
      refine v_iadd F dX12_pitchAt_112 ?_
      refine p_X12_189 F r_a h dX12_pitchAt_113 (fun S24 h hE => ?_)
      have r_a := r_a.tr hE
      exact v_vret F hQ h (by decide) dX12_pitchAt_116)
    refine v_if_eq (tgt := 96) F dX12_pitchAt_82 (by decide) h (fun h => ?_) (fun h => ?_)
    · refine v_aload_n F dX12_pitchAt_96 0 rfl rfl ?_
      refine v_bipush (v := 44) F dX12_pitchAt_97 (by decide) ?_
      refine v_bipush (v := 9) F dX12_pitchAt_99 (by decide) ?_
      refine v_cI0 (v_runV F k_X12_204 rfl (c_X12_signs r_a h) r_a rfl rfl (Nat.le_of_ble_eq_true rfl) (by decide) (by decide) dX12_pitchAt_101) ⟨rfl, rfl⟩ (fun r26 S25 h hE => ?_)
      have r_a := r_a.tr hE
      have r_b15 := r_b15.tr hE
      refine v_ineg F dX12_pitchAt_104 ?_
      exact v_sub [0] rfl (h r_a r_b15)
    · refine v_aload_n F dX12_pitchAt_85 0 rfl rfl ?_
      refine v_bipush (v := 39) F dX12_pitchAt_86 (by decide) ?_
      refine v_bipush (v := 9) F dX12_pitchAt_88 (by decide) ?_
      refine v_cI0 (v_runV F k_X12_204 rfl (c_X12_signs r_a h) r_a rfl rfl (Nat.le_of_ble_eq_true rfl) (by decide) (by decide) dX12_pitchAt_90) ⟨rfl, rfl⟩ (fun r28 S27 h hE => ?_)
      have r_a := r_a.tr hE
      have r_b15 := r_b15.tr hE
      refine v_goto (tgt := 105) F dX12_pitchAt_93 (by decide) ?_
      exact v_sub [0] rfl (h r_a r_b15))
  refine v_if_eq (tgt := 59) F dX12_pitchAt_46 (by decide) h (fun h => ?_) (fun h => ?_)
  · refine v_aload_n F dX12_pitchAt_59 0 rfl rfl ?_
    refine v_bipush (v := 45) F dX12_pitchAt_60 (by decide) ?_
    refine v_iconst (v := 2) F dX12_pitchAt_62 (by decide) ?_
    refine v_cI0 (v_runV F k_X12_204 rfl (c_X12_signs r_a h) r_a rfl rfl (Nat.le_of_ble_eq_true rfl) (by decide) (by decide) dX12_pitchAt_63) ⟨rfl, rfl⟩ (fun r30 S29 h hE => ?_)
    have r_a := r_a.tr hE
    have r_b6 := r_b6.tr hE
    refine v_ineg F dX12_pitchAt_66 ?_
    exact v_sub [0] rfl (h r_a r_b6)
  · refine v_aload_n F dX12_pitchAt_49 0 rfl rfl ?_
    refine v_bipush (v := 43) F dX12_pitchAt_50 (by decide) ?_
    refine v_iconst (v := 2) F dX12_pitchAt_52 (by decide) ?_
    refine v_cI0 (v_runV F k_X12_204 rfl (c_X12_signs r_a h) r_a rfl rfl (Nat.le_of_ble_eq_true rfl) (by decide) (by decide) dX12_pitchAt_53) ⟨rfl, rfl⟩ (fun r32 S31 h hE => ?_)
    have r_a := r_a.tr hE
    have r_b6 := r_b6.tr hE
    refine v_goto (tgt := 67) F dX12_pitchAt_56 (by decide) ?_
    exact v_sub [0] rfl (h r_a r_b6)
theorem dX12_lengthAt_0 : decode cX12_lengthAt 0 = .ok (.aload_n 0, 1) := by decide +kernel
theorem dX12_lengthAt_1 : decode cX12_lengthAt 1 = .ok (.getfield 23, 3) := by decide +kernel
theorem dX12_lengthAt_4 : decode cX12_lengthAt 4 = .ok (.ifCond .le 4, 3) := by decide +kernel
theorem dX12_lengthAt_7 : decode cX12_lengthAt 7 = .ok (.return_, 1) := by decide +kernel
theorem dX12_lengthAt_8 : decode cX12_lengthAt 8 = .ok (.aload_n 0, 1) := by decide +kernel
theorem dX12_lengthAt_9 : decode cX12_lengthAt 9 = .ok (.bipush 58, 2) := by decide +kernel
theorem dX12_lengthAt_11 : decode cX12_lengthAt 11 = .ok (.invokevirtual 42, 3) := by decide +kernel
theorem dX12_lengthAt_14 : decode cX12_lengthAt 14 = .ok (.ifCond .eq 32, 3) := by decide +kernel
theorem dX12_lengthAt_17 : decode cX12_lengthAt 17 = .ok (.aload_n 0, 1) := by decide +kernel
theorem dX12_lengthAt_18 : decode cX12_lengthAt 18 = .ok (.dup, 1) := by decide +kernel
theorem dX12_lengthAt_19 : decode cX12_lengthAt 19 = .ok (.getfield 29, 3) := by decide +kernel
theorem dX12_lengthAt_22 : decode cX12_lengthAt 22 = .ok (.iconst 1, 1) := by decide +kernel
theorem dX12_lengthAt_23 : decode cX12_lengthAt 23 = .ok (.iadd, 1) := by decide +kernel
theorem dX12_lengthAt_24 : decode cX12_lengthAt 24 = .ok (.putfield 29, 3) := by decide +kernel
theorem dX12_lengthAt_27 : decode cX12_lengthAt 27 = .ok (.aload_n 0, 1) := by decide +kernel
theorem dX12_lengthAt_28 : decode cX12_lengthAt 28 = .ok (.getfield 105, 3) := by decide +kernel
theorem dX12_lengthAt_31 : decode cX12_lengthAt 31 = .ok (.iload_n 1, 1) := by decide +kernel
theorem dX12_lengthAt_32 : decode cX12_lengthAt 32 = .ok (.aload_n 0, 1) := by decide +kernel
theorem dX12_lengthAt_33 : decode cX12_lengthAt 33 = .ok (.bipush 10, 2) := by decide +kernel
theorem dX12_lengthAt_35 : decode cX12_lengthAt 35 = .ok (.lconst 1, 1) := by decide +kernel
theorem dX12_lengthAt_36 : decode cX12_lengthAt 36 = .ok (.ldc2_w 210, 3) := by decide +kernel
theorem dX12_lengthAt_39 : decode cX12_lengthAt 39 = .ok (.invokevirtual 61, 3) := by decide +kernel
theorem dX12_lengthAt_42 : decode cX12_lengthAt 42 = .ok (.lastore, 1) := by decide +kernel
theorem dX12_lengthAt_43 : decode cX12_lengthAt 43 = .ok (.goto 81, 3) := by decide +kernel
theorem dX12_lengthAt_46 : decode cX12_lengthAt 46 = .ok (.aload_n 0, 1) := by decide +kernel
theorem dX12_lengthAt_47 : decode cX12_lengthAt 47 = .ok (.invokevirtual 38, 3) := by decide +kernel
theorem dX12_lengthAt_50 : decode cX12_lengthAt 50 = .ok (.invokestatic 54, 3) := by decide +kernel
theorem dX12_lengthAt_53 : decode cX12_lengthAt 53 = .ok (.ifCond .eq 71, 3) := by decide +kernel
theorem dX12_lengthAt_56 : decode cX12_lengthAt 56 = .ok (.aload_n 0, 1) := by decide +kernel
theorem dX12_lengthAt_57 : decode cX12_lengthAt 57 = .ok (.bipush 64, 2) := by decide +kernel
theorem dX12_lengthAt_59 : decode cX12_lengthAt 59 = .ok (.invokevirtual 164, 3) := by decide +kernel
theorem dX12_lengthAt_62 : decode cX12_lengthAt 62 = .ok (.lstore_n 2, 1) := by decide +kernel
theorem dX12_lengthAt_63 : decode cX12_lengthAt 63 = .ok (.aload_n 0, 1) := by decide +kernel
theorem dX12_lengthAt_64 : decode cX12_lengthAt 64 = .ok (.getfield 23, 3) := by decide +kernel
theorem dX12_lengthAt_67 : decode cX12_lengthAt 67 = .ok (.ifCond .ne 57, 3) := by decide +kernel
theorem dX12_lengthAt_70 : decode cX12_lengthAt 70 = .ok (.ldc2_w 212, 3) := by decide +kernel
theorem dX12_lengthAt_73 : decode cX12_lengthAt 73 = .ok (.lload_n 2, 1) := by decide +kernel
theorem dX12_lengthAt_74 : decode cX12_lengthAt 74 = .ok (.ldiv, 1) := by decide +kernel
theorem dX12_lengthAt_75 : decode cX12_lengthAt 75 = .ok (.lstore 4, 2) := by decide +kernel
theorem dX12_lengthAt_77 : decode cX12_lengthAt 77 = .ok (.lload 4, 2) := by decide +kernel
theorem dX12_lengthAt_79 : decode cX12_lengthAt 79 = .ok (.lstore 6, 2) := by decide +kernel
theorem dX12_lengthAt_81 : decode cX12_lengthAt 81 = .ok (.aload_n 0, 1) := by decide +kernel
theorem dX12_lengthAt_82 : decode cX12_lengthAt 82 = .ok (.bipush 46, 2) := by decide +kernel
theorem dX12_lengthAt_84 : decode cX12_lengthAt 84 = .ok (.iconst 3, 1) := by decide +kernel
theorem dX12_lengthAt_85 : decode cX12_lengthAt 85 = .ok (.invokevirtual 204, 3) := by decide +kernel
theorem dX12_lengthAt_88 : decode cX12_lengthAt 88 = .ok (.istore 8, 2) := by decide +kernel
theorem dX12_lengthAt_90 : decode cX12_lengthAt 90 = .ok (.iload 8, 2) := by decide +kernel
theorem dX12_lengthAt_92 : decode cX12_lengthAt 92 = .ok (.ifCond .le 24, 3) := by decide +kernel
theorem dX12_lengthAt_95 : decode cX12_lengthAt 95 = .ok (.lload 6, 2) := by decide +kernel
theorem dX12_lengthAt_97 : decode cX12_lengthAt 97 = .ok (.ldc2_w 65, 3) := by decide +kernel
theorem dX12_lengthAt_100 : decode cX12_lengthAt 100 = .ok (.ldiv, 1) := by decide +kernel
theorem dX12_lengthAt_101 : decode cX12_lengthAt 101 = .ok (.lstore 6, 2) := by decide +kernel
theorem dX12_lengthAt_103 : decode cX12_lengthAt 103 = .ok (.lload 4, 2) := by decide +kernel
theorem dX12_lengthAt_105 : decode cX12_lengthAt 105 = .ok (.lload 6, 2) := by decide +kernel
theorem dX12_lengthAt_107 : decode cX12_lengthAt 107 = .ok (.ladd, 1) := by decide +kernel
theorem dX12_lengthAt_108 : decode cX12_lengthAt 108 = .ok (.lstore 4, 2) := by decide +kernel
theorem dX12_lengthAt_110 : decode cX12_lengthAt 110 = .ok (.iinc 8 (-1), 3) := by decide +kernel
theorem dX12_lengthAt_113 : decode cX12_lengthAt 113 = .ok (.goto (-23), 3) := by decide +kernel
theorem dX12_lengthAt_116 : decode cX12_lengthAt 116 = .ok (.aload_n 0, 1) := by decide +kernel
theorem dX12_lengthAt_117 : decode cX12_lengthAt 117 = .ok (.getfield 105, 3) := by decide +kernel
theorem dX12_lengthAt_120 : decode cX12_lengthAt 120 = .ok (.iload_n 1, 1) := by decide +kernel
theorem dX12_lengthAt_121 : decode cX12_lengthAt 121 = .ok (.lload 4, 2) := by decide +kernel
theorem dX12_lengthAt_123 : decode cX12_lengthAt 123 = .ok (.lastore, 1) := by decide +kernel
theorem dX12_lengthAt_124 : decode cX12_lengthAt 124 = .ok (.return_, 1) := by decide +kernel
abbrev rm_X12_lengthAt : Room := { frames := 3, cells := 0, slots := 0, locals := 77 }
def wp_X12_lengthAt (a : Nat) (p1 : Int32) (S : PS) (Q : PS → Prop) : Prop :=
  (if fI S 102 a ≤ 0 then
 wp_X12_isHere a 58 S (fun (r2 : Int32) (S1 : PS) => 
 (if r2 = 0 then
 wp_X12_here a S1 (fun (r4 : Int32) (S3 : PS) => 
 wp_X12_isDigit r4 S3 (fun (r6 : Int32) (S5 : PS) => 
 (if r6 = 0 then
 Q S5
 else
 wp_X12_halved a 64 S5 (fun (r8 : Int64) (S7 : PS) => 
 (if fI S7 102 a = 0 then
 (¬ r8 = 0 ∧ (∀ v9, v9 = 3870720 / r8 → wp_X12_signs a 46 3 S7 (fun (r11 : Int32) (S10 : PS) => 
 (∀ P90_12 : Int64 → Int64 → Int32 → PS → Prop, (∀ (x4_13 : Int64) (x6_14 : Int64) (x8_15 : Int32) (S16 : PS),
 (if x8_15 ≤ 0 then
 (∃ b17, fR S16 111 a = some b17 ∧ (vp_in p1 (aN S16 b17) ∧ ∀ S18, S18 = wL S16 48 b17 (p1).toNatClampNeg x4_13 → Q S18))
 else
 (∀ v19, v19 = x6_14 / 2 → (∀ v20, v20 = x4_13 + v19 → (∀ v21, v21 = x8_15 + (-1) → P90_12 v20 v19 v21 S16))))
 → P90_12 x4_13 x6_14 x8_15 S16) → P90_12 v9 v9 r11 S10))))
 else
 Q S7)))))
 else
 (∀ S22, S22 = sI S1 101 a ((fI S1 101 a) + 1) → (∃ b23, fR S22 111 a = some b23 ∧ wp_X12_digits a 10 1 3870720000 S22 (fun (r25 : Int64) (S24 : PS) => 
 (vp_in p1 (aN S24 b23) ∧ ∀ S26, S26 = wL S24 48 b23 (p1).toNatClampNeg r25 → Q S26))))))
 else
 Q S)
set_option maxRecDepth 100000 in
set_option maxHeartbeats 4000000 in
theorem c_X12_lengthAt {l : Launch} {E : EE} {A : Nat → Prop} {a : Nat} {p1 : Int32} {S : PS} {Q : PS → Prop} (r_a : Rf S a 9) (h : wp_X12_lengthAt a p1 S Q) : MtV l yX12_lengthAt (.code yX12_lengthAt cX12_lengthAt 9 none) rm_X12_lengthAt E A [.ref a, .int p1] S Q := by
  refine MtV.of (by decide) (Nat.le_of_ble_eq_true rfl) (fun X F hQ hN => ?_)
  show VV X (0, 0) S [(0, .ref a), (1, .int p1)] [] 0
  unfold wp_X12_lengthAt at h
  refine v_aload_n F dX12_lengthAt_0 0 rfl rfl ?_
  refine g_X12_23 F r_a dX12_lengthAt_1 ?_
  refine v_if_le (tgt := 8) F dX12_lengthAt_4 (by decide) h (fun h => ?_) (fun h => ?_)
  · refine v_aload_n F dX12_lengthAt_8 0 rfl rfl ?_
    refine v_bipush (v := 58) F dX12_lengthAt_9 (by decide) ?_
    refine v_cI0 (v_runV F k_X12_42 rfl (c_X12_isHere r_a h) r_a rfl rfl (Nat.le_of_ble_eq_true rfl) (by decide) (by decide) dX12_lengthAt_11) ⟨rfl, rfl⟩ (fun r2 S1 h hE => ?_)
    obtain ⟨nz_r2, h⟩ := h
    have r_a := r_a.tr hE
    refine v_if_eq (tgt := 46) F dX12_lengthAt_14 (by decide) h (fun h => ?_) (fun h => ?_)
    · refine v_aload_n F dX12_lengthAt_46 0 rfl rfl ?_
      refine v_cI0 (v_runV F k_X12_38 rfl (c_X12_here r_a h) r_a rfl rfl (Nat.le_of_ble_eq_true rfl) (by decide) (by decide) dX12_lengthAt_47) ⟨rfl, rfl⟩ (fun r4 S3 h hE => ?_)
      have r_a := r_a.tr hE
      refine v_cI0 (v_runS F k_X12_54 (c_X12_isDigit h) rfl rfl (Nat.le_of_ble_eq_true rfl) (by decide) (by decide) dX12_lengthAt_50) ⟨rfl, rfl⟩ (fun r6 S5 h hE => ?_)
      obtain ⟨nz_r6, h⟩ := h
      have r_a := r_a.tr hE
      refine v_if_eq (tgt := 124) F dX12_lengthAt_53 (by decide) h (fun h => ?_) (fun h => ?_)
      · exact v_vret F hQ h (by decide) dX12_lengthAt_124
      · refine v_aload_n F dX12_lengthAt_56 0 rfl rfl ?_
        refine v_bipush (v := 64) F dX12_lengthAt_57 (by decide) ?_
        refine v_cL0 (v_runV F k_X12_164 rfl (c_X12_halved r_a h) r_a rfl rfl (Nat.le_of_ble_eq_true rfl) (by decide) (by decide) dX12_lengthAt_59) ⟨rfl, rfl⟩ (fun r8 S7 h hE => ?_)
        have r_a := r_a.tr hE
        refine v_lstore_n (lv1 := [(2, .long r8), (0, .ref a), (1, .int p1)]) F dX12_lengthAt_62 rfl (by rw [hN]; decide) rfl ?_
        refine v_aload_n F dX12_lengthAt_63 1 rfl rfl ?_
        refine g_X12_23 F r_a dX12_lengthAt_64 ?_
        refine v_if_ne (tgt := 124) F dX12_lengthAt_67 (by decide) h (fun h => ?_) (fun h => ?_)
        · exact v_vret F hQ h (by decide) dX12_lengthAt_124
        · refine v_ldc2 F kc_X12_212 dX12_lengthAt_70 ?_
          refine v_lload_n F dX12_lengthAt_73 0 rfl rfl ?_
          refine v_ldiv F dX12_lengthAt_74 h.1 ?_
          have h := h.2
          refine v_topl (fun v9 e_v9 => ?_)
          have h := h v9 e_v9
          refine v_lstore (lv1 := [(4, .long v9), (2, .long r8), (0, .ref a), (1, .int p1)]) F dX12_lengthAt_75 (by rw [hN]; decide) rfl ?_
          refine v_lload F dX12_lengthAt_77 0 rfl ?_
          refine v_lstore (lv1 := [(6, .long v9), (4, .long v9), (2, .long r8), (0, .ref a), (1, .int p1)]) F dX12_lengthAt_79 (by rw [hN]; decide) rfl ?_
          refine v_aload_n F dX12_lengthAt_81 3 rfl rfl ?_
          refine v_bipush (v := 46) F dX12_lengthAt_82 (by decide) ?_
          refine v_iconst (v := 3) F dX12_lengthAt_84 (by decide) ?_
          refine v_cI0 (v_runV F k_X12_204 rfl (c_X12_signs r_a h) r_a rfl rfl (Nat.le_of_ble_eq_true rfl) (by decide) (by decide) dX12_lengthAt_85) ⟨rfl, rfl⟩ (fun r11 S10 h hE => ?_)
          have r_a := r_a.tr hE
          refine v_istore (lv1 := [(8, .int r11), (6, .long v9), (4, .long v9), (2, .long r8), (0, .ref a), (1, .int p1)]) F dX12_lengthAt_88 (by rw [hN]; decide) rfl ?_
          refine v_sub [4, 5, 2, 1, 0] rfl ?_
          refine h (fun (x4_13 : Int64) (x6_14 : Int64) (x8_15 : Int32) (S16 : PS) => Rf S16 a 9 → VV X (0, 0) S16 [(0, .ref a), (1, .int p1), (4, .long x4_13), (6, .long x6_14), (8, .int x8_15)] [] 90) (fun x4_13 x6_14 x8_15 S16 h r_a => ?_) r_a
          refine v_iload F dX12_lengthAt_90 4 rfl ?_
          refine v_if_le (tgt := 116) F dX12_lengthAt_92 (by decide) h (fun h => ?_) (fun h => ?_)
          · refine v_aload_n F dX12_lengthAt_116 0 rfl rfl ?_
            refine g_X12_105 F r_a h dX12_lengthAt_117 (fun b17 r_b17 h => ?_)
            refine v_iload_n F dX12_lengthAt_120 1 rfl rfl ?_
            refine v_lload F dX12_lengthAt_121 2 rfl ?_
            refine v_last F r_b17 o_48 h dX12_lengthAt_123 (fun S18 h hE => ?_)
            have r_a := r_a.tr hE
            exact v_vret F hQ h (by decide) dX12_lengthAt_124
          · refine v_lload F dX12_lengthAt_95 3 rfl ?_
            refine v_ldc2 F kc_X12_65 dX12_lengthAt_97 ?_
            refine v_ldiv F dX12_lengthAt_100 (by decide) ?_
            refine v_topl (fun v19 e_v19 => ?_)
            have h := h v19 e_v19
            refine v_lstore (lv1 := [(6, .long v19), (0, .ref a), (1, .int p1), (4, .long x4_13), (8, .int x8_15)]) F dX12_lengthAt_101 (by rw [hN]; decide) rfl ?_
            refine v_lload F dX12_lengthAt_103 3 rfl ?_
            refine v_lload F dX12_lengthAt_105 0 rfl ?_
            refine v_ladd F dX12_lengthAt_107 ?_
            refine v_topl (fun v20 e_v20 => ?_)
            have h := h v20 e_v20
            refine v_lstore (lv1 := [(4, .long v20), (6, .long v19), (0, .ref a), (1, .int p1), (8, .int x8_15)]) F dX12_lengthAt_108 (by rw [hN]; decide) rfl ?_
            obtain ⟨v21, e_v21⟩ : ∃ y : Int32, y = x8_15 + (-1) := ⟨_, rfl⟩
            have h := h v21 e_v21
            refine v_iinc (v := v21) (lv1 := [(8, .int v21), (4, .long v20), (6, .long v19), (0, .ref a), (1, .int p1)]) F dX12_lengthAt_110 (q := 4) rfl (by rw [e_v21]; rfl) (by rw [hN]; decide) rfl ?_
            refine v_goto (tgt := 90) F dX12_lengthAt_113 (by decide) ?_
            exact v_sub [3, 4, 1, 2, 0] rfl (h r_a)
    · refine v_aload_n F dX12_lengthAt_17 0 rfl rfl ?_
      refine v_dup F dX12_lengthAt_18 rfl ?_
      refine g_X12_29 F r_a dX12_lengthAt_19 ?_
      refine v_iconst (v := 1) F dX12_lengthAt_22 (by decide) ?_
      refine v_iadd F dX12_lengthAt_23 ?_
      refine p_X12_29 F r_a h dX12_lengthAt_24 (fun S22 h hE => ?_)
      have r_a := r_a.tr hE
      refine v_aload_n F dX12_lengthAt_27 0 rfl rfl ?_
      refine g_X12_105 F r_a h dX12_lengthAt_28 (fun b23 r_b23 h => ?_)
      refine v_iload_n F dX12_lengthAt_31 1 rfl rfl ?_
      refine v_aload_n F dX12_lengthAt_32 0 rfl rfl ?_
      refine v_bipush (v := 10) F dX12_lengthAt_33 (by decide) ?_
      refine v_lconst (v := 1) F dX12_lengthAt_35 (by decide) ?_
      refine v_ldc2 F kc_X12_210 dX12_lengthAt_36 ?_
      refine v_cL0 (v_runV F k_X12_61 rfl (c_X12_digits r_a h) r_a rfl rfl (Nat.le_of_ble_eq_true rfl) (by decide) (by decide) dX12_lengthAt_39) ⟨rfl, rfl⟩ (fun r25 S24 h hE => ?_)
      have r_a := r_a.tr hE
      have r_b23 := r_b23.tr hE
      refine v_last F r_b23 o_48 h dX12_lengthAt_42 (fun S26 h hE => ?_)
      have r_a := r_a.tr hE
      refine v_goto (tgt := 124) F dX12_lengthAt_43 (by decide) ?_
      exact v_vret F hQ h (by decide) dX12_lengthAt_124
  · exact v_vret F hQ h (by decide) dX12_lengthAt_7
theorem dX12_tones_0 : decode cX12_tones 0 = .ok (.aload_n 0, 1) := by decide +kernel
theorem dX12_tones_1 : decode cX12_tones 1 = .ok (.iconst 0, 1) := by decide +kernel
theorem dX12_tones_2 : decode cX12_tones 2 = .ok (.aload_n 0, 1) := by decide +kernel
theorem dX12_tones_3 : decode cX12_tones 3 = .ok (.getfield 29, 3) := by decide +kernel
theorem dX12_tones_6 : decode cX12_tones 6 = .ok (.invokevirtual 128, 3) := by decide +kernel
theorem dX12_tones_9 : decode cX12_tones 9 = .ok (.istore_n 1, 1) := by decide +kernel
theorem dX12_tones_10 : decode cX12_tones 10 = .ok (.aload_n 0, 1) := by decide +kernel
theorem dX12_tones_11 : decode cX12_tones 11 = .ok (.iload_n 1, 1) := by decide +kernel
theorem dX12_tones_12 : decode cX12_tones 12 = .ok (.invokevirtual 155, 3) := by decide +kernel
theorem dX12_tones_15 : decode cX12_tones 15 = .ok (.aload_n 0, 1) := by decide +kernel
theorem dX12_tones_16 : decode cX12_tones 16 = .ok (.getfield 93, 3) := by decide +kernel
theorem dX12_tones_19 : decode cX12_tones 19 = .ok (.iload_n 1, 1) := by decide +kernel
theorem dX12_tones_20 : decode cX12_tones 20 = .ok (.aload_n 0, 1) := by decide +kernel
theorem dX12_tones_21 : decode cX12_tones 21 = .ok (.getfield 189, 3) := by decide +kernel
theorem dX12_tones_24 : decode cX12_tones 24 = .ok (.iastore, 1) := by decide +kernel
theorem dX12_tones_25 : decode cX12_tones 25 = .ok (.aload_n 0, 1) := by decide +kernel
theorem dX12_tones_26 : decode cX12_tones 26 = .ok (.invokevirtual 38, 3) := by decide +kernel
theorem dX12_tones_29 : decode cX12_tones 29 = .ok (.istore_n 2, 1) := by decide +kernel
theorem dX12_tones_30 : decode cX12_tones 30 = .ok (.iload_n 2, 1) := by decide +kernel
theorem dX12_tones_31 : decode cX12_tones 31 = .ok (.invokestatic 149, 3) := by decide +kernel
theorem dX12_tones_34 : decode cX12_tones 34 = .ok (.ifCond .eq 10, 3) := by decide +kernel
theorem dX12_tones_37 : decode cX12_tones 37 = .ok (.aload_n 0, 1) := by decide +kernel
theorem dX12_tones_38 : decode cX12_tones 38 = .ok (.invokevirtual 192, 3) := by decide +kernel
theorem dX12_tones_41 : decode cX12_tones 41 = .ok (.goto 150, 3) := by decide +kernel
theorem dX12_tones_44 : decode cX12_tones 44 = .ok (.aload_n 0, 1) := by decide +kernel
theorem dX12_tones_45 : decode cX12_tones 45 = .ok (.dup, 1) := by decide +kernel
theorem dX12_tones_46 : decode cX12_tones 46 = .ok (.getfield 29, 3) := by decide +kernel
theorem dX12_tones_49 : decode cX12_tones 49 = .ok (.iconst 1, 1) := by decide +kernel
theorem dX12_tones_50 : decode cX12_tones 50 = .ok (.iadd, 1) := by decide +kernel
theorem dX12_tones_51 : decode cX12_tones 51 = .ok (.putfield 29, 3) := by decide +kernel
theorem dX12_tones_54 : decode cX12_tones 54 = .ok (.iload_n 2, 1) := by decide +kernel
theorem dX12_tones_55 : decode cX12_tones 55 = .ok (.bipush 60, 2) := by decide +kernel
theorem dX12_tones_57 : decode cX12_tones 57 = .ok (.if_icmp .ne 7, 3) := by decide +kernel
theorem dX12_tones_60 : decode cX12_tones 60 = .ok (.iconst 1, 1) := by decide +kernel
theorem dX12_tones_61 : decode cX12_tones 61 = .ok (.goto 4, 3) := by decide +kernel
theorem dX12_tones_64 : decode cX12_tones 64 = .ok (.iconst 0, 1) := by decide +kernel
theorem dX12_tones_65 : decode cX12_tones 65 = .ok (.istore_n 3, 1) := by decide +kernel
theorem dX12_tones_66 : decode cX12_tones 66 = .ok (.iload_n 3, 1) := by decide +kernel
theorem dX12_tones_67 : decode cX12_tones 67 = .ok (.ifCond .eq 124, 3) := by decide +kernel
theorem dX12_tones_70 : decode cX12_tones 70 = .ok (.aload_n 0, 1) := by decide +kernel
theorem dX12_tones_71 : decode cX12_tones 71 = .ok (.invokevirtual 46, 3) := by decide +kernel
theorem dX12_tones_74 : decode cX12_tones 74 = .ok (.aload_n 0, 1) := by decide +kernel
theorem dX12_tones_75 : decode cX12_tones 75 = .ok (.getfield 189, 3) := by decide +kernel
theorem dX12_tones_78 : decode cX12_tones 78 = .ok (.aload_n 0, 1) := by decide +kernel
theorem dX12_tones_79 : decode cX12_tones 79 = .ok (.getfield 93, 3) := by decide +kernel
theorem dX12_tones_82 : decode cX12_tones 82 = .ok (.iload_n 1, 1) := by decide +kernel
theorem dX12_tones_83 : decode cX12_tones 83 = .ok (.iaload, 1) := by decide +kernel
theorem dX12_tones_84 : decode cX12_tones 84 = .ok (.isub, 1) := by decide +kernel
theorem dX12_tones_85 : decode cX12_tones 85 = .ok (.istore 4, 2) := by decide +kernel
theorem dX12_tones_87 : decode cX12_tones 87 = .ok (.aload_n 0, 1) := by decide +kernel
theorem dX12_tones_88 : decode cX12_tones 88 = .ok (.invokevirtual 38, 3) := by decide +kernel
theorem dX12_tones_91 : decode cX12_tones 91 = .ok (.invokestatic 149, 3) := by decide +kernel
theorem dX12_tones_94 : decode cX12_tones 94 = .ok (.ifCond .eq 17, 3) := by decide +kernel
theorem dX12_tones_97 : decode cX12_tones 97 = .ok (.iload 4, 2) := by decide +kernel
theorem dX12_tones_99 : decode cX12_tones 99 = .ok (.bipush 6, 2) := by decide +kernel
theorem dX12_tones_101 : decode cX12_tones 101 = .ok (.if_icmp .ge 10, 3) := by decide +kernel
theorem dX12_tones_104 : decode cX12_tones 104 = .ok (.aload_n 0, 1) := by decide +kernel
theorem dX12_tones_105 : decode cX12_tones 105 = .ok (.invokevirtual 192, 3) := by decide +kernel
theorem dX12_tones_108 : decode cX12_tones 108 = .ok (.goto 63, 3) := by decide +kernel
theorem dX12_tones_111 : decode cX12_tones 111 = .ok (.aload_n 0, 1) := by decide +kernel
theorem dX12_tones_112 : decode cX12_tones 112 = .ok (.invokevirtual 38, 3) := by decide +kernel
theorem dX12_tones_115 : decode cX12_tones 115 = .ok (.invokestatic 149, 3) := by decide +kernel
theorem dX12_tones_118 : decode cX12_tones 118 = .ok (.ifCond .eq 15, 3) := by decide +kernel
theorem dX12_tones_121 : decode cX12_tones 121 = .ok (.aload_n 0, 1) := by decide +kernel
theorem dX12_tones_122 : decode cX12_tones 122 = .ok (.iconst 5, 1) := by decide +kernel
theorem dX12_tones_123 : decode cX12_tones 123 = .ok (.aload_n 0, 1) := by decide +kernel
theorem dX12_tones_124 : decode cX12_tones 124 = .ok (.getfield 29, 3) := by decide +kernel
theorem dX12_tones_127 : decode cX12_tones 127 = .ok (.invokevirtual 50, 3) := by decide +kernel
theorem dX12_tones_130 : decode cX12_tones 130 = .ok (.goto 41, 3) := by decide +kernel
theorem dX12_tones_133 : decode cX12_tones 133 = .ok (.aload_n 0, 1) := by decide +kernel
theorem dX12_tones_134 : decode cX12_tones 134 = .ok (.bipush 62, 2) := by decide +kernel
theorem dX12_tones_136 : decode cX12_tones 136 = .ok (.invokevirtual 42, 3) := by decide +kernel
theorem dX12_tones_139 : decode cX12_tones 139 = .ok (.ifCond .eq 23, 3) := by decide +kernel
theorem dX12_tones_142 : decode cX12_tones 142 = .ok (.iload 4, 2) := by decide +kernel
theorem dX12_tones_144 : decode cX12_tones 144 = .ok (.ifCond .le 18, 3) := by decide +kernel
theorem dX12_tones_147 : decode cX12_tones 147 = .ok (.iconst 0, 1) := by decide +kernel
theorem dX12_tones_148 : decode cX12_tones 148 = .ok (.istore_n 3, 1) := by decide +kernel
theorem dX12_tones_149 : decode cX12_tones 149 = .ok (.aload_n 0, 1) := by decide +kernel
theorem dX12_tones_150 : decode cX12_tones 150 = .ok (.dup, 1) := by decide +kernel
theorem dX12_tones_151 : decode cX12_tones 151 = .ok (.getfield 29, 3) := by decide +kernel
theorem dX12_tones_154 : decode cX12_tones 154 = .ok (.iconst 1, 1) := by decide +kernel
theorem dX12_tones_155 : decode cX12_tones 155 = .ok (.iadd, 1) := by decide +kernel
theorem dX12_tones_156 : decode cX12_tones 156 = .ok (.putfield 29, 3) := by decide +kernel
theorem dX12_tones_159 : decode cX12_tones 159 = .ok (.goto 12, 3) := by decide +kernel
theorem dX12_tones_162 : decode cX12_tones 162 = .ok (.aload_n 0, 1) := by decide +kernel
theorem dX12_tones_163 : decode cX12_tones 163 = .ok (.iconst 1, 1) := by decide +kernel
theorem dX12_tones_164 : decode cX12_tones 164 = .ok (.aload_n 0, 1) := by decide +kernel
theorem dX12_tones_165 : decode cX12_tones 165 = .ok (.getfield 29, 3) := by decide +kernel
theorem dX12_tones_168 : decode cX12_tones 168 = .ok (.invokevirtual 50, 3) := by decide +kernel
theorem dX12_tones_171 : decode cX12_tones 171 = .ok (.iload_n 3, 1) := by decide +kernel
theorem dX12_tones_172 : decode cX12_tones 172 = .ok (.ifCond .eq 14, 3) := by decide +kernel
theorem dX12_tones_175 : decode cX12_tones 175 = .ok (.aload_n 0, 1) := by decide +kernel
theorem dX12_tones_176 : decode cX12_tones 176 = .ok (.getfield 23, 3) := by decide +kernel
theorem dX12_tones_179 : decode cX12_tones 179 = .ok (.ifCond .ne 7, 3) := by decide +kernel
theorem dX12_tones_182 : decode cX12_tones 182 = .ok (.iconst 1, 1) := by decide +kernel
theorem dX12_tones_183 : decode cX12_tones 183 = .ok (.goto 4, 3) := by decide +kernel
theorem dX12_tones_186 : decode cX12_tones 186 = .ok (.iconst 0, 1) := by decide +kernel
theorem dX12_tones_187 : decode cX12_tones 187 = .ok (.istore_n 3, 1) := by decide +kernel
theorem dX12_tones_188 : decode cX12_tones 188 = .ok (.goto (-122), 3) := by decide +kernel
theorem dX12_tones_191 : decode cX12_tones 191 = .ok (.aload_n 0, 1) := by decide +kernel
theorem dX12_tones_192 : decode cX12_tones 192 = .ok (.getfield 96, 3) := by decide +kernel
theorem dX12_tones_195 : decode cX12_tones 195 = .ok (.iload_n 1, 1) := by decide +kernel
theorem dX12_tones_196 : decode cX12_tones 196 = .ok (.aload_n 0, 1) := by decide +kernel
theorem dX12_tones_197 : decode cX12_tones 197 = .ok (.getfield 189, 3) := by decide +kernel
theorem dX12_tones_200 : decode cX12_tones 200 = .ok (.aload_n 0, 1) := by decide +kernel
theorem dX12_tones_201 : decode cX12_tones 201 = .ok (.getfield 93, 3) := by decide +kernel
theorem dX12_tones_204 : decode cX12_tones 204 = .ok (.iload_n 1, 1) := by decide +kernel
theorem dX12_tones_205 : decode cX12_tones 205 = .ok (.iaload, 1) := by decide +kernel
theorem dX12_tones_206 : decode cX12_tones 206 = .ok (.isub, 1) := by decide +kernel
theorem dX12_tones_207 : decode cX12_tones 207 = .ok (.iastore, 1) := by decide +kernel
theorem dX12_tones_208 : decode cX12_tones 208 = .ok (.aload_n 0, 1) := by decide +kernel
theorem dX12_tones_209 : decode cX12_tones 209 = .ok (.iload_n 1, 1) := by decide +kernel
theorem dX12_tones_210 : decode cX12_tones 210 = .ok (.invokevirtual 195, 3) := by decide +kernel
theorem dX12_tones_213 : decode cX12_tones 213 = .ok (.aload_n 0, 1) := by decide +kernel
theorem dX12_tones_214 : decode cX12_tones 214 = .ok (.getfield 23, 3) := by decide +kernel
theorem dX12_tones_217 : decode cX12_tones 217 = .ok (.ifCond .ne 38, 3) := by decide +kernel
theorem dX12_tones_220 : decode cX12_tones 220 = .ok (.aload_n 0, 1) := by decide +kernel
theorem dX12_tones_221 : decode cX12_tones 221 = .ok (.getfield 96, 3) := by decide +kernel
theorem dX12_tones_224 : decode cX12_tones 224 = .ok (.iload_n 1, 1) := by decide +kernel
theorem dX12_tones_225 : decode cX12_tones 225 = .ok (.iaload, 1) := by decide +kernel
theorem dX12_tones_226 : decode cX12_tones 226 = .ok (.ifCond .le 29, 3) := by decide +kernel
theorem dX12_tones_229 : decode cX12_tones 229 = .ok (.aload_n 0, 1) := by decide +kernel
theorem dX12_tones_230 : decode cX12_tones 230 = .ok (.bipush 126, 2) := by decide +kernel
theorem dX12_tones_232 : decode cX12_tones 232 = .ok (.invokevirtual 42, 3) := by decide +kernel
theorem dX12_tones_235 : decode cX12_tones 235 = .ok (.ifCond .eq 20, 3) := by decide +kernel
theorem dX12_tones_238 : decode cX12_tones 238 = .ok (.aload_n 0, 1) := by decide +kernel
theorem dX12_tones_239 : decode cX12_tones 239 = .ok (.getfield 109, 3) := by decide +kernel
theorem dX12_tones_242 : decode cX12_tones 242 = .ok (.iload_n 1, 1) := by decide +kernel
theorem dX12_tones_243 : decode cX12_tones 243 = .ok (.iconst 1, 1) := by decide +kernel
theorem dX12_tones_244 : decode cX12_tones 244 = .ok (.bastore, 1) := by decide +kernel
theorem dX12_tones_245 : decode cX12_tones 245 = .ok (.aload_n 0, 1) := by decide +kernel
theorem dX12_tones_246 : decode cX12_tones 246 = .ok (.dup, 1) := by decide +kernel
theorem dX12_tones_247 : decode cX12_tones 247 = .ok (.getfield 29, 3) := by decide +kernel
theorem dX12_tones_250 : decode cX12_tones 250 = .ok (.iconst 1, 1) := by decide +kernel
theorem dX12_tones_251 : decode cX12_tones 251 = .ok (.iadd, 1) := by decide +kernel
theorem dX12_tones_252 : decode cX12_tones 252 = .ok (.putfield 29, 3) := by decide +kernel
theorem dX12_tones_255 : decode cX12_tones 255 = .ok (.return_, 1) := by decide +kernel
abbrev rm_X12_tones : Room := { frames := 4, cells := 0, slots := 0, locals := 105 }
def wp_X12_tones (a : Nat) (S : PS) (Q : PS → Prop) : Prop :=
  wp_X12_item a 0 (fI S 101 a) S (fun (r2 : Int32) (S1 : PS) => 
 wp_X12_hang a r2 S1 (fun (S3 : PS) => 
 (∃ b4, fR S3 107 a = some b4 ∧ (vp_in r2 (aN S3 b4) ∧ ∀ S5, S5 = wI S3 44 b4 (r2).toNatClampNeg (fI S3 117 a) → wp_X12_here a S5 (fun (r7 : Int32) (S6 : PS) => 
 wp_X12_isTone r7 S6 (fun (r9 : Int32) (S8 : PS) => 
 (∀ K191_11 : PS → Prop, (∀ (S10 : PS),
 (∃ b12, fR S10 108 a = some b12 ∧ (∃ b13, fR S10 107 a = some b13 ∧ (vp_in r2 (aN S10 b13) ∧ (vp_in r2 (aN S10 b12) ∧ ∀ S14, S14 = wI S10 45 b12 (r2).toNatClampNeg ((fI S10 117 a) - (aI S10 44 b13 (r2).toNatClampNeg)) → wp_X12_lengthAt a r2 S14 (fun (S15 : PS) => 
 (if fI S15 102 a = 0 then
 (∃ b16, fR S15 108 a = some b16 ∧ (vp_in r2 (aN S15 b16) ∧ (if aI S15 45 b16 (r2).toNatClampNeg ≤ 0 then
 Q S15
 else
 wp_X12_isHere a 126 S15 (fun (r18 : Int32) (S17 : PS) => 
 (if r18 = 0 then
 Q S17
 else
 (∃ b19, fR S17 112 a = some b19 ∧ (vp_in r2 (aN S17 b19) ∧ ∀ S20, S20 = wI S17 49 b19 (r2).toNatClampNeg (vp_nar .boolean 1) → (∀ S21, S21 = sI S20 101 a ((fI S20 101 a) + 1) → Q S21))))))))
 else
 Q S15))))))
 → K191_11 S10) →
 (if r9 = 0 then
 (∀ S22, S22 = sI S8 101 a ((fI S8 101 a) + 1) → (∀ K65_25 : Int32 → PS → Prop, (∀ (t23 : Int32) (S24 : PS),
 (∀ P66_26 : Int32 → PS → Prop, (∀ (x3_27 : Int32) (S28 : PS),
 (if x3_27 = 0 then
 K191_11 S28
 else
 wp_X12_blanks a S28 (fun (S29 : PS) => 
 (∃ b30, fR S29 107 a = some b30 ∧ (vp_in r2 (aN S29 b30) ∧ (∀ v31, v31 = (fI S29 117 a) - (aI S29 44 b30 (r2).toNatClampNeg) → wp_X12_here a S29 (fun (r33 : Int32) (S32 : PS) => 
 wp_X12_isTone r33 S32 (fun (r35 : Int32) (S34 : PS) => 
 (∀ K171_38 : Int32 → PS → Prop, (∀ (x3_36 : Int32) (S37 : PS),
 (∀ K187_41 : Int32 → PS → Prop, (∀ (t39 : Int32) (S40 : PS),
 P66_26 t39 S40
 → K187_41 t39 S40) →
 (if x3_36 = 0 then
 K187_41 0 S37
 else
 (if fI S37 102 a = 0 then
 K187_41 1 S37
 else
 K187_41 0 S37)))
 → K171_38 x3_36 S37) →
 (∀ K111_43 : PS → Prop, (∀ (S42 : PS),
 wp_X12_here a S42 (fun (r45 : Int32) (S44 : PS) => 
 wp_X12_isTone r45 S44 (fun (r47 : Int32) (S46 : PS) => 
 (if r47 = 0 then
 wp_X12_isHere a 62 S46 (fun (r49 : Int32) (S48 : PS) => 
 (∀ K162_51 : PS → Prop, (∀ (S50 : PS),
 wp_X12_bad a 1 (fI S50 101 a) S50 (fun (S52 : PS) => 
 K171_38 x3_27 S52)
 → K162_51 S50) →
 (if r49 = 0 then
 K162_51 S48
 else
 (if v31 ≤ 0 then
 K162_51 S48
 else
 (∀ S53, S53 = sI S48 101 a ((fI S48 101 a) + 1) → K171_38 0 S53)))))
 else
 wp_X12_bad a 5 (fI S46 101 a) S46 (fun (S54 : PS) => 
 K171_38 x3_27 S54))))
 → K111_43 S42) →
 (if r35 = 0 then
 K111_43 S34
 else
 (if 6 ≤ v31 then
 K111_43 S34
 else
 wp_X12_pitchAt a S34 (fun (S55 : PS) => 
 K171_38 x3_27 S55))))))))))))
 → P66_26 x3_27 S28) → P66_26 t23 S24)
 → K65_25 t23 S24) →
 (if r7 = 60 then
 K65_25 1 S22
 else
 K65_25 0 S22)))
 else
 wp_X12_pitchAt a S8 (fun (S56 : PS) => 
 K191_11 S56)))))))))
set_option maxRecDepth 100000 in
set_option maxHeartbeats 4000000 in
theorem c_X12_tones {l : Launch} {E : EE} {A : Nat → Prop} {a : Nat} {S : PS} {Q : PS → Prop} (r_a : Rf S a 9) (h : wp_X12_tones a S Q) : MtV l yX12_tones (.code yX12_tones cX12_tones 5 none) rm_X12_tones E A [.ref a] S Q := by
  refine MtV.of (by decide) (Nat.le_of_ble_eq_true rfl) (fun X F hQ hN => ?_)
  show VV X (0, 0) S [(0, .ref a)] [] 0
  unfold wp_X12_tones at h
  refine v_aload_n F dX12_tones_0 0 rfl rfl ?_
  refine v_iconst (v := 0) F dX12_tones_1 (by decide) ?_
  refine v_aload_n F dX12_tones_2 0 rfl rfl ?_
  refine g_X12_29 F r_a dX12_tones_3 ?_
  refine v_cI0 (v_runV F k_X12_128 rfl (c_X12_item r_a h) r_a rfl rfl (Nat.le_of_ble_eq_true rfl) (by decide) (by decide) dX12_tones_6) ⟨rfl, rfl⟩ (fun r2 S1 h hE => ?_)
  have r_a := r_a.tr hE
  refine v_istore_n (lv1 := [(1, .int r2), (0, .ref a)]) F dX12_tones_9 rfl (by rw [hN]; decide) rfl ?_
  refine v_aload_n F dX12_tones_10 1 rfl rfl ?_
  refine v_iload_n F dX12_tones_11 0 rfl rfl ?_
  refine v_cV0 (v_runV F k_X12_155 rfl (c_X12_hang r_a h) r_a rfl rfl (Nat.le_of_ble_eq_true rfl) (by decide) (by decide) dX12_tones_12) ⟨rfl, rfl⟩ (fun  S3 h hE => ?_)
  have r_a := r_a.tr hE
  refine v_aload_n F dX12_tones_15 1 rfl rfl ?_
  refine g_X12_93 F r_a h dX12_tones_16 (fun b4 r_b4 h => ?_)
  refine v_iload_n F dX12_tones_19 0 rfl rfl ?_
  refine v_aload_n F dX12_tones_20 1 rfl rfl ?_
  refine g_X12_189 F r_a dX12_tones_21 ?_
  refine v_iast F r_b4 o_44 h dX12_tones_24 (fun S5 h hE => ?_)
  have r_a := r_a.tr hE
  refine v_aload_n F dX12_tones_25 1 rfl rfl ?_
  refine v_cI0 (v_runV F k_X12_38 rfl (c_X12_here r_a h) r_a rfl rfl (Nat.le_of_ble_eq_true rfl) (by decide) (by decide) dX12_tones_26) ⟨rfl, rfl⟩ (fun r7 S6 h hE => ?_)
  have r_a := r_a.tr hE
  refine v_istore_n (lv1 := [(2, .int r7), (1, .int r2), (0, .ref a)]) F dX12_tones_29 rfl (by rw [hN]; decide) rfl ?_
  refine v_iload_n F dX12_tones_30 0 rfl rfl ?_
  refine v_cI0 (v_runS F k_X12_149 (c_X12_isTone h) rfl rfl (Nat.le_of_ble_eq_true rfl) (by decide) (by decide) dX12_tones_31) ⟨rfl, rfl⟩ (fun r9 S8 h hE => ?_)
  obtain ⟨nz_r9, h⟩ := h
  have r_a := r_a.tr hE
  have h := h (fun (S10 : PS) => Rf S10 a 9 → VV X (0, 0) S10 [(0, .ref a), (1, .int r2)] [] 191) (by
    intro S10 h r_a
    refine v_aload_n F dX12_tones_191 0 rfl rfl ?_
    refine g_X12_96 F r_a h dX12_tones_192 (fun b12 r_b12 h => ?_)
    refine v_iload_n F dX12_tones_195 1 rfl rfl ?_
    refine v_aload_n F dX12_tones_196 0 rfl rfl ?_
    refine g_X12_189 F r_a dX12_tones_197 ?_
    refine v_aload_n F dX12_tones_200 0 rfl rfl ?_
    refine g_X12_93 F r_a h dX12_tones_201 (fun b13 r_b13 h => ?_)
    refine v_iload_n F dX12_tones_204 1 rfl rfl ?_
    refine v_iald F r_b13 o_44 h dX12_tones_205 (fun h => ?_)
    refine v_isub F dX12_tones_206 ?_
    refine v_iast F r_b12 o_45 h dX12_tones_207 (fun S14 h hE => ?_)
    have r_a := r_a.tr hE
    refine v_aload_n F dX12_tones_208 0 rfl rfl ?_
    refine v_iload_n F dX12_tones_209 1 rfl rfl ?_
    refine v_cV0 (v_runV F k_X12_195 rfl (c_X12_lengthAt r_a h) r_a rfl rfl (Nat.le_of_ble_eq_true rfl) (by decide) (by decide) dX12_tones_210) ⟨rfl, rfl⟩ (fun  S15 h hE => ?_)
    have r_a := r_a.tr hE
    refine v_aload_n F dX12_tones_213 0 rfl rfl ?_
    refine g_X12_23 F r_a dX12_tones_214 ?_
    refine v_if_ne (tgt := 255) F dX12_tones_217 (by decide) h (fun h => ?_) (fun h => ?_)
    · exact v_vret F hQ h (by decide) dX12_tones_255
    · refine v_aload_n F dX12_tones_220 0 rfl rfl ?_
      refine g_X12_96 F r_a h dX12_tones_221 (fun b16 r_b16 h => ?_)
      refine v_iload_n F dX12_tones_224 1 rfl rfl ?_
      refine v_iald F r_b16 o_45 h dX12_tones_225 (fun h => ?_)
      refine v_if_le (tgt := 255) F dX12_tones_226 (by decide) h (fun h => ?_) (fun h => ?_)
      · exact v_vret F hQ h (by decide) dX12_tones_255
      · refine v_aload_n F dX12_tones_229 0 rfl rfl ?_
        refine v_bipush (v := 126) F dX12_tones_230 (by decide) ?_
        refine v_cI0 (v_runV F k_X12_42 rfl (c_X12_isHere r_a h) r_a rfl rfl (Nat.le_of_ble_eq_true rfl) (by decide) (by decide) dX12_tones_232) ⟨rfl, rfl⟩ (fun r18 S17 h hE => ?_)
        obtain ⟨nz_r18, h⟩ := h
        have r_a := r_a.tr hE
        refine v_if_eq (tgt := 255) F dX12_tones_235 (by decide) h (fun h => ?_) (fun h => ?_)
        · exact v_vret F hQ h (by decide) dX12_tones_255
        · refine v_aload_n F dX12_tones_238 0 rfl rfl ?_
          refine g_X12_109 F r_a h dX12_tones_239 (fun b19 r_b19 h => ?_)
          refine v_iload_n F dX12_tones_242 1 rfl rfl ?_
          refine v_iconst (v := 1) F dX12_tones_243 (by decide) ?_
          refine v_zast F r_b19 o_49 h dX12_tones_244 (fun S20 h hE => ?_)
          have r_a := r_a.tr hE
          refine v_aload_n F dX12_tones_245 0 rfl rfl ?_
          refine v_dup F dX12_tones_246 rfl ?_
          refine g_X12_29 F r_a dX12_tones_247 ?_
          refine v_iconst (v := 1) F dX12_tones_250 (by decide) ?_
          refine v_iadd F dX12_tones_251 ?_
          refine p_X12_29 F r_a h dX12_tones_252 (fun S21 h hE => ?_)
          have r_a := r_a.tr hE
          exact v_vret F hQ h (by decide) dX12_tones_255)
  refine v_if_eq (tgt := 44) F dX12_tones_34 (by decide) h (fun h => ?_) (fun h => ?_)
  · refine v_aload_n F dX12_tones_44 2 rfl rfl ?_
    refine v_dup F dX12_tones_45 rfl ?_
    refine g_X12_29 F r_a dX12_tones_46 ?_
    refine v_iconst (v := 1) F dX12_tones_49 (by decide) ?_
    refine v_iadd F dX12_tones_50 ?_
    refine p_X12_29 F r_a h dX12_tones_51 (fun S22 h hE => ?_)
    have r_a := r_a.tr hE
    refine v_iload_n F dX12_tones_54 0 rfl rfl ?_
    refine v_bipush (v := 60) F dX12_tones_55 (by decide) ?_
    have h := h (fun (t23 : Int32) (S24 : PS) => Rf S24 a 9 → VV X (0, 0) S24 [(0, .ref a), (1, .int r2)] [.int t23] 65) (by
      intro t23 S24 h r_a
      refine v_istore_n (lv1 := [(3, .int t23), (0, .ref a), (1, .int r2)]) F dX12_tones_65 rfl (by rw [hN]; decide) rfl ?_
      refine v_sub [1, 2, 0] rfl ?_
      refine h (fun (x3_27 : Int32) (S28 : PS) => Rf S28 a 9 → VV X (0, 0) S28 [(0, .ref a), (1, .int r2), (3, .int x3_27)] [] 66) (fun x3_27 S28 h r_a => ?_) r_a
      refine v_iload_n F dX12_tones_66 2 rfl rfl ?_
      refine v_if_eq (tgt := 191) F dX12_tones_67 (by decide) h (fun h => ?_) (fun h => ?_)
      · exact v_sub [0, 1] rfl (h r_a)
      · refine v_aload_n F dX12_tones_70 0 rfl rfl ?_
        refine v_cV0 (v_runV F k_X12_46 rfl (c_X12_blanks r_a h) r_a rfl rfl (Nat.le_of_ble_eq_true rfl) (by decide) (by decide) dX12_tones_71) ⟨rfl, rfl⟩ (fun  S29 h hE => ?_)
        have r_a := r_a.tr hE
        refine v_aload_n F dX12_tones_74 0 rfl rfl ?_
        refine g_X12_189 F r_a dX12_tones_75 ?_
        refine v_aload_n F dX12_tones_78 0 rfl rfl ?_
        refine g_X12_93 F r_a h dX12_tones_79 (fun b30 r_b30 h => ?_)
        refine v_iload_n F dX12_tones_82 1 rfl rfl ?_
        refine v_iald F r_b30 o_44 h dX12_tones_83 (fun h => ?_)
        refine v_isub F dX12_tones_84 ?_
        refine v_topi (fun v31 e_v31 => ?_)
        have h := h v31 e_v31
        refine v_istore (lv1 := [(4, .int v31), (0, .ref a), (1, .int r2), (3, .int x3_27)]) F dX12_tones_85 (by rw [hN]; decide) rfl ?_
        refine v_aload_n F dX12_tones_87 1 rfl rfl ?_
        refine v_cI0 (v_runV F k_X12_38 rfl (c_X12_here r_a h) r_a rfl rfl (Nat.le_of_ble_eq_true rfl) (by decide) (by decide) dX12_tones_88) ⟨rfl, rfl⟩ (fun r33 S32 h hE => ?_)
        have r_a := r_a.tr hE
        refine v_cI0 (v_runS F k_X12_149 (c_X12_isTone h) rfl rfl (Nat.le_of_ble_eq_true rfl) (by decide) (by decide) dX12_tones_91) ⟨rfl, rfl⟩ (fun r35 S34 h hE => ?_)
        obtain ⟨nz_r35, h⟩ := h
        have r_a := r_a.tr hE
        have h := h (fun (x3_36 : Int32) (S37 : PS) => Rf S37 a 9 → VV X (0, 0) S37 [(0, .ref a), (1, .int r2), (3, .int x3_36)] [] 171) (by
          intro x3_36 S37 h r_a
          refine v_iload_n F dX12_tones_171 2 rfl rfl ?_
          have h := h (fun (t39 : Int32) (S40 : PS) => Rf S40 a 9 → VV X (0, 0) S40 [(0, .ref a), (1, .int r2)] [.int t39] 187) (by
            intro t39 S40 h r_a
            refine v_istore_n (lv1 := [(3, .int t39), (0, .ref a), (1, .int r2)]) F dX12_tones_187 rfl (by rw [hN]; decide) rfl ?_
            refine v_goto (tgt := 66) F dX12_tones_188 (by decide) ?_
            exact v_sub [1, 2, 0] rfl (h r_a))
          refine v_if_eq (tgt := 186) F dX12_tones_172 (by decide) h (fun h => ?_) (fun h => ?_)
          · refine v_iconst (v := 0) F dX12_tones_186 (by decide) ?_
            exact v_sub [0, 1] rfl (h r_a)
          · refine v_aload_n F dX12_tones_175 0 rfl rfl ?_
            refine g_X12_23 F r_a dX12_tones_176 ?_
            refine v_if_ne (tgt := 186) F dX12_tones_179 (by decide) h (fun h => ?_) (fun h => ?_)
            · refine v_iconst (v := 0) F dX12_tones_186 (by decide) ?_
              exact v_sub [0, 1] rfl (h r_a)
            · refine v_iconst (v := 1) F dX12_tones_182 (by decide) ?_
              refine v_goto (tgt := 187) F dX12_tones_183 (by decide) ?_
              exact v_sub [0, 1] rfl (h r_a))
        have h := h (fun (S42 : PS) => Rf S42 a 9 → VV X (0, 0) S42 [(0, .ref a), (1, .int r2), (3, .int x3_27), (4, .int v31)] [] 111) (by
          intro S42 h r_a
          refine v_aload_n F dX12_tones_111 0 rfl rfl ?_
          refine v_cI0 (v_runV F k_X12_38 rfl (c_X12_here r_a h) r_a rfl rfl (Nat.le_of_ble_eq_true rfl) (by decide) (by decide) dX12_tones_112) ⟨rfl, rfl⟩ (fun r45 S44 h hE => ?_)
          have r_a := r_a.tr hE
          refine v_cI0 (v_runS F k_X12_149 (c_X12_isTone h) rfl rfl (Nat.le_of_ble_eq_true rfl) (by decide) (by decide) dX12_tones_115) ⟨rfl, rfl⟩ (fun r47 S46 h hE => ?_)
          obtain ⟨nz_r47, h⟩ := h
          have r_a := r_a.tr hE
          refine v_if_eq (tgt := 133) F dX12_tones_118 (by decide) h (fun h => ?_) (fun h => ?_)
          · refine v_aload_n F dX12_tones_133 0 rfl rfl ?_
            refine v_bipush (v := 62) F dX12_tones_134 (by decide) ?_
            refine v_cI0 (v_runV F k_X12_42 rfl (c_X12_isHere r_a h) r_a rfl rfl (Nat.le_of_ble_eq_true rfl) (by decide) (by decide) dX12_tones_136) ⟨rfl, rfl⟩ (fun r49 S48 h hE => ?_)
            obtain ⟨nz_r49, h⟩ := h
            have r_a := r_a.tr hE
            have h := h (fun (S50 : PS) => Rf S50 a 9 → VV X (0, 0) S50 [(0, .ref a), (1, .int r2), (3, .int x3_27)] [] 162) (by
              intro S50 h r_a
              refine v_aload_n F dX12_tones_162 0 rfl rfl ?_
              refine v_iconst (v := 1) F dX12_tones_163 (by decide) ?_
              refine v_aload_n F dX12_tones_164 0 rfl rfl ?_
              refine g_X12_29 F r_a dX12_tones_165 ?_
              refine v_cV0 (v_runV F k_X12_50 rfl (c_X12_bad r_a h) r_a rfl rfl (Nat.le_of_ble_eq_true rfl) (by decide) (by decide) dX12_tones_168) ⟨rfl, rfl⟩ (fun  S52 h hE => ?_)
              have r_a := r_a.tr hE
              exact v_sub [0, 1, 2] rfl (h r_a))
            refine v_if_eq (tgt := 162) F dX12_tones_139 (by decide) h (fun h => ?_) (fun h => ?_)
            · exact v_sub [0, 1, 2] rfl (h r_a)
            · refine v_iload F dX12_tones_142 3 rfl ?_
              refine v_if_le (tgt := 162) F dX12_tones_144 (by decide) h (fun h => ?_) (fun h => ?_)
              · exact v_sub [0, 1, 2] rfl (h r_a)
              · refine v_iconst (v := 0) F dX12_tones_147 (by decide) ?_
                refine v_istore_n (lv1 := [(3, .int 0), (0, .ref a), (1, .int r2), (4, .int v31)]) F dX12_tones_148 rfl (by rw [hN]; decide) rfl ?_
                refine v_aload_n F dX12_tones_149 1 rfl rfl ?_
                refine v_dup F dX12_tones_150 rfl ?_
                refine g_X12_29 F r_a dX12_tones_151 ?_
                refine v_iconst (v := 1) F dX12_tones_154 (by decide) ?_
                refine v_iadd F dX12_tones_155 ?_
                refine p_X12_29 F r_a h dX12_tones_156 (fun S53 h hE => ?_)
                have r_a := r_a.tr hE
                refine v_goto (tgt := 171) F dX12_tones_159 (by decide) ?_
                exact v_sub [1, 2, 0] rfl (h r_a)
          · refine v_aload_n F dX12_tones_121 0 rfl rfl ?_
            refine v_iconst (v := 5) F dX12_tones_122 (by decide) ?_
            refine v_aload_n F dX12_tones_123 0 rfl rfl ?_
            refine g_X12_29 F r_a dX12_tones_124 ?_
            refine v_cV0 (v_runV F k_X12_50 rfl (c_X12_bad r_a h) r_a rfl rfl (Nat.le_of_ble_eq_true rfl) (by decide) (by decide) dX12_tones_127) ⟨rfl, rfl⟩ (fun  S54 h hE => ?_)
            have r_a := r_a.tr hE
            refine v_goto (tgt := 171) F dX12_tones_130 (by decide) ?_
            exact v_sub [0, 1, 2] rfl (h r_a))
        refine v_if_eq (tgt := 111) F dX12_tones_94 (by decide) h (fun h => ?_) (fun h => ?_)
        · exact v_sub [1, 2, 3, 0] rfl (h r_a)
        · refine v_iload F dX12_tones_97 0 rfl ?_
          refine v_bipush (v := 6) F dX12_tones_99 (by decide) ?_
          refine v_icmp_ge (tgt := 111) F dX12_tones_101 (by decide) h (fun h => ?_) (fun h => ?_)
          · exact v_sub [1, 2, 3, 0] rfl (h r_a)
          · refine v_aload_n F dX12_tones_104 1 rfl rfl ?_
            refine v_cV0 (v_runV F k_X12_192 rfl (c_X12_pitchAt r_a h) r_a rfl rfl (Nat.le_of_ble_eq_true rfl) (by decide) (by decide) dX12_tones_105) ⟨rfl, rfl⟩ (fun  S55 h hE => ?_)
            have r_a := r_a.tr hE
            refine v_goto (tgt := 171) F dX12_tones_108 (by decide) ?_
            exact v_sub [1, 2, 3] rfl (h r_a))
    refine v_icmp_ne (tgt := 64) F dX12_tones_57 (by decide) h (fun h => ?_) (fun h => ?_)
    · refine v_iconst (v := 0) F dX12_tones_64 (by decide) ?_
      exact v_sub [2, 1] rfl (h r_a)
    · refine v_iconst (v := 1) F dX12_tones_60 (by decide) ?_
      refine v_goto (tgt := 65) F dX12_tones_61 (by decide) ?_
      exact v_sub [2, 1] rfl (h r_a)
  · refine v_aload_n F dX12_tones_37 2 rfl rfl ?_
    refine v_cV0 (v_runV F k_X12_192 rfl (c_X12_pitchAt r_a h) r_a rfl rfl (Nat.le_of_ble_eq_true rfl) (by decide) (by decide) dX12_tones_38) ⟨rfl, rfl⟩ (fun  S56 h hE => ?_)
    have r_a := r_a.tr hE
    refine v_goto (tgt := 191) F dX12_tones_41 (by decide) ?_
    exact v_sub [2, 1] rfl (h r_a)
theorem dX12_itsBlock_0 : decode cX12_itsBlock 0 = .ok (.aload_n 0, 1) := by decide +kernel
theorem dX12_itsBlock_1 : decode cX12_itsBlock 1 = .ok (.iconst 1, 1) := by decide +kernel
theorem dX12_itsBlock_2 : decode cX12_itsBlock 2 = .ok (.iload_n 1, 1) := by decide +kernel
theorem dX12_itsBlock_3 : decode cX12_itsBlock 3 = .ok (.invokevirtual 186, 3) := by decide +kernel
theorem dX12_itsBlock_6 : decode cX12_itsBlock 6 = .ok (.aload_n 0, 1) := by decide +kernel
theorem dX12_itsBlock_7 : decode cX12_itsBlock 7 = .ok (.getfield 23, 3) := by decide +kernel
theorem dX12_itsBlock_10 : decode cX12_itsBlock 10 = .ok (.ifCond .ne 20, 3) := by decide +kernel
theorem dX12_itsBlock_13 : decode cX12_itsBlock 13 = .ok (.aload_n 0, 1) := by decide +kernel
theorem dX12_itsBlock_14 : decode cX12_itsBlock 14 = .ok (.getfield 99, 3) := by decide +kernel
theorem dX12_itsBlock_17 : decode cX12_itsBlock 17 = .ok (.iload_n 1, 1) := by decide +kernel
theorem dX12_itsBlock_18 : decode cX12_itsBlock 18 = .ok (.aload_n 0, 1) := by decide +kernel
theorem dX12_itsBlock_19 : decode cX12_itsBlock 19 = .ok (.getfield 122, 3) := by decide +kernel
theorem dX12_itsBlock_22 : decode cX12_itsBlock 22 = .ok (.aload_n 0, 1) := by decide +kernel
theorem dX12_itsBlock_23 : decode cX12_itsBlock 23 = .ok (.getfield 116, 3) := by decide +kernel
theorem dX12_itsBlock_26 : decode cX12_itsBlock 26 = .ok (.iconst 1, 1) := by decide +kernel
theorem dX12_itsBlock_27 : decode cX12_itsBlock 27 = .ok (.isub, 1) := by decide +kernel
theorem dX12_itsBlock_28 : decode cX12_itsBlock 28 = .ok (.iaload, 1) := by decide +kernel
theorem dX12_itsBlock_29 : decode cX12_itsBlock 29 = .ok (.iastore, 1) := by decide +kernel
theorem dX12_itsBlock_30 : decode cX12_itsBlock 30 = .ok (.return_, 1) := by decide +kernel
abbrev rm_X12_itsBlock : Room := { frames := 4, cells := 0, slots := 0, locals := 84 }
def wp_X12_itsBlock (a : Nat) (p1 : Int32) (S : PS) (Q : PS → Prop) : Prop :=
  wp_X12_openBlock a 1 p1 S (fun (S1 : PS) => 
 (if fI S1 102 a = 0 then
 (∃ b2, fR S1 109 a = some b2 ∧ (∃ b3, fR S1 132 a = some b3 ∧ (vp_in ((fI S1 134 a) - 1) (aN S1 b3) ∧ (vp_in p1 (aN S1 b2) ∧ ∀ S4, S4 = wI S1 46 b2 (p1).toNatClampNeg (aI S1 63 b3 ((fI S1 134 a) - 1).toNatClampNeg) → Q S4))))
 else
 Q S1))
set_option maxRecDepth 100000 in
set_option maxHeartbeats 4000000 in
theorem c_X12_itsBlock {l : Launch} {E : EE} {A : Nat → Prop} {a : Nat} {p1 : Int32} {S : PS} {Q : PS → Prop} (r_a : Rf S a 9) (h : wp_X12_itsBlock a p1 S Q) : MtV l yX12_itsBlock (.code yX12_itsBlock cX12_itsBlock 2 none) rm_X12_itsBlock E A [.ref a, .int p1] S Q := by
  refine MtV.of (by decide) (Nat.le_of_ble_eq_true rfl) (fun X F hQ hN => ?_)
  show VV X (0, 0) S [(0, .ref a), (1, .int p1)] [] 0
  unfold wp_X12_itsBlock at h
  refine v_aload_n F dX12_itsBlock_0 0 rfl rfl ?_
  refine v_iconst (v := 1) F dX12_itsBlock_1 (by decide) ?_
  refine v_iload_n F dX12_itsBlock_2 1 rfl rfl ?_
  refine v_cV0 (v_runV F k_X12_186 rfl (c_X12_openBlock r_a h) r_a rfl rfl (Nat.le_of_ble_eq_true rfl) (by decide) (by decide) dX12_itsBlock_3) ⟨rfl, rfl⟩ (fun  S1 h hE => ?_)
  have r_a := r_a.tr hE
  refine v_aload_n F dX12_itsBlock_6 0 rfl rfl ?_
  refine g_X12_23 F r_a dX12_itsBlock_7 ?_
  refine v_if_ne (tgt := 30) F dX12_itsBlock_10 (by decide) h (fun h => ?_) (fun h => ?_)
  · exact v_vret F hQ h (by decide) dX12_itsBlock_30
  · refine v_aload_n F dX12_itsBlock_13 0 rfl rfl ?_
    refine g_X12_99 F r_a h dX12_itsBlock_14 (fun b2 r_b2 h => ?_)
    refine v_iload_n F dX12_itsBlock_17 1 rfl rfl ?_
    refine v_aload_n F dX12_itsBlock_18 0 rfl rfl ?_
    refine g_X12_122 F r_a h dX12_itsBlock_19 (fun b3 r_b3 h => ?_)
    refine v_aload_n F dX12_itsBlock_22 0 rfl rfl ?_
    refine g_X12_116 F r_a dX12_itsBlock_23 ?_
    refine v_iconst (v := 1) F dX12_itsBlock_26 (by decide) ?_
    refine v_isub F dX12_itsBlock_27 ?_
    refine v_iald F r_b3 o_63 h dX12_itsBlock_28 (fun h => ?_)
    refine v_iast F r_b2 o_46 h dX12_itsBlock_29 (fun S4 h hE => ?_)
    have r_a := r_a.tr hE
    exact v_vret F hQ h (by decide) dX12_itsBlock_30
theorem dX12_voicesAt_0 : decode cX12_voicesAt 0 = .ok (.aload_n 0, 1) := by decide +kernel
theorem dX12_voicesAt_1 : decode cX12_voicesAt 1 = .ok (.getfield 86, 3) := by decide +kernel
theorem dX12_voicesAt_4 : decode cX12_voicesAt 4 = .ok (.iload_n 1, 1) := by decide +kernel
theorem dX12_voicesAt_5 : decode cX12_voicesAt 5 = .ok (.bipush 7, 2) := by decide +kernel
theorem dX12_voicesAt_7 : decode cX12_voicesAt 7 = .ok (.iastore, 1) := by decide +kernel
theorem dX12_voicesAt_8 : decode cX12_voicesAt 8 = .ok (.aload_n 0, 1) := by decide +kernel
theorem dX12_voicesAt_9 : decode cX12_voicesAt 9 = .ok (.getfield 116, 3) := by decide +kernel
theorem dX12_voicesAt_12 : decode cX12_voicesAt 12 = .ok (.bipush 9, 2) := by decide +kernel
theorem dX12_voicesAt_14 : decode cX12_voicesAt 14 = .ok (.if_icmp .ne 15, 3) := by decide +kernel
theorem dX12_voicesAt_17 : decode cX12_voicesAt 17 = .ok (.aload_n 0, 1) := by decide +kernel
theorem dX12_voicesAt_18 : decode cX12_voicesAt 18 = .ok (.iconst 5, 1) := by decide +kernel
theorem dX12_voicesAt_19 : decode cX12_voicesAt 19 = .ok (.aload_n 0, 1) := by decide +kernel
theorem dX12_voicesAt_20 : decode cX12_voicesAt 20 = .ok (.getfield 90, 3) := by decide +kernel
theorem dX12_voicesAt_23 : decode cX12_voicesAt 23 = .ok (.iload_n 1, 1) := by decide +kernel
theorem dX12_voicesAt_24 : decode cX12_voicesAt 24 = .ok (.iaload, 1) := by decide +kernel
theorem dX12_voicesAt_25 : decode cX12_voicesAt 25 = .ok (.invokevirtual 50, 3) := by decide +kernel
theorem dX12_voicesAt_28 : decode cX12_voicesAt 28 = .ok (.return_, 1) := by decide +kernel
theorem dX12_voicesAt_29 : decode cX12_voicesAt 29 = .ok (.aload_n 0, 1) := by decide +kernel
theorem dX12_voicesAt_30 : decode cX12_voicesAt 30 = .ok (.getfield 99, 3) := by decide +kernel
theorem dX12_voicesAt_33 : decode cX12_voicesAt 33 = .ok (.iload_n 1, 1) := by decide +kernel
theorem dX12_voicesAt_34 : decode cX12_voicesAt 34 = .ok (.aload_n 0, 1) := by decide +kernel
theorem dX12_voicesAt_35 : decode cX12_voicesAt 35 = .ok (.bipush 11, 2) := by decide +kernel
theorem dX12_voicesAt_37 : decode cX12_voicesAt 37 = .ok (.aload_n 0, 1) := by decide +kernel
theorem dX12_voicesAt_38 : decode cX12_voicesAt 38 = .ok (.getfield 29, 3) := by decide +kernel
theorem dX12_voicesAt_41 : decode cX12_voicesAt 41 = .ok (.invokevirtual 128, 3) := by decide +kernel
theorem dX12_voicesAt_44 : decode cX12_voicesAt 44 = .ok (.iastore, 1) := by decide +kernel
theorem dX12_voicesAt_45 : decode cX12_voicesAt 45 = .ok (.aload_n 0, 1) := by decide +kernel
theorem dX12_voicesAt_46 : decode cX12_voicesAt 46 = .ok (.iconst 2, 1) := by decide +kernel
theorem dX12_voicesAt_47 : decode cX12_voicesAt 47 = .ok (.iload_n 1, 1) := by decide +kernel
theorem dX12_voicesAt_48 : decode cX12_voicesAt 48 = .ok (.aload_n 0, 1) := by decide +kernel
theorem dX12_voicesAt_49 : decode cX12_voicesAt 49 = .ok (.getfield 99, 3) := by decide +kernel
theorem dX12_voicesAt_52 : decode cX12_voicesAt 52 = .ok (.iload_n 1, 1) := by decide +kernel
theorem dX12_voicesAt_53 : decode cX12_voicesAt 53 = .ok (.iaload, 1) := by decide +kernel
theorem dX12_voicesAt_54 : decode cX12_voicesAt 54 = .ok (.invokevirtual 132, 3) := by decide +kernel
theorem dX12_voicesAt_57 : decode cX12_voicesAt 57 = .ok (.return_, 1) := by decide +kernel
abbrev rm_X12_voicesAt : Room := { frames := 1, cells := 0, slots := 0, locals := 23 }
def wp_X12_voicesAt (a : Nat) (p1 : Int32) (S : PS) (Q : PS → Prop) : Prop :=
  (∃ b1, fR S 105 a = some b1 ∧ (vp_in p1 (aN S b1) ∧ ∀ S2, S2 = wI S 42 b1 (p1).toNatClampNeg 7 → (if fI S2 134 a = 9 then
 (∃ b9, fR S2 106 a = some b9 ∧ (vp_in p1 (aN S2 b9) ∧ wp_X12_bad a 5 (aI S2 43 b9 (p1).toNatClampNeg) S2 (fun (S10 : PS) => 
 Q S10)))
 else
 (∃ b3, fR S2 109 a = some b3 ∧ wp_X12_item a 11 (fI S2 101 a) S2 (fun (r5 : Int32) (S4 : PS) => 
 (vp_in p1 (aN S4 b3) ∧ ∀ S6, S6 = wI S4 46 b3 (p1).toNatClampNeg r5 → (∃ b7, fR S6 109 a = some b7 ∧ (vp_in p1 (aN S6 b7) ∧ wp_X12_openMusic a 2 p1 (aI S6 46 b7 (p1).toNatClampNeg) S6 (fun (S8 : PS) => 
 Q S8)))))))))
set_option maxRecDepth 100000 in
set_option maxHeartbeats 4000000 in
theorem c_X12_voicesAt {l : Launch} {E : EE} {A : Nat → Prop} {a : Nat} {p1 : Int32} {S : PS} {Q : PS → Prop} (r_a : Rf S a 9) (h : wp_X12_voicesAt a p1 S Q) : MtV l yX12_voicesAt (.code yX12_voicesAt cX12_voicesAt 2 none) rm_X12_voicesAt E A [.ref a, .int p1] S Q := by
  refine MtV.of (by decide) (Nat.le_of_ble_eq_true rfl) (fun X F hQ hN => ?_)
  show VV X (0, 0) S [(0, .ref a), (1, .int p1)] [] 0
  unfold wp_X12_voicesAt at h
  refine v_aload_n F dX12_voicesAt_0 0 rfl rfl ?_
  refine g_X12_86 F r_a h dX12_voicesAt_1 (fun b1 r_b1 h => ?_)
  refine v_iload_n F dX12_voicesAt_4 1 rfl rfl ?_
  refine v_bipush (v := 7) F dX12_voicesAt_5 (by decide) ?_
  refine v_iast F r_b1 o_42 h dX12_voicesAt_7 (fun S2 h hE => ?_)
  have r_a := r_a.tr hE
  refine v_aload_n F dX12_voicesAt_8 0 rfl rfl ?_
  refine g_X12_116 F r_a dX12_voicesAt_9 ?_
  refine v_bipush (v := 9) F dX12_voicesAt_12 (by decide) ?_
  refine v_icmp_ne (tgt := 29) F dX12_voicesAt_14 (by decide) h (fun h => ?_) (fun h => ?_)
  · refine v_aload_n F dX12_voicesAt_29 0 rfl rfl ?_
    refine g_X12_99 F r_a h dX12_voicesAt_30 (fun b3 r_b3 h => ?_)
    refine v_iload_n F dX12_voicesAt_33 1 rfl rfl ?_
    refine v_aload_n F dX12_voicesAt_34 0 rfl rfl ?_
    refine v_bipush (v := 11) F dX12_voicesAt_35 (by decide) ?_
    refine v_aload_n F dX12_voicesAt_37 0 rfl rfl ?_
    refine g_X12_29 F r_a dX12_voicesAt_38 ?_
    refine v_cI0 (v_runV F k_X12_128 rfl (c_X12_item r_a h) r_a rfl rfl (Nat.le_of_ble_eq_true rfl) (by decide) (by decide) dX12_voicesAt_41) ⟨rfl, rfl⟩ (fun r5 S4 h hE => ?_)
    have r_a := r_a.tr hE
    have r_b3 := r_b3.tr hE
    refine v_iast F r_b3 o_46 h dX12_voicesAt_44 (fun S6 h hE => ?_)
    have r_a := r_a.tr hE
    refine v_aload_n F dX12_voicesAt_45 0 rfl rfl ?_
    refine v_iconst (v := 2) F dX12_voicesAt_46 (by decide) ?_
    refine v_iload_n F dX12_voicesAt_47 1 rfl rfl ?_
    refine v_aload_n F dX12_voicesAt_48 0 rfl rfl ?_
    refine g_X12_99 F r_a h dX12_voicesAt_49 (fun b7 r_b7 h => ?_)
    refine v_iload_n F dX12_voicesAt_52 1 rfl rfl ?_
    refine v_iald F r_b7 o_46 h dX12_voicesAt_53 (fun h => ?_)
    refine v_cV0 (v_runV F k_X12_132 rfl (c_X12_openMusic r_a h) r_a rfl rfl (Nat.le_of_ble_eq_true rfl) (by decide) (by decide) dX12_voicesAt_54) ⟨rfl, rfl⟩ (fun  S8 h hE => ?_)
    have r_a := r_a.tr hE
    exact v_vret F hQ h (by decide) dX12_voicesAt_57
  · refine v_aload_n F dX12_voicesAt_17 0 rfl rfl ?_
    refine v_iconst (v := 5) F dX12_voicesAt_18 (by decide) ?_
    refine v_aload_n F dX12_voicesAt_19 0 rfl rfl ?_
    refine g_X12_90 F r_a h dX12_voicesAt_20 (fun b9 r_b9 h => ?_)
    refine v_iload_n F dX12_voicesAt_23 1 rfl rfl ?_
    refine v_iald F r_b9 o_43 h dX12_voicesAt_24 (fun h => ?_)
    refine v_cV0 (v_runV F k_X12_50 rfl (c_X12_bad r_a h) r_a rfl rfl (Nat.le_of_ble_eq_true rfl) (by decide) (by decide) dX12_voicesAt_25) ⟨rfl, rfl⟩ (fun  S10 h hE => ?_)
    have r_a := r_a.tr hE
    exact v_vret F hQ h (by decide) dX12_voicesAt_28
theorem dX12_wordsAt_0 : decode cX12_wordsAt 0 = .ok (.aload_n 0, 1) := by decide +kernel
theorem dX12_wordsAt_1 : decode cX12_wordsAt 1 = .ok (.getfield 86, 3) := by decide +kernel
theorem dX12_wordsAt_4 : decode cX12_wordsAt 4 = .ok (.iload_n 1, 1) := by decide +kernel
theorem dX12_wordsAt_5 : decode cX12_wordsAt 5 = .ok (.bipush 8, 2) := by decide +kernel
theorem dX12_wordsAt_7 : decode cX12_wordsAt 7 = .ok (.iastore, 1) := by decide +kernel
theorem dX12_wordsAt_8 : decode cX12_wordsAt 8 = .ok (.aload_n 0, 1) := by decide +kernel
theorem dX12_wordsAt_9 : decode cX12_wordsAt 9 = .ok (.getfield 93, 3) := by decide +kernel
theorem dX12_wordsAt_12 : decode cX12_wordsAt 12 = .ok (.iload_n 1, 1) := by decide +kernel
theorem dX12_wordsAt_13 : decode cX12_wordsAt 13 = .ok (.aload_n 0, 1) := by decide +kernel
theorem dX12_wordsAt_14 : decode cX12_wordsAt 14 = .ok (.iconst 1, 1) := by decide +kernel
theorem dX12_wordsAt_15 : decode cX12_wordsAt 15 = .ok (.iconst 3, 1) := by decide +kernel
theorem dX12_wordsAt_16 : decode cX12_wordsAt 16 = .ok (.invokevirtual 158, 3) := by decide +kernel
theorem dX12_wordsAt_19 : decode cX12_wordsAt 19 = .ok (.iastore, 1) := by decide +kernel
theorem dX12_wordsAt_20 : decode cX12_wordsAt 20 = .ok (.aload_n 0, 1) := by decide +kernel
theorem dX12_wordsAt_21 : decode cX12_wordsAt 21 = .ok (.bipush 34, 2) := by decide +kernel
theorem dX12_wordsAt_23 : decode cX12_wordsAt 23 = .ok (.invokevirtual 161, 3) := by decide +kernel
theorem dX12_wordsAt_26 : decode cX12_wordsAt 26 = .ok (.aload_n 0, 1) := by decide +kernel
theorem dX12_wordsAt_27 : decode cX12_wordsAt 27 = .ok (.getfield 96, 3) := by decide +kernel
theorem dX12_wordsAt_30 : decode cX12_wordsAt 30 = .ok (.iload_n 1, 1) := by decide +kernel
theorem dX12_wordsAt_31 : decode cX12_wordsAt 31 = .ok (.aload_n 0, 1) := by decide +kernel
theorem dX12_wordsAt_32 : decode cX12_wordsAt 32 = .ok (.getfield 214, 3) := by decide +kernel
theorem dX12_wordsAt_35 : decode cX12_wordsAt 35 = .ok (.iastore, 1) := by decide +kernel
theorem dX12_wordsAt_36 : decode cX12_wordsAt 36 = .ok (.aload_n 0, 1) := by decide +kernel
theorem dX12_wordsAt_37 : decode cX12_wordsAt 37 = .ok (.getfield 23, 3) := by decide +kernel
theorem dX12_wordsAt_40 : decode cX12_wordsAt 40 = .ok (.ifCond .ne 7, 3) := by decide +kernel
theorem dX12_wordsAt_43 : decode cX12_wordsAt 43 = .ok (.iconst 1, 1) := by decide +kernel
theorem dX12_wordsAt_44 : decode cX12_wordsAt 44 = .ok (.goto 4, 3) := by decide +kernel
theorem dX12_wordsAt_47 : decode cX12_wordsAt 47 = .ok (.iconst 0, 1) := by decide +kernel
theorem dX12_wordsAt_48 : decode cX12_wordsAt 48 = .ok (.istore_n 2, 1) := by decide +kernel
theorem dX12_wordsAt_49 : decode cX12_wordsAt 49 = .ok (.iload_n 2, 1) := by decide +kernel
theorem dX12_wordsAt_50 : decode cX12_wordsAt 50 = .ok (.ifCond .eq 197, 3) := by decide +kernel
theorem dX12_wordsAt_53 : decode cX12_wordsAt 53 = .ok (.aload_n 0, 1) := by decide +kernel
theorem dX12_wordsAt_54 : decode cX12_wordsAt 54 = .ok (.bipush 32, 2) := by decide +kernel
theorem dX12_wordsAt_56 : decode cX12_wordsAt 56 = .ok (.invokevirtual 42, 3) := by decide +kernel
theorem dX12_wordsAt_59 : decode cX12_wordsAt 59 = .ok (.ifCond .ne 12, 3) := by decide +kernel
theorem dX12_wordsAt_62 : decode cX12_wordsAt 62 = .ok (.aload_n 0, 1) := by decide +kernel
theorem dX12_wordsAt_63 : decode cX12_wordsAt 63 = .ok (.bipush 10, 2) := by decide +kernel
theorem dX12_wordsAt_65 : decode cX12_wordsAt 65 = .ok (.invokevirtual 42, 3) := by decide +kernel
theorem dX12_wordsAt_68 : decode cX12_wordsAt 68 = .ok (.ifCond .eq 16, 3) := by decide +kernel
theorem dX12_wordsAt_71 : decode cX12_wordsAt 71 = .ok (.aload_n 0, 1) := by decide +kernel
theorem dX12_wordsAt_72 : decode cX12_wordsAt 72 = .ok (.dup, 1) := by decide +kernel
theorem dX12_wordsAt_73 : decode cX12_wordsAt 73 = .ok (.getfield 29, 3) := by decide +kernel
theorem dX12_wordsAt_76 : decode cX12_wordsAt 76 = .ok (.iconst 1, 1) := by decide +kernel
theorem dX12_wordsAt_77 : decode cX12_wordsAt 77 = .ok (.iadd, 1) := by decide +kernel
theorem dX12_wordsAt_78 : decode cX12_wordsAt 78 = .ok (.putfield 29, 3) := by decide +kernel
theorem dX12_wordsAt_81 : decode cX12_wordsAt 81 = .ok (.goto (-28), 3) := by decide +kernel
theorem dX12_wordsAt_84 : decode cX12_wordsAt 84 = .ok (.aload_n 0, 1) := by decide +kernel
theorem dX12_wordsAt_85 : decode cX12_wordsAt 85 = .ok (.getfield 29, 3) := by decide +kernel
theorem dX12_wordsAt_88 : decode cX12_wordsAt 88 = .ok (.istore_n 3, 1) := by decide +kernel
theorem dX12_wordsAt_89 : decode cX12_wordsAt 89 = .ok (.aload_n 0, 1) := by decide +kernel
theorem dX12_wordsAt_90 : decode cX12_wordsAt 90 = .ok (.invokevirtual 38, 3) := by decide +kernel
theorem dX12_wordsAt_93 : decode cX12_wordsAt 93 = .ok (.i2l, 1) := by decide +kernel
theorem dX12_wordsAt_94 : decode cX12_wordsAt 94 = .ok (.ldc2_w 217, 3) := by decide +kernel
theorem dX12_wordsAt_97 : decode cX12_wordsAt 97 = .ok (.ldc2_w 219, 3) := by decide +kernel
theorem dX12_wordsAt_100 : decode cX12_wordsAt 100 = .ok (.invokestatic 9, 3) := by decide +kernel
theorem dX12_wordsAt_103 : decode cX12_wordsAt 103 = .ok (.ifCond .eq 25, 3) := by decide +kernel
theorem dX12_wordsAt_106 : decode cX12_wordsAt 106 = .ok (.aload_n 0, 1) := by decide +kernel
theorem dX12_wordsAt_107 : decode cX12_wordsAt 107 = .ok (.bipush 34, 2) := by decide +kernel
theorem dX12_wordsAt_109 : decode cX12_wordsAt 109 = .ok (.invokevirtual 42, 3) := by decide +kernel
theorem dX12_wordsAt_112 : decode cX12_wordsAt 112 = .ok (.ifCond .ne 16, 3) := by decide +kernel
theorem dX12_wordsAt_115 : decode cX12_wordsAt 115 = .ok (.aload_n 0, 1) := by decide +kernel
theorem dX12_wordsAt_116 : decode cX12_wordsAt 116 = .ok (.dup, 1) := by decide +kernel
theorem dX12_wordsAt_117 : decode cX12_wordsAt 117 = .ok (.getfield 29, 3) := by decide +kernel
theorem dX12_wordsAt_120 : decode cX12_wordsAt 120 = .ok (.iconst 1, 1) := by decide +kernel
theorem dX12_wordsAt_121 : decode cX12_wordsAt 121 = .ok (.iadd, 1) := by decide +kernel
theorem dX12_wordsAt_122 : decode cX12_wordsAt 122 = .ok (.putfield 29, 3) := by decide +kernel
theorem dX12_wordsAt_125 : decode cX12_wordsAt 125 = .ok (.goto (-36), 3) := by decide +kernel
theorem dX12_wordsAt_128 : decode cX12_wordsAt 128 = .ok (.aload_n 0, 1) := by decide +kernel
theorem dX12_wordsAt_129 : decode cX12_wordsAt 129 = .ok (.getfield 29, 3) := by decide +kernel
theorem dX12_wordsAt_132 : decode cX12_wordsAt 132 = .ok (.iload_n 3, 1) := by decide +kernel
theorem dX12_wordsAt_133 : decode cX12_wordsAt 133 = .ok (.bipush 12, 2) := by decide +kernel
theorem dX12_wordsAt_135 : decode cX12_wordsAt 135 = .ok (.iadd, 1) := by decide +kernel
theorem dX12_wordsAt_136 : decode cX12_wordsAt 136 = .ok (.if_icmp .le 12, 3) := by decide +kernel
theorem dX12_wordsAt_139 : decode cX12_wordsAt 139 = .ok (.aload_n 0, 1) := by decide +kernel
theorem dX12_wordsAt_140 : decode cX12_wordsAt 140 = .ok (.iconst 5, 1) := by decide +kernel
theorem dX12_wordsAt_141 : decode cX12_wordsAt 141 = .ok (.iload_n 3, 1) := by decide +kernel
theorem dX12_wordsAt_142 : decode cX12_wordsAt 142 = .ok (.invokevirtual 50, 3) := by decide +kernel
theorem dX12_wordsAt_145 : decode cX12_wordsAt 145 = .ok (.goto 82, 3) := by decide +kernel
theorem dX12_wordsAt_148 : decode cX12_wordsAt 148 = .ok (.aload_n 0, 1) := by decide +kernel
theorem dX12_wordsAt_149 : decode cX12_wordsAt 149 = .ok (.getfield 29, 3) := by decide +kernel
theorem dX12_wordsAt_152 : decode cX12_wordsAt 152 = .ok (.iload_n 3, 1) := by decide +kernel
theorem dX12_wordsAt_153 : decode cX12_wordsAt 153 = .ok (.if_icmp .le 41, 3) := by decide +kernel
theorem dX12_wordsAt_156 : decode cX12_wordsAt 156 = .ok (.aload_n 0, 1) := by decide +kernel
theorem dX12_wordsAt_157 : decode cX12_wordsAt 157 = .ok (.getfield 221, 3) := by decide +kernel
theorem dX12_wordsAt_160 : decode cX12_wordsAt 160 = .ok (.aload_n 0, 1) := by decide +kernel
theorem dX12_wordsAt_161 : decode cX12_wordsAt 161 = .ok (.getfield 214, 3) := by decide +kernel
theorem dX12_wordsAt_164 : decode cX12_wordsAt 164 = .ok (.iload_n 3, 1) := by decide +kernel
theorem dX12_wordsAt_165 : decode cX12_wordsAt 165 = .ok (.iastore, 1) := by decide +kernel
theorem dX12_wordsAt_166 : decode cX12_wordsAt 166 = .ok (.aload_n 0, 1) := by decide +kernel
theorem dX12_wordsAt_167 : decode cX12_wordsAt 167 = .ok (.getfield 224, 3) := by decide +kernel
theorem dX12_wordsAt_170 : decode cX12_wordsAt 170 = .ok (.aload_n 0, 1) := by decide +kernel
theorem dX12_wordsAt_171 : decode cX12_wordsAt 171 = .ok (.getfield 214, 3) := by decide +kernel
theorem dX12_wordsAt_174 : decode cX12_wordsAt 174 = .ok (.aload_n 0, 1) := by decide +kernel
theorem dX12_wordsAt_175 : decode cX12_wordsAt 175 = .ok (.getfield 29, 3) := by decide +kernel
theorem dX12_wordsAt_178 : decode cX12_wordsAt 178 = .ok (.iload_n 3, 1) := by decide +kernel
theorem dX12_wordsAt_179 : decode cX12_wordsAt 179 = .ok (.isub, 1) := by decide +kernel
theorem dX12_wordsAt_180 : decode cX12_wordsAt 180 = .ok (.iastore, 1) := by decide +kernel
theorem dX12_wordsAt_181 : decode cX12_wordsAt 181 = .ok (.aload_n 0, 1) := by decide +kernel
theorem dX12_wordsAt_182 : decode cX12_wordsAt 182 = .ok (.dup, 1) := by decide +kernel
theorem dX12_wordsAt_183 : decode cX12_wordsAt 183 = .ok (.getfield 214, 3) := by decide +kernel
theorem dX12_wordsAt_186 : decode cX12_wordsAt 186 = .ok (.iconst 1, 1) := by decide +kernel
theorem dX12_wordsAt_187 : decode cX12_wordsAt 187 = .ok (.iadd, 1) := by decide +kernel
theorem dX12_wordsAt_188 : decode cX12_wordsAt 188 = .ok (.putfield 214, 3) := by decide +kernel
theorem dX12_wordsAt_191 : decode cX12_wordsAt 191 = .ok (.goto 36, 3) := by decide +kernel
theorem dX12_wordsAt_194 : decode cX12_wordsAt 194 = .ok (.aload_n 0, 1) := by decide +kernel
theorem dX12_wordsAt_195 : decode cX12_wordsAt 195 = .ok (.bipush 34, 2) := by decide +kernel
theorem dX12_wordsAt_197 : decode cX12_wordsAt 197 = .ok (.invokevirtual 42, 3) := by decide +kernel
theorem dX12_wordsAt_200 : decode cX12_wordsAt 200 = .ok (.ifCond .eq 18, 3) := by decide +kernel
theorem dX12_wordsAt_203 : decode cX12_wordsAt 203 = .ok (.aload_n 0, 1) := by decide +kernel
theorem dX12_wordsAt_204 : decode cX12_wordsAt 204 = .ok (.dup, 1) := by decide +kernel
theorem dX12_wordsAt_205 : decode cX12_wordsAt 205 = .ok (.getfield 29, 3) := by decide +kernel
theorem dX12_wordsAt_208 : decode cX12_wordsAt 208 = .ok (.iconst 1, 1) := by decide +kernel
theorem dX12_wordsAt_209 : decode cX12_wordsAt 209 = .ok (.iadd, 1) := by decide +kernel
theorem dX12_wordsAt_210 : decode cX12_wordsAt 210 = .ok (.putfield 29, 3) := by decide +kernel
theorem dX12_wordsAt_213 : decode cX12_wordsAt 213 = .ok (.iconst 0, 1) := by decide +kernel
theorem dX12_wordsAt_214 : decode cX12_wordsAt 214 = .ok (.istore_n 2, 1) := by decide +kernel
theorem dX12_wordsAt_215 : decode cX12_wordsAt 215 = .ok (.goto 12, 3) := by decide +kernel
theorem dX12_wordsAt_218 : decode cX12_wordsAt 218 = .ok (.aload_n 0, 1) := by decide +kernel
theorem dX12_wordsAt_219 : decode cX12_wordsAt 219 = .ok (.iconst 1, 1) := by decide +kernel
theorem dX12_wordsAt_220 : decode cX12_wordsAt 220 = .ok (.aload_n 0, 1) := by decide +kernel
theorem dX12_wordsAt_221 : decode cX12_wordsAt 221 = .ok (.getfield 29, 3) := by decide +kernel
theorem dX12_wordsAt_224 : decode cX12_wordsAt 224 = .ok (.invokevirtual 50, 3) := by decide +kernel
theorem dX12_wordsAt_227 : decode cX12_wordsAt 227 = .ok (.iload_n 2, 1) := by decide +kernel
theorem dX12_wordsAt_228 : decode cX12_wordsAt 228 = .ok (.ifCond .eq 14, 3) := by decide +kernel
theorem dX12_wordsAt_231 : decode cX12_wordsAt 231 = .ok (.aload_n 0, 1) := by decide +kernel
theorem dX12_wordsAt_232 : decode cX12_wordsAt 232 = .ok (.getfield 23, 3) := by decide +kernel
theorem dX12_wordsAt_235 : decode cX12_wordsAt 235 = .ok (.ifCond .ne 7, 3) := by decide +kernel
theorem dX12_wordsAt_238 : decode cX12_wordsAt 238 = .ok (.iconst 1, 1) := by decide +kernel
theorem dX12_wordsAt_239 : decode cX12_wordsAt 239 = .ok (.goto 4, 3) := by decide +kernel
theorem dX12_wordsAt_242 : decode cX12_wordsAt 242 = .ok (.iconst 0, 1) := by decide +kernel
theorem dX12_wordsAt_243 : decode cX12_wordsAt 243 = .ok (.istore_n 2, 1) := by decide +kernel
theorem dX12_wordsAt_244 : decode cX12_wordsAt 244 = .ok (.goto (-195), 3) := by decide +kernel
theorem dX12_wordsAt_247 : decode cX12_wordsAt 247 = .ok (.aload_n 0, 1) := by decide +kernel
theorem dX12_wordsAt_248 : decode cX12_wordsAt 248 = .ok (.getfield 105, 3) := by decide +kernel
theorem dX12_wordsAt_251 : decode cX12_wordsAt 251 = .ok (.iload_n 1, 1) := by decide +kernel
theorem dX12_wordsAt_252 : decode cX12_wordsAt 252 = .ok (.aload_n 0, 1) := by decide +kernel
theorem dX12_wordsAt_253 : decode cX12_wordsAt 253 = .ok (.getfield 214, 3) := by decide +kernel
theorem dX12_wordsAt_256 : decode cX12_wordsAt 256 = .ok (.aload_n 0, 1) := by decide +kernel
theorem dX12_wordsAt_257 : decode cX12_wordsAt 257 = .ok (.getfield 96, 3) := by decide +kernel
theorem dX12_wordsAt_260 : decode cX12_wordsAt 260 = .ok (.iload_n 1, 1) := by decide +kernel
theorem dX12_wordsAt_261 : decode cX12_wordsAt 261 = .ok (.iaload, 1) := by decide +kernel
theorem dX12_wordsAt_262 : decode cX12_wordsAt 262 = .ok (.isub, 1) := by decide +kernel
theorem dX12_wordsAt_263 : decode cX12_wordsAt 263 = .ok (.i2l, 1) := by decide +kernel
theorem dX12_wordsAt_264 : decode cX12_wordsAt 264 = .ok (.lastore, 1) := by decide +kernel
theorem dX12_wordsAt_265 : decode cX12_wordsAt 265 = .ok (.return_, 1) := by decide +kernel
abbrev rm_X12_wordsAt : Room := { frames := 4, cells := 0, slots := 0, locals := 83 }
def wp_X12_wordsAt (a : Nat) (p1 : Int32) (S : PS) (Q : PS → Prop) : Prop :=
  (∃ b1, fR S 105 a = some b1 ∧ (vp_in p1 (aN S b1) ∧ ∀ S2, S2 = wI S 42 b1 (p1).toNatClampNeg 8 → (∃ b3, fR S2 107 a = some b3 ∧ wp_X12_number a 1 3 S2 (fun (r5 : Int32) (S4 : PS) => 
 (vp_in p1 (aN S4 b3) ∧ ∀ S6, S6 = wI S4 44 b3 (p1).toNatClampNeg r5 → wp_X12_want a 34 S6 (fun (S7 : PS) => 
 (∃ b8, fR S7 108 a = some b8 ∧ (vp_in p1 (aN S7 b8) ∧ ∀ S9, S9 = wI S7 45 b8 (p1).toNatClampNeg (fI S7 120 a) → (∀ K48_12 : Int32 → PS → Prop, (∀ (t10 : Int32) (S11 : PS),
 (∀ P49_13 : Int32 → PS → Prop, (∀ (x2_14 : Int32) (S15 : PS),
 (if x2_14 = 0 then
 (∃ b16, fR S15 111 a = some b16 ∧ (∃ b17, fR S15 108 a = some b17 ∧ (vp_in p1 (aN S15 b17) ∧ (vp_in p1 (aN S15 b16) ∧ ∀ S18, S18 = wL S15 48 b16 (p1).toNatClampNeg (((fI S15 120 a) - (aI S15 45 b17 (p1).toNatClampNeg)).toInt64) → Q S18))))
 else
 (∀ P53_19 : PS → Prop, (∀ (S20 : PS),
 wp_X12_isHere a 32 S20 (fun (r22 : Int32) (S21 : PS) => 
 (∀ K71_24 : PS → Prop, (∀ (S23 : PS),
 (∀ S25, S25 = sI S23 101 a ((fI S23 101 a) + 1) → P53_19 S25)
 → K71_24 S23) →
 (if r22 = 0 then
 wp_X12_isHere a 10 S21 (fun (r27 : Int32) (S26 : PS) => 
 (if r27 = 0 then
 (∀ v28, v28 = fI S26 101 a → (∀ P89_29 : PS → Prop, (∀ (S30 : PS),
 wp_X12_here a S30 (fun (r32 : Int32) (S31 : PS) => 
 wp_X12_in (r32.toInt64) 33 126 S31 (fun (r34 : Int32) (S33 : PS) => 
 (∀ K128_36 : PS → Prop, (∀ (S35 : PS),
 (∀ K227_39 : Int32 → PS → Prop, (∀ (x2_37 : Int32) (S38 : PS),
 (∀ K243_42 : Int32 → PS → Prop, (∀ (t40 : Int32) (S41 : PS),
 P49_13 t40 S41
 → K243_42 t40 S41) →
 (if x2_37 = 0 then
 K243_42 0 S38
 else
 (if fI S38 102 a = 0 then
 K243_42 1 S38
 else
 K243_42 0 S38)))
 → K227_39 x2_37 S38) →
 (if fI S35 101 a ≤ v28 + 12 then
 (if fI S35 101 a ≤ v28 then
 wp_X12_isHere a 34 S35 (fun (r44 : Int32) (S43 : PS) => 
 (if r44 = 0 then
 wp_X12_bad a 1 (fI S43 101 a) S43 (fun (S45 : PS) => 
 K227_39 x2_14 S45)
 else
 (∀ S46, S46 = sI S43 101 a ((fI S43 101 a) + 1) → K227_39 0 S46)))
 else
 (∃ b47, fR S35 118 a = some b47 ∧ (vp_in (fI S35 120 a) (aN S35 b47) ∧ ∀ S48, S48 = wI S35 53 b47 (fI S35 120 a).toNatClampNeg v28 → (∃ b49, fR S48 119 a = some b49 ∧ (vp_in (fI S48 120 a) (aN S48 b49) ∧ ∀ S50, S50 = wI S48 54 b49 (fI S48 120 a).toNatClampNeg ((fI S48 101 a) - v28) → (∀ S51, S51 = sI S50 120 a ((fI S50 120 a) + 1) → K227_39 x2_14 S51))))))
 else
 wp_X12_bad a 5 v28 S35 (fun (S52 : PS) => 
 K227_39 x2_14 S52)))
 → K128_36 S35) →
 (if r34 = 0 then
 K128_36 S33
 else
 wp_X12_isHere a 34 S33 (fun (r54 : Int32) (S53 : PS) => 
 (if r54 = 0 then
 (∀ S55, S55 = sI S53 101 a ((fI S53 101 a) + 1) → P89_29 S55)
 else
 K128_36 S53))))))
 → P89_29 S30) → P89_29 S26))
 else
 K71_24 S26))
 else
 K71_24 S21)))
 → P53_19 S20) → P53_19 S15))
 → P49_13 x2_14 S15) → P49_13 t10 S11)
 → K48_12 t10 S11) →
 (if fI S9 102 a = 0 then
 K48_12 1 S9
 else
 K48_12 0 S9))))))))))
set_option maxRecDepth 100000 in
set_option maxHeartbeats 4000000 in
theorem c_X12_wordsAt {l : Launch} {E : EE} {A : Nat → Prop} {a : Nat} {p1 : Int32} {S : PS} {Q : PS → Prop} (r_a : Rf S a 9) (h : wp_X12_wordsAt a p1 S Q) : MtV l yX12_wordsAt (.code yX12_wordsAt cX12_wordsAt 4 none) rm_X12_wordsAt E A [.ref a, .int p1] S Q := by
  refine MtV.of (by decide) (Nat.le_of_ble_eq_true rfl) (fun X F hQ hN => ?_)
  show VV X (0, 0) S [(0, .ref a), (1, .int p1)] [] 0
  unfold wp_X12_wordsAt at h
  refine v_aload_n F dX12_wordsAt_0 0 rfl rfl ?_
  refine g_X12_86 F r_a h dX12_wordsAt_1 (fun b1 r_b1 h => ?_)
  refine v_iload_n F dX12_wordsAt_4 1 rfl rfl ?_
  refine v_bipush (v := 8) F dX12_wordsAt_5 (by decide) ?_
  refine v_iast F r_b1 o_42 h dX12_wordsAt_7 (fun S2 h hE => ?_)
  have r_a := r_a.tr hE
  refine v_aload_n F dX12_wordsAt_8 0 rfl rfl ?_
  refine g_X12_93 F r_a h dX12_wordsAt_9 (fun b3 r_b3 h => ?_)
  refine v_iload_n F dX12_wordsAt_12 1 rfl rfl ?_
  refine v_aload_n F dX12_wordsAt_13 0 rfl rfl ?_
  refine v_iconst (v := 1) F dX12_wordsAt_14 (by decide) ?_
  refine v_iconst (v := 3) F dX12_wordsAt_15 (by decide) ?_
  refine v_cI0 (v_runV F k_X12_158 rfl (c_X12_number r_a h) r_a rfl rfl (Nat.le_of_ble_eq_true rfl) (by decide) (by decide) dX12_wordsAt_16) ⟨rfl, rfl⟩ (fun r5 S4 h hE => ?_)
  have r_a := r_a.tr hE
  have r_b3 := r_b3.tr hE
  refine v_iast F r_b3 o_44 h dX12_wordsAt_19 (fun S6 h hE => ?_)
  have r_a := r_a.tr hE
  refine v_aload_n F dX12_wordsAt_20 0 rfl rfl ?_
  refine v_bipush (v := 34) F dX12_wordsAt_21 (by decide) ?_
  refine v_cV0 (v_runV F k_X12_161 rfl (c_X12_want r_a h) r_a rfl rfl (Nat.le_of_ble_eq_true rfl) (by decide) (by decide) dX12_wordsAt_23) ⟨rfl, rfl⟩ (fun  S7 h hE => ?_)
  have r_a := r_a.tr hE
  refine v_aload_n F dX12_wordsAt_26 0 rfl rfl ?_
  refine g_X12_96 F r_a h dX12_wordsAt_27 (fun b8 r_b8 h => ?_)
  refine v_iload_n F dX12_wordsAt_30 1 rfl rfl ?_
  refine v_aload_n F dX12_wordsAt_31 0 rfl rfl ?_
  refine g_X12_214 F r_a dX12_wordsAt_32 ?_
  refine v_iast F r_b8 o_45 h dX12_wordsAt_35 (fun S9 h hE => ?_)
  have r_a := r_a.tr hE
  refine v_aload_n F dX12_wordsAt_36 0 rfl rfl ?_
  refine g_X12_23 F r_a dX12_wordsAt_37 ?_
  have h := h (fun (t10 : Int32) (S11 : PS) => Rf S11 a 9 → VV X (0, 0) S11 [(0, .ref a), (1, .int p1)] [.int t10] 48) (by
    intro t10 S11 h r_a
    refine v_istore_n (lv1 := [(2, .int t10), (0, .ref a), (1, .int p1)]) F dX12_wordsAt_48 rfl (by rw [hN]; decide) rfl ?_
    refine v_sub [1, 2, 0] rfl ?_
    refine h (fun (x2_14 : Int32) (S15 : PS) => Rf S15 a 9 → VV X (0, 0) S15 [(0, .ref a), (1, .int p1), (2, .int x2_14)] [] 49) (fun x2_14 S15 h r_a => ?_) r_a
    refine v_iload_n F dX12_wordsAt_49 2 rfl rfl ?_
    refine v_if_eq (tgt := 247) F dX12_wordsAt_50 (by decide) h (fun h => ?_) (fun h => ?_)
    · refine v_aload_n F dX12_wordsAt_247 0 rfl rfl ?_
      refine g_X12_105 F r_a h dX12_wordsAt_248 (fun b16 r_b16 h => ?_)
      refine v_iload_n F dX12_wordsAt_251 1 rfl rfl ?_
      refine v_aload_n F dX12_wordsAt_252 0 rfl rfl ?_
      refine g_X12_214 F r_a dX12_wordsAt_253 ?_
      refine v_aload_n F dX12_wordsAt_256 0 rfl rfl ?_
      refine g_X12_96 F r_a h dX12_wordsAt_257 (fun b17 r_b17 h => ?_)
      refine v_iload_n F dX12_wordsAt_260 1 rfl rfl ?_
      refine v_iald F r_b17 o_45 h dX12_wordsAt_261 (fun h => ?_)
      refine v_isub F dX12_wordsAt_262 ?_
      refine v_i2l F dX12_wordsAt_263 ?_
      refine v_last F r_b16 o_48 h dX12_wordsAt_264 (fun S18 h hE => ?_)
      have r_a := r_a.tr hE
      exact v_vret F hQ h (by decide) dX12_wordsAt_265
    · refine v_sub [0, 1, 2] rfl ?_
      refine h (fun (S20 : PS) => Rf S20 a 9 → VV X (0, 0) S20 [(0, .ref a), (1, .int p1), (2, .int x2_14)] [] 53) (fun S20 h r_a => ?_) r_a
      refine v_aload_n F dX12_wordsAt_53 0 rfl rfl ?_
      refine v_bipush (v := 32) F dX12_wordsAt_54 (by decide) ?_
      refine v_cI0 (v_runV F k_X12_42 rfl (c_X12_isHere r_a h) r_a rfl rfl (Nat.le_of_ble_eq_true rfl) (by decide) (by decide) dX12_wordsAt_56) ⟨rfl, rfl⟩ (fun r22 S21 h hE => ?_)
      obtain ⟨nz_r22, h⟩ := h
      have r_a := r_a.tr hE
      have h := h (fun (S23 : PS) => Rf S23 a 9 → VV X (0, 0) S23 [(0, .ref a), (1, .int p1), (2, .int x2_14)] [] 71) (by
        intro S23 h r_a
        refine v_aload_n F dX12_wordsAt_71 0 rfl rfl ?_
        refine v_dup F dX12_wordsAt_72 rfl ?_
        refine g_X12_29 F r_a dX12_wordsAt_73 ?_
        refine v_iconst (v := 1) F dX12_wordsAt_76 (by decide) ?_
        refine v_iadd F dX12_wordsAt_77 ?_
        refine p_X12_29 F r_a h dX12_wordsAt_78 (fun S25 h hE => ?_)
        have r_a := r_a.tr hE
        refine v_goto (tgt := 53) F dX12_wordsAt_81 (by decide) ?_
        exact v_sub [0, 1, 2] rfl (h r_a))
      refine v_if_ne (tgt := 71) F dX12_wordsAt_59 (by decide) h (fun h => ?_) (fun h => ?_)
      · exact v_sub [0, 1, 2] rfl (h r_a)
      · refine v_aload_n F dX12_wordsAt_62 0 rfl rfl ?_
        refine v_bipush (v := 10) F dX12_wordsAt_63 (by decide) ?_
        refine v_cI0 (v_runV F k_X12_42 rfl (c_X12_isHere r_a h) r_a rfl rfl (Nat.le_of_ble_eq_true rfl) (by decide) (by decide) dX12_wordsAt_65) ⟨rfl, rfl⟩ (fun r27 S26 h hE => ?_)
        obtain ⟨nz_r27, h⟩ := h
        have r_a := r_a.tr hE
        refine v_if_eq (tgt := 84) F dX12_wordsAt_68 (by decide) h (fun h => ?_) (fun h => ?_)
        · refine v_aload_n F dX12_wordsAt_84 0 rfl rfl ?_
          refine g_X12_29 F r_a dX12_wordsAt_85 ?_
          refine v_topi (fun v28 e_v28 => ?_)
          have h := h v28 e_v28
          refine v_istore_n (lv1 := [(3, .int v28), (0, .ref a), (1, .int p1), (2, .int x2_14)]) F dX12_wordsAt_88 rfl (by rw [hN]; decide) rfl ?_
          refine v_sub [1, 2, 3, 0] rfl ?_
          refine h (fun (S30 : PS) => Rf S30 a 9 → VV X (0, 0) S30 [(0, .ref a), (1, .int p1), (2, .int x2_14), (3, .int v28)] [] 89) (fun S30 h r_a => ?_) r_a
          refine v_aload_n F dX12_wordsAt_89 0 rfl rfl ?_
          refine v_cI0 (v_runV F k_X12_38 rfl (c_X12_here r_a h) r_a rfl rfl (Nat.le_of_ble_eq_true rfl) (by decide) (by decide) dX12_wordsAt_90) ⟨rfl, rfl⟩ (fun r32 S31 h hE => ?_)
          have r_a := r_a.tr hE
          refine v_i2l F dX12_wordsAt_93 ?_
          refine v_ldc2 F kc_X12_217 dX12_wordsAt_94 ?_
          refine v_ldc2 F kc_X12_219 dX12_wordsAt_97 ?_
          refine v_cI0 (v_runS F k_X12_9 (c_X12_in h) rfl rfl (Nat.le_of_ble_eq_true rfl) (by decide) (by decide) dX12_wordsAt_100) ⟨rfl, rfl⟩ (fun r34 S33 h hE => ?_)
          obtain ⟨nz_r34, h⟩ := h
          have r_a := r_a.tr hE
          have h := h (fun (S35 : PS) => Rf S35 a 9 → VV X (0, 0) S35 [(0, .ref a), (1, .int p1), (2, .int x2_14), (3, .int v28)] [] 128) (by
            intro S35 h r_a
            refine v_aload_n F dX12_wordsAt_128 0 rfl rfl ?_
            refine g_X12_29 F r_a dX12_wordsAt_129 ?_
            refine v_iload_n F dX12_wordsAt_132 3 rfl rfl ?_
            refine v_bipush (v := 12) F dX12_wordsAt_133 (by decide) ?_
            refine v_iadd F dX12_wordsAt_135 ?_
            have h := h (fun (x2_37 : Int32) (S38 : PS) => Rf S38 a 9 → VV X (0, 0) S38 [(0, .ref a), (1, .int p1), (2, .int x2_37)] [] 227) (by
              intro x2_37 S38 h r_a
              refine v_iload_n F dX12_wordsAt_227 2 rfl rfl ?_
              have h := h (fun (t40 : Int32) (S41 : PS) => Rf S41 a 9 → VV X (0, 0) S41 [(0, .ref a), (1, .int p1)] [.int t40] 243) (by
                intro t40 S41 h r_a
                refine v_istore_n (lv1 := [(2, .int t40), (0, .ref a), (1, .int p1)]) F dX12_wordsAt_243 rfl (by rw [hN]; decide) rfl ?_
                refine v_goto (tgt := 49) F dX12_wordsAt_244 (by decide) ?_
                exact v_sub [1, 2, 0] rfl (h r_a))
              refine v_if_eq (tgt := 242) F dX12_wordsAt_228 (by decide) h (fun h => ?_) (fun h => ?_)
              · refine v_iconst (v := 0) F dX12_wordsAt_242 (by decide) ?_
                exact v_sub [0, 1] rfl (h r_a)
              · refine v_aload_n F dX12_wordsAt_231 0 rfl rfl ?_
                refine g_X12_23 F r_a dX12_wordsAt_232 ?_
                refine v_if_ne (tgt := 242) F dX12_wordsAt_235 (by decide) h (fun h => ?_) (fun h => ?_)
                · refine v_iconst (v := 0) F dX12_wordsAt_242 (by decide) ?_
                  exact v_sub [0, 1] rfl (h r_a)
                · refine v_iconst (v := 1) F dX12_wordsAt_238 (by decide) ?_
                  refine v_goto (tgt := 243) F dX12_wordsAt_239 (by decide) ?_
                  exact v_sub [0, 1] rfl (h r_a))
            refine v_icmp_le (tgt := 148) F dX12_wordsAt_136 (by decide) h (fun h => ?_) (fun h => ?_)
            · refine v_aload_n F dX12_wordsAt_148 0 rfl rfl ?_
              refine g_X12_29 F r_a dX12_wordsAt_149 ?_
              refine v_iload_n F dX12_wordsAt_152 3 rfl rfl ?_
              refine v_icmp_le (tgt := 194) F dX12_wordsAt_153 (by decide) h (fun h => ?_) (fun h => ?_)
              · refine v_aload_n F dX12_wordsAt_194 0 rfl rfl ?_
                refine v_bipush (v := 34) F dX12_wordsAt_195 (by decide) ?_
                refine v_cI0 (v_runV F k_X12_42 rfl (c_X12_isHere r_a h) r_a rfl rfl (Nat.le_of_ble_eq_true rfl) (by decide) (by decide) dX12_wordsAt_197) ⟨rfl, rfl⟩ (fun r44 S43 h hE => ?_)
                obtain ⟨nz_r44, h⟩ := h
                have r_a := r_a.tr hE
                refine v_if_eq (tgt := 218) F dX12_wordsAt_200 (by decide) h (fun h => ?_) (fun h => ?_)
                · refine v_aload_n F dX12_wordsAt_218 0 rfl rfl ?_
                  refine v_iconst (v := 1) F dX12_wordsAt_219 (by decide) ?_
                  refine v_aload_n F dX12_wordsAt_220 0 rfl rfl ?_
                  refine g_X12_29 F r_a dX12_wordsAt_221 ?_
                  refine v_cV0 (v_runV F k_X12_50 rfl (c_X12_bad r_a h) r_a rfl rfl (Nat.le_of_ble_eq_true rfl) (by decide) (by decide) dX12_wordsAt_224) ⟨rfl, rfl⟩ (fun  S45 h hE => ?_)
                  have r_a := r_a.tr hE
                  exact v_sub [0, 1, 2] rfl (h r_a)
                · refine v_aload_n F dX12_wordsAt_203 0 rfl rfl ?_
                  refine v_dup F dX12_wordsAt_204 rfl ?_
                  refine g_X12_29 F r_a dX12_wordsAt_205 ?_
                  refine v_iconst (v := 1) F dX12_wordsAt_208 (by decide) ?_
                  refine v_iadd F dX12_wordsAt_209 ?_
                  refine p_X12_29 F r_a h dX12_wordsAt_210 (fun S46 h hE => ?_)
                  have r_a := r_a.tr hE
                  refine v_iconst (v := 0) F dX12_wordsAt_213 (by decide) ?_
                  refine v_istore_n (lv1 := [(2, .int 0), (0, .ref a), (1, .int p1), (3, .int v28)]) F dX12_wordsAt_214 rfl (by rw [hN]; decide) rfl ?_
                  refine v_goto (tgt := 227) F dX12_wordsAt_215 (by decide) ?_
                  exact v_sub [1, 2, 0] rfl (h r_a)
              · refine v_aload_n F dX12_wordsAt_156 0 rfl rfl ?_
                refine g_X12_221 F r_a h dX12_wordsAt_157 (fun b47 r_b47 h => ?_)
                refine v_aload_n F dX12_wordsAt_160 0 rfl rfl ?_
                refine g_X12_214 F r_a dX12_wordsAt_161 ?_
                refine v_iload_n F dX12_wordsAt_164 3 rfl rfl ?_
                refine v_iast F r_b47 o_53 h dX12_wordsAt_165 (fun S48 h hE => ?_)
                have r_a := r_a.tr hE
                refine v_aload_n F dX12_wordsAt_166 0 rfl rfl ?_
                refine g_X12_224 F r_a h dX12_wordsAt_167 (fun b49 r_b49 h => ?_)
                refine v_aload_n F dX12_wordsAt_170 0 rfl rfl ?_
                refine g_X12_214 F r_a dX12_wordsAt_171 ?_
                refine v_aload_n F dX12_wordsAt_174 0 rfl rfl ?_
                refine g_X12_29 F r_a dX12_wordsAt_175 ?_
                refine v_iload_n F dX12_wordsAt_178 3 rfl rfl ?_
                refine v_isub F dX12_wordsAt_179 ?_
                refine v_iast F r_b49 o_54 h dX12_wordsAt_180 (fun S50 h hE => ?_)
                have r_a := r_a.tr hE
                refine v_aload_n F dX12_wordsAt_181 0 rfl rfl ?_
                refine v_dup F dX12_wordsAt_182 rfl ?_
                refine g_X12_214 F r_a dX12_wordsAt_183 ?_
                refine v_iconst (v := 1) F dX12_wordsAt_186 (by decide) ?_
                refine v_iadd F dX12_wordsAt_187 ?_
                refine p_X12_214 F r_a h dX12_wordsAt_188 (fun S51 h hE => ?_)
                have r_a := r_a.tr hE
                refine v_goto (tgt := 227) F dX12_wordsAt_191 (by decide) ?_
                exact v_sub [0, 1, 2] rfl (h r_a)
            · refine v_aload_n F dX12_wordsAt_139 0 rfl rfl ?_
              refine v_iconst (v := 5) F dX12_wordsAt_140 (by decide) ?_
              refine v_iload_n F dX12_wordsAt_141 3 rfl rfl ?_
              refine v_cV0 (v_runV F k_X12_50 rfl (c_X12_bad r_a h) r_a rfl rfl (Nat.le_of_ble_eq_true rfl) (by decide) (by decide) dX12_wordsAt_142) ⟨rfl, rfl⟩ (fun  S52 h hE => ?_)
              have r_a := r_a.tr hE
              refine v_goto (tgt := 227) F dX12_wordsAt_145 (by decide) ?_
              exact v_sub [0, 1, 2] rfl (h r_a))
          refine v_if_eq (tgt := 128) F dX12_wordsAt_103 (by decide) h (fun h => ?_) (fun h => ?_)
          · exact v_sub [0, 1, 2, 3] rfl (h r_a)
          · refine v_aload_n F dX12_wordsAt_106 0 rfl rfl ?_
            refine v_bipush (v := 34) F dX12_wordsAt_107 (by decide) ?_
            refine v_cI0 (v_runV F k_X12_42 rfl (c_X12_isHere r_a h) r_a rfl rfl (Nat.le_of_ble_eq_true rfl) (by decide) (by decide) dX12_wordsAt_109) ⟨rfl, rfl⟩ (fun r54 S53 h hE => ?_)
            obtain ⟨nz_r54, h⟩ := h
            have r_a := r_a.tr hE
            refine v_if_ne (tgt := 128) F dX12_wordsAt_112 (by decide) h (fun h => ?_) (fun h => ?_)
            · exact v_sub [0, 1, 2, 3] rfl (h r_a)
            · refine v_aload_n F dX12_wordsAt_115 0 rfl rfl ?_
              refine v_dup F dX12_wordsAt_116 rfl ?_
              refine g_X12_29 F r_a dX12_wordsAt_117 ?_
              refine v_iconst (v := 1) F dX12_wordsAt_120 (by decide) ?_
              refine v_iadd F dX12_wordsAt_121 ?_
              refine p_X12_29 F r_a h dX12_wordsAt_122 (fun S55 h hE => ?_)
              have r_a := r_a.tr hE
              refine v_goto (tgt := 89) F dX12_wordsAt_125 (by decide) ?_
              exact v_sub [0, 1, 2, 3] rfl (h r_a)
        · exact v_sub [0, 1, 2] rfl (h r_a))
  refine v_if_ne (tgt := 47) F dX12_wordsAt_40 (by decide) h (fun h => ?_) (fun h => ?_)
  · refine v_iconst (v := 0) F dX12_wordsAt_47 (by decide) ?_
    exact v_sub [0, 1] rfl (h r_a)
  · refine v_iconst (v := 1) F dX12_wordsAt_43 (by decide) ?_
    refine v_goto (tgt := 48) F dX12_wordsAt_44 (by decide) ?_
    exact v_sub [0, 1] rfl (h r_a)
theorem dX12_letters_0 : decode cX12_letters 0 = .ok (.aload_n 0, 1) := by decide +kernel
theorem dX12_letters_1 : decode cX12_letters 1 = .ok (.getfield 29, 3) := by decide +kernel
theorem dX12_letters_4 : decode cX12_letters 4 = .ok (.istore_n 1, 1) := by decide +kernel
theorem dX12_letters_5 : decode cX12_letters 5 = .ok (.aload_n 0, 1) := by decide +kernel
theorem dX12_letters_6 : decode cX12_letters 6 = .ok (.invokevirtual 38, 3) := by decide +kernel
theorem dX12_letters_9 : decode cX12_letters 9 = .ok (.invokestatic 227, 3) := by decide +kernel
theorem dX12_letters_12 : decode cX12_letters 12 = .ok (.ifCond .eq 16, 3) := by decide +kernel
theorem dX12_letters_15 : decode cX12_letters 15 = .ok (.aload_n 0, 1) := by decide +kernel
theorem dX12_letters_16 : decode cX12_letters 16 = .ok (.dup, 1) := by decide +kernel
theorem dX12_letters_17 : decode cX12_letters 17 = .ok (.getfield 29, 3) := by decide +kernel
theorem dX12_letters_20 : decode cX12_letters 20 = .ok (.iconst 1, 1) := by decide +kernel
theorem dX12_letters_21 : decode cX12_letters 21 = .ok (.iadd, 1) := by decide +kernel
theorem dX12_letters_22 : decode cX12_letters 22 = .ok (.putfield 29, 3) := by decide +kernel
theorem dX12_letters_25 : decode cX12_letters 25 = .ok (.goto (-20), 3) := by decide +kernel
theorem dX12_letters_28 : decode cX12_letters 28 = .ok (.aload_n 0, 1) := by decide +kernel
theorem dX12_letters_29 : decode cX12_letters 29 = .ok (.getfield 29, 3) := by decide +kernel
theorem dX12_letters_32 : decode cX12_letters 32 = .ok (.iload_n 1, 1) := by decide +kernel
theorem dX12_letters_33 : decode cX12_letters 33 = .ok (.isub, 1) := by decide +kernel
theorem dX12_letters_34 : decode cX12_letters 34 = .ok (.ireturn, 1) := by decide +kernel
abbrev rm_X12_letters : Room := { frames := 1, cells := 0, slots := 0, locals := 20 }
def wp_X12_letters (a : Nat) (S : PS) (Q : Int32 → PS → Prop) : Prop :=
  (∀ v1, v1 = fI S 101 a → (∀ P5_2 : PS → Prop, (∀ (S3 : PS),
 wp_X12_here a S3 (fun (r5 : Int32) (S4 : PS) => 
 wp_X12_isLetter r5 S4 (fun (r7 : Int32) (S6 : PS) => 
 (if r7 = 0 then
 Q ((fI S6 101 a) - v1) S6
 else
 (∀ S8, S8 = sI S6 101 a ((fI S6 101 a) + 1) → P5_2 S8))))
 → P5_2 S3) → P5_2 S))
set_option maxRecDepth 100000 in
set_option maxHeartbeats 4000000 in
theorem c_X12_letters {l : Launch} {E : EE} {A : Nat → Prop} {a : Nat} {S : PS} {Q : Int32 → PS → Prop} (r_a : Rf S a 9) (h : wp_X12_letters a S Q) : MtI l yX12_letters (.code yX12_letters cX12_letters 2 (some .int)) rm_X12_letters E A [.ref a] S Q := by
  refine MtI.of (by decide) (Nat.le_of_ble_eq_true rfl) (fun X F hQ hN => ?_)
  show VV X (0, 0) S [(0, .ref a)] [] 0
  unfold wp_X12_letters at h
  refine v_aload_n F dX12_letters_0 0 rfl rfl ?_
  refine g_X12_29 F r_a dX12_letters_1 ?_
  refine v_topi (fun v1 e_v1 => ?_)
  have h := h v1 e_v1
  refine v_istore_n (lv1 := [(1, .int v1), (0, .ref a)]) F dX12_letters_4 rfl (by rw [hN]; decide) rfl ?_
  refine v_sub [1, 0] rfl ?_
  refine h (fun (S3 : PS) => Rf S3 a 9 → VV X (0, 0) S3 [(0, .ref a), (1, .int v1)] [] 5) (fun S3 h r_a => ?_) r_a
  refine v_aload_n F dX12_letters_5 0 rfl rfl ?_
  refine v_cI0 (v_runV F k_X12_38 rfl (c_X12_here r_a h) r_a rfl rfl (Nat.le_of_ble_eq_true rfl) (by decide) (by decide) dX12_letters_6) ⟨rfl, rfl⟩ (fun r5 S4 h hE => ?_)
  have r_a := r_a.tr hE
  refine v_cI0 (v_runS F k_X12_227 (c_X12_isLetter h) rfl rfl (Nat.le_of_ble_eq_true rfl) (by decide) (by decide) dX12_letters_9) ⟨rfl, rfl⟩ (fun r7 S6 h hE => ?_)
  obtain ⟨nz_r7, h⟩ := h
  have r_a := r_a.tr hE
  refine v_if_eq (tgt := 28) F dX12_letters_12 (by decide) h (fun h => ?_) (fun h => ?_)
  · refine v_aload_n F dX12_letters_28 0 rfl rfl ?_
    refine g_X12_29 F r_a dX12_letters_29 ?_
    refine v_iload_n F dX12_letters_32 1 rfl rfl ?_
    refine v_isub F dX12_letters_33 ?_
    exact v_iret F hQ h (by decide) dX12_letters_34
  · refine v_aload_n F dX12_letters_15 0 rfl rfl ?_
    refine v_dup F dX12_letters_16 rfl ?_
    refine g_X12_29 F r_a dX12_letters_17 ?_
    refine v_iconst (v := 1) F dX12_letters_20 (by decide) ?_
    refine v_iadd F dX12_letters_21 ?_
    refine p_X12_29 F r_a h dX12_letters_22 (fun S8 h hE => ?_)
    have r_a := r_a.tr hE
    refine v_goto (tgt := 5) F dX12_letters_25 (by decide) ?_
    exact v_sub [0, 1] rfl (h r_a)
theorem dX12_alike_0 : decode cX12_alike 0 = .ok (.iload_n 2, 1) := by decide +kernel
theorem dX12_alike_1 : decode cX12_alike 1 = .ok (.iload 4, 2) := by decide +kernel
theorem dX12_alike_3 : decode cX12_alike 3 = .ok (.if_icmp .ne 7, 3) := by decide +kernel
theorem dX12_alike_6 : decode cX12_alike 6 = .ok (.iconst 1, 1) := by decide +kernel
theorem dX12_alike_7 : decode cX12_alike 7 = .ok (.goto 4, 3) := by decide +kernel
theorem dX12_alike_10 : decode cX12_alike 10 = .ok (.iconst 0, 1) := by decide +kernel
theorem dX12_alike_11 : decode cX12_alike 11 = .ok (.istore 5, 2) := by decide +kernel
theorem dX12_alike_13 : decode cX12_alike 13 = .ok (.iconst 0, 1) := by decide +kernel
theorem dX12_alike_14 : decode cX12_alike 14 = .ok (.istore 6, 2) := by decide +kernel
theorem dX12_alike_16 : decode cX12_alike 16 = .ok (.iload 6, 2) := by decide +kernel
theorem dX12_alike_18 : decode cX12_alike 18 = .ok (.iload_n 2, 1) := by decide +kernel
theorem dX12_alike_19 : decode cX12_alike 19 = .ok (.if_icmp .ge 42, 3) := by decide +kernel
theorem dX12_alike_22 : decode cX12_alike 22 = .ok (.iload 5, 2) := by decide +kernel
theorem dX12_alike_24 : decode cX12_alike 24 = .ok (.ifCond .eq 37, 3) := by decide +kernel
theorem dX12_alike_27 : decode cX12_alike 27 = .ok (.aload_n 0, 1) := by decide +kernel
theorem dX12_alike_28 : decode cX12_alike 28 = .ok (.getfield 35, 3) := by decide +kernel
theorem dX12_alike_31 : decode cX12_alike 31 = .ok (.iload_n 1, 1) := by decide +kernel
theorem dX12_alike_32 : decode cX12_alike 32 = .ok (.iload 6, 2) := by decide +kernel
theorem dX12_alike_34 : decode cX12_alike 34 = .ok (.iadd, 1) := by decide +kernel
theorem dX12_alike_35 : decode cX12_alike 35 = .ok (.baload, 1) := by decide +kernel
theorem dX12_alike_36 : decode cX12_alike 36 = .ok (.aload_n 0, 1) := by decide +kernel
theorem dX12_alike_37 : decode cX12_alike 37 = .ok (.getfield 35, 3) := by decide +kernel
theorem dX12_alike_40 : decode cX12_alike 40 = .ok (.iload_n 3, 1) := by decide +kernel
theorem dX12_alike_41 : decode cX12_alike 41 = .ok (.iload 6, 2) := by decide +kernel
theorem dX12_alike_43 : decode cX12_alike 43 = .ok (.iadd, 1) := by decide +kernel
theorem dX12_alike_44 : decode cX12_alike 44 = .ok (.baload, 1) := by decide +kernel
theorem dX12_alike_45 : decode cX12_alike 45 = .ok (.if_icmp .ne 7, 3) := by decide +kernel
theorem dX12_alike_48 : decode cX12_alike 48 = .ok (.iconst 1, 1) := by decide +kernel
theorem dX12_alike_49 : decode cX12_alike 49 = .ok (.goto 4, 3) := by decide +kernel
theorem dX12_alike_52 : decode cX12_alike 52 = .ok (.iconst 0, 1) := by decide +kernel
theorem dX12_alike_53 : decode cX12_alike 53 = .ok (.istore 5, 2) := by decide +kernel
theorem dX12_alike_55 : decode cX12_alike 55 = .ok (.iinc 6 1, 3) := by decide +kernel
theorem dX12_alike_58 : decode cX12_alike 58 = .ok (.goto (-42), 3) := by decide +kernel
theorem dX12_alike_61 : decode cX12_alike 61 = .ok (.iload 5, 2) := by decide +kernel
theorem dX12_alike_63 : decode cX12_alike 63 = .ok (.ireturn, 1) := by decide +kernel
abbrev rm_X12_alike : Room := { frames := 0, cells := 0, slots := 0, locals := 0 }
def wp_X12_alike (a : Nat) (p1 : Int32) (p2 : Int32) (p3 : Int32) (p4 : Int32) (S : PS) (Q : Int32 → PS → Prop) : Prop :=
  (∀ K11_3 : Int32 → PS → Prop, (∀ (t1 : Int32) (S2 : PS),
 (∀ P16_4 : Int32 → Int32 → PS → Prop, (∀ (x5_5 : Int32) (x6_6 : Int32) (S7 : PS),
 (if p2 ≤ x6_6 then
 (nz x5_5 ∧ Q x5_5 S7)
 else
 (if x5_5 = 0 then
 (nz x5_5 ∧ Q x5_5 S7)
 else
 (∃ b8, fR S7 99 a = some b8 ∧ (vp_in (p1 + x6_6) (aN S7 b8) ∧ (∃ b9, fR S7 99 a = some b9 ∧ (vp_in (p3 + x6_6) (aN S7 b9) ∧ (∀ K53_12 : Int32 → PS → Prop, (∀ (t10 : Int32) (S11 : PS),
 (∀ v13, v13 = x6_6 + 1 → P16_4 t10 v13 S11)
 → K53_12 t10 S11) →
 (if aI S7 41 b8 (p1 + x6_6).toNatClampNeg = aI S7 41 b9 (p3 + x6_6).toNatClampNeg then
 K53_12 1 S7
 else
 K53_12 0 S7))))))))
 → P16_4 x5_5 x6_6 S7) → P16_4 t1 0 S2)
 → K11_3 t1 S2) →
 (if p2 = p4 then
 K11_3 1 S
 else
 K11_3 0 S))
set_option maxRecDepth 100000 in
set_option maxHeartbeats 4000000 in
theorem c_X12_alike {l : Launch} {E : EE} {A : Nat → Prop} {a : Nat} {p1 : Int32} {p2 : Int32} {p3 : Int32} {p4 : Int32} {S : PS} {Q : Int32 → PS → Prop} (r_a : Rf S a 9) (h : wp_X12_alike a p1 p2 p3 p4 S Q) : MtI l yX12_alike (.code yX12_alike cX12_alike 7 (some .boolean)) rm_X12_alike E A [.ref a, .int p1, .int p2, .int p3, .int p4] S (fun r S1 => nz r ∧ Q r S1) := by
  refine MtI.of (by decide) (Nat.le_of_ble_eq_true rfl) (fun X F hQ hN => ?_)
  show VV X (0, 0) S [(0, .ref a), (1, .int p1), (2, .int p2), (3, .int p3), (4, .int p4)] [] 0
  unfold wp_X12_alike at h
  refine v_iload_n F dX12_alike_0 2 rfl rfl ?_
  refine v_iload F dX12_alike_1 4 rfl ?_
  have h := h (fun (t1 : Int32) (S2 : PS) => Rf S2 a 9 → VV X (0, 0) S2 [(0, .ref a), (1, .int p1), (2, .int p2), (3, .int p3)] [.int t1] 11) (by
    intro t1 S2 h r_a
    refine v_istore (lv1 := [(5, .int t1), (0, .ref a), (1, .int p1), (2, .int p2), (3, .int p3)]) F dX12_alike_11 (by rw [hN]; decide) rfl ?_
    refine v_iconst (v := 0) F dX12_alike_13 (by decide) ?_
    refine v_istore (lv1 := [(6, .int 0), (5, .int t1), (0, .ref a), (1, .int p1), (2, .int p2), (3, .int p3)]) F dX12_alike_14 (by rw [hN]; decide) rfl ?_
    refine v_sub [2, 3, 4, 5, 1, 0] rfl ?_
    refine h (fun (x5_5 : Int32) (x6_6 : Int32) (S7 : PS) => Rf S7 a 9 → VV X (0, 0) S7 [(0, .ref a), (1, .int p1), (2, .int p2), (3, .int p3), (5, .int x5_5), (6, .int x6_6)] [] 16) (fun x5_5 x6_6 S7 h r_a => ?_) r_a
    refine v_iload F dX12_alike_16 5 rfl ?_
    refine v_iload_n F dX12_alike_18 2 rfl rfl ?_
    refine v_icmp_ge (tgt := 61) F dX12_alike_19 (by decide) h (fun h => ?_) (fun h => ?_)
    · refine v_iload F dX12_alike_61 4 rfl ?_
      exact v_zret F hQ h.1 h (by decide) dX12_alike_63
    · refine v_iload F dX12_alike_22 4 rfl ?_
      refine v_if_eq (tgt := 61) F dX12_alike_24 (by decide) h (fun h => ?_) (fun h => ?_)
      · refine v_iload F dX12_alike_61 4 rfl ?_
        exact v_zret F hQ h.1 h (by decide) dX12_alike_63
      · refine v_aload_n F dX12_alike_27 0 rfl rfl ?_
        refine g_X12_35 F r_a h dX12_alike_28 (fun b8 r_b8 h => ?_)
        refine v_iload_n F dX12_alike_31 1 rfl rfl ?_
        refine v_iload F dX12_alike_32 5 rfl ?_
        refine v_iadd F dX12_alike_34 ?_
        refine v_bald F r_b8 o_41 h dX12_alike_35 (fun h => ?_)
        refine v_aload_n F dX12_alike_36 0 rfl rfl ?_
        refine g_X12_35 F r_a h dX12_alike_37 (fun b9 r_b9 h => ?_)
        refine v_iload_n F dX12_alike_40 3 rfl rfl ?_
        refine v_iload F dX12_alike_41 5 rfl ?_
        refine v_iadd F dX12_alike_43 ?_
        refine v_bald F r_b9 o_41 h dX12_alike_44 (fun h => ?_)
        have h := h (fun (t10 : Int32) (S11 : PS) => Rf S11 a 9 → VV X (0, 0) S11 [(0, .ref a), (1, .int p1), (2, .int p2), (3, .int p3), (6, .int x6_6)] [.int t10] 53) (by
          intro t10 S11 h r_a
          refine v_istore (lv1 := [(5, .int t10), (0, .ref a), (1, .int p1), (2, .int p2), (3, .int p3), (6, .int x6_6)]) F dX12_alike_53 (by rw [hN]; decide) rfl ?_
          obtain ⟨v13, e_v13⟩ : ∃ y : Int32, y = x6_6 + 1 := ⟨_, rfl⟩
          have h := h v13 e_v13
          refine v_iinc (v := v13) (lv1 := [(6, .int v13), (5, .int t10), (0, .ref a), (1, .int p1), (2, .int p2), (3, .int p3)]) F dX12_alike_55 (q := 5) rfl (by rw [e_v13]; rfl) (by rw [hN]; decide) rfl ?_
          refine v_goto (tgt := 16) F dX12_alike_58 (by decide) ?_
          exact v_sub [2, 3, 4, 5, 1, 0] rfl (h r_a))
        refine v_icmp_ne (tgt := 52) F dX12_alike_45 (by decide) h (fun h => ?_) (fun h => ?_)
        · refine v_iconst (v := 0) F dX12_alike_52 (by decide) ?_
          exact v_sub [0, 1, 2, 3, 5] rfl (h r_a)
        · refine v_iconst (v := 1) F dX12_alike_48 (by decide) ?_
          refine v_goto (tgt := 53) F dX12_alike_49 (by decide) ?_
          exact v_sub [0, 1, 2, 3, 5] rfl (h r_a))
  refine v_icmp_ne (tgt := 10) F dX12_alike_3 (by decide) h (fun h => ?_) (fun h => ?_)
  · refine v_iconst (v := 0) F dX12_alike_10 (by decide) ?_
    exact v_sub [0, 1, 2, 3] rfl (h r_a)
  · refine v_iconst (v := 1) F dX12_alike_6 (by decide) ?_
    refine v_goto (tgt := 11) F dX12_alike_7 (by decide) ?_
    exact v_sub [0, 1, 2, 3] rfl (h r_a)
theorem dX12_nameOf_0 : decode cX12_nameOf 0 = .ok (.iconst 0, 1) := by decide +kernel
theorem dX12_nameOf_1 : decode cX12_nameOf 1 = .ok (.istore_n 3, 1) := by decide +kernel
theorem dX12_nameOf_2 : decode cX12_nameOf 2 = .ok (.iload_n 3, 1) := by decide +kernel
theorem dX12_nameOf_3 : decode cX12_nameOf 3 = .ok (.aload_n 0, 1) := by decide +kernel
theorem dX12_nameOf_4 : decode cX12_nameOf 4 = .ok (.getfield 230, 3) := by decide +kernel
theorem dX12_nameOf_7 : decode cX12_nameOf 7 = .ok (.if_icmp .ge 32, 3) := by decide +kernel
theorem dX12_nameOf_10 : decode cX12_nameOf 10 = .ok (.aload_n 0, 1) := by decide +kernel
theorem dX12_nameOf_11 : decode cX12_nameOf 11 = .ok (.aload_n 0, 1) := by decide +kernel
theorem dX12_nameOf_12 : decode cX12_nameOf 12 = .ok (.getfield 233, 3) := by decide +kernel
theorem dX12_nameOf_15 : decode cX12_nameOf 15 = .ok (.iload_n 3, 1) := by decide +kernel
theorem dX12_nameOf_16 : decode cX12_nameOf 16 = .ok (.iaload, 1) := by decide +kernel
theorem dX12_nameOf_17 : decode cX12_nameOf 17 = .ok (.aload_n 0, 1) := by decide +kernel
theorem dX12_nameOf_18 : decode cX12_nameOf 18 = .ok (.getfield 236, 3) := by decide +kernel
theorem dX12_nameOf_21 : decode cX12_nameOf 21 = .ok (.iload_n 3, 1) := by decide +kernel
theorem dX12_nameOf_22 : decode cX12_nameOf 22 = .ok (.iaload, 1) := by decide +kernel
theorem dX12_nameOf_23 : decode cX12_nameOf 23 = .ok (.iload_n 1, 1) := by decide +kernel
theorem dX12_nameOf_24 : decode cX12_nameOf 24 = .ok (.iload_n 2, 1) := by decide +kernel
theorem dX12_nameOf_25 : decode cX12_nameOf 25 = .ok (.invokevirtual 239, 3) := by decide +kernel
theorem dX12_nameOf_28 : decode cX12_nameOf 28 = .ok (.ifCond .eq 5, 3) := by decide +kernel
theorem dX12_nameOf_31 : decode cX12_nameOf 31 = .ok (.iload_n 3, 1) := by decide +kernel
theorem dX12_nameOf_32 : decode cX12_nameOf 32 = .ok (.ireturn, 1) := by decide +kernel
theorem dX12_nameOf_33 : decode cX12_nameOf 33 = .ok (.iinc 3 1, 3) := by decide +kernel
theorem dX12_nameOf_36 : decode cX12_nameOf 36 = .ok (.goto (-34), 3) := by decide +kernel
theorem dX12_nameOf_39 : decode cX12_nameOf 39 = .ok (.iconst (-1), 1) := by decide +kernel
theorem dX12_nameOf_40 : decode cX12_nameOf 40 = .ok (.ireturn, 1) := by decide +kernel
abbrev rm_X12_nameOf : Room := { frames := 1, cells := 0, slots := 0, locals := 26 }
def wp_X12_nameOf (a : Nat) (p1 : Int32) (p2 : Int32) (S : PS) (Q : Int32 → PS → Prop) : Prop :=
  (∀ P2_1 : Int32 → PS → Prop, (∀ (x3_2 : Int32) (S3 : PS),
 (if fI S3 125 a ≤ x3_2 then
 Q (-1) S3
 else
 (∃ b4, fR S3 121 a = some b4 ∧ (vp_in x3_2 (aN S3 b4) ∧ (∃ b5, fR S3 122 a = some b5 ∧ (vp_in x3_2 (aN S3 b5) ∧ wp_X12_alike a (aI S3 55 b4 (x3_2).toNatClampNeg) (aI S3 56 b5 (x3_2).toNatClampNeg) p1 p2 S3 (fun (r7 : Int32) (S6 : PS) => 
 (if r7 = 0 then
 (∀ v8, v8 = x3_2 + 1 → P2_1 v8 S6)
 else
 Q x3_2 S6)))))))
 → P2_1 x3_2 S3) → P2_1 0 S)
set_option maxRecDepth 100000 in
set_option maxHeartbeats 4000000 in
theorem c_X12_nameOf {l : Launch} {E : EE} {A : Nat → Prop} {a : Nat} {p1 : Int32} {p2 : Int32} {S : PS} {Q : Int32 → PS → Prop} (r_a : Rf S a 9) (h : wp_X12_nameOf a p1 p2 S Q) : MtI l yX12_nameOf (.code yX12_nameOf cX12_nameOf 4 (some .int)) rm_X12_nameOf E A [.ref a, .int p1, .int p2] S Q := by
  refine MtI.of (by decide) (Nat.le_of_ble_eq_true rfl) (fun X F hQ hN => ?_)
  show VV X (0, 0) S [(0, .ref a), (1, .int p1), (2, .int p2)] [] 0
  unfold wp_X12_nameOf at h
  refine v_iconst (v := 0) F dX12_nameOf_0 (by decide) ?_
  refine v_istore_n (lv1 := [(3, .int 0), (0, .ref a), (1, .int p1), (2, .int p2)]) F dX12_nameOf_1 rfl (by rw [hN]; decide) rfl ?_
  refine v_sub [1, 2, 3, 0] rfl ?_
  refine h (fun (x3_2 : Int32) (S3 : PS) => Rf S3 a 9 → VV X (0, 0) S3 [(0, .ref a), (1, .int p1), (2, .int p2), (3, .int x3_2)] [] 2) (fun x3_2 S3 h r_a => ?_) r_a
  refine v_iload_n F dX12_nameOf_2 3 rfl rfl ?_
  refine v_aload_n F dX12_nameOf_3 0 rfl rfl ?_
  refine g_X12_230 F r_a dX12_nameOf_4 ?_
  refine v_icmp_ge (tgt := 39) F dX12_nameOf_7 (by decide) h (fun h => ?_) (fun h => ?_)
  · refine v_iconst (v := (-1)) F dX12_nameOf_39 (by decide) ?_
    exact v_iret F hQ h (by decide) dX12_nameOf_40
  · refine v_aload_n F dX12_nameOf_10 0 rfl rfl ?_
    refine v_aload_n F dX12_nameOf_11 0 rfl rfl ?_
    refine g_X12_233 F r_a h dX12_nameOf_12 (fun b4 r_b4 h => ?_)
    refine v_iload_n F dX12_nameOf_15 3 rfl rfl ?_
    refine v_iald F r_b4 o_55 h dX12_nameOf_16 (fun h => ?_)
    refine v_aload_n F dX12_nameOf_17 0 rfl rfl ?_
    refine g_X12_236 F r_a h dX12_nameOf_18 (fun b5 r_b5 h => ?_)
    refine v_iload_n F dX12_nameOf_21 3 rfl rfl ?_
    refine v_iald F r_b5 o_56 h dX12_nameOf_22 (fun h => ?_)
    refine v_iload_n F dX12_nameOf_23 1 rfl rfl ?_
    refine v_iload_n F dX12_nameOf_24 2 rfl rfl ?_
    refine v_cI0 (v_runV F k_X12_239 rfl (c_X12_alike r_a h) r_a rfl rfl (Nat.le_of_ble_eq_true rfl) (by decide) (by decide) dX12_nameOf_25) ⟨rfl, rfl⟩ (fun r7 S6 h hE => ?_)
    obtain ⟨nz_r7, h⟩ := h
    have r_a := r_a.tr hE
    refine v_if_eq (tgt := 33) F dX12_nameOf_28 (by decide) h (fun h => ?_) (fun h => ?_)
    · obtain ⟨v8, e_v8⟩ : ∃ y : Int32, y = x3_2 + 1 := ⟨_, rfl⟩
      have h := h v8 e_v8
      refine v_iinc (v := v8) (lv1 := [(3, .int v8), (0, .ref a), (1, .int p1), (2, .int p2)]) F dX12_nameOf_33 (q := 3) rfl (by rw [e_v8]; rfl) (by rw [hN]; decide) rfl ?_
      refine v_goto (tgt := 2) F dX12_nameOf_36 (by decide) ?_
      exact v_sub [1, 2, 3, 0] rfl (h r_a)
    · refine v_iload_n F dX12_nameOf_31 3 rfl rfl ?_
      exact v_iret F hQ h (by decide) dX12_nameOf_32
theorem dX12_newName_0 : decode cX12_newName 0 = .ok (.aload_n 0, 1) := by decide +kernel
theorem dX12_newName_1 : decode cX12_newName 1 = .ok (.getfield 29, 3) := by decide +kernel
theorem dX12_newName_4 : decode cX12_newName 4 = .ok (.istore_n 2, 1) := by decide +kernel
theorem dX12_newName_5 : decode cX12_newName 5 = .ok (.aload_n 0, 1) := by decide +kernel
theorem dX12_newName_6 : decode cX12_newName 6 = .ok (.invokevirtual 256, 3) := by decide +kernel
theorem dX12_newName_9 : decode cX12_newName 9 = .ok (.istore_n 3, 1) := by decide +kernel
theorem dX12_newName_10 : decode cX12_newName 10 = .ok (.aload_n 0, 1) := by decide +kernel
theorem dX12_newName_11 : decode cX12_newName 11 = .ok (.iload_n 2, 1) := by decide +kernel
theorem dX12_newName_12 : decode cX12_newName 12 = .ok (.iload_n 3, 1) := by decide +kernel
theorem dX12_newName_13 : decode cX12_newName 13 = .ok (.invokevirtual 259, 3) := by decide +kernel
theorem dX12_newName_16 : decode cX12_newName 16 = .ok (.iconst (-1), 1) := by decide +kernel
theorem dX12_newName_17 : decode cX12_newName 17 = .ok (.if_icmp .eq 7, 3) := by decide +kernel
theorem dX12_newName_20 : decode cX12_newName 20 = .ok (.iconst 1, 1) := by decide +kernel
theorem dX12_newName_21 : decode cX12_newName 21 = .ok (.goto 4, 3) := by decide +kernel
theorem dX12_newName_24 : decode cX12_newName 24 = .ok (.iconst 0, 1) := by decide +kernel
theorem dX12_newName_25 : decode cX12_newName 25 = .ok (.istore 4, 2) := by decide +kernel
theorem dX12_newName_27 : decode cX12_newName 27 = .ok (.iconst 0, 1) := by decide +kernel
theorem dX12_newName_28 : decode cX12_newName 28 = .ok (.istore 5, 2) := by decide +kernel
theorem dX12_newName_30 : decode cX12_newName 30 = .ok (.iload 5, 2) := by decide +kernel
theorem dX12_newName_32 : decode cX12_newName 32 = .ok (.iload_n 1, 1) := by decide +kernel
theorem dX12_newName_33 : decode cX12_newName 33 = .ok (.if_icmp .ge 44, 3) := by decide +kernel
theorem dX12_newName_36 : decode cX12_newName 36 = .ok (.iload 4, 2) := by decide +kernel
theorem dX12_newName_38 : decode cX12_newName 38 = .ok (.ifCond .ne 26, 3) := by decide +kernel
theorem dX12_newName_41 : decode cX12_newName 41 = .ok (.aload_n 0, 1) := by decide +kernel
theorem dX12_newName_42 : decode cX12_newName 42 = .ok (.aload_n 0, 1) := by decide +kernel
theorem dX12_newName_43 : decode cX12_newName 43 = .ok (.getfield 250, 3) := by decide +kernel
theorem dX12_newName_46 : decode cX12_newName 46 = .ok (.iload 5, 2) := by decide +kernel
theorem dX12_newName_48 : decode cX12_newName 48 = .ok (.iaload, 1) := by decide +kernel
theorem dX12_newName_49 : decode cX12_newName 49 = .ok (.aload_n 0, 1) := by decide +kernel
theorem dX12_newName_50 : decode cX12_newName 50 = .ok (.getfield 253, 3) := by decide +kernel
theorem dX12_newName_53 : decode cX12_newName 53 = .ok (.iload 5, 2) := by decide +kernel
theorem dX12_newName_55 : decode cX12_newName 55 = .ok (.iaload, 1) := by decide +kernel
theorem dX12_newName_56 : decode cX12_newName 56 = .ok (.iload_n 2, 1) := by decide +kernel
theorem dX12_newName_57 : decode cX12_newName 57 = .ok (.iload_n 3, 1) := by decide +kernel
theorem dX12_newName_58 : decode cX12_newName 58 = .ok (.invokevirtual 239, 3) := by decide +kernel
theorem dX12_newName_61 : decode cX12_newName 61 = .ok (.ifCond .eq 7, 3) := by decide +kernel
theorem dX12_newName_64 : decode cX12_newName 64 = .ok (.iconst 1, 1) := by decide +kernel
theorem dX12_newName_65 : decode cX12_newName 65 = .ok (.goto 4, 3) := by decide +kernel
theorem dX12_newName_68 : decode cX12_newName 68 = .ok (.iconst 0, 1) := by decide +kernel
theorem dX12_newName_69 : decode cX12_newName 69 = .ok (.istore 4, 2) := by decide +kernel
theorem dX12_newName_71 : decode cX12_newName 71 = .ok (.iinc 5 1, 3) := by decide +kernel
theorem dX12_newName_74 : decode cX12_newName 74 = .ok (.goto (-44), 3) := by decide +kernel
theorem dX12_newName_77 : decode cX12_newName 77 = .ok (.iload 4, 2) := by decide +kernel
theorem dX12_newName_79 : decode cX12_newName 79 = .ok (.ifCond .eq 12, 3) := by decide +kernel
theorem dX12_newName_82 : decode cX12_newName 82 = .ok (.aload_n 0, 1) := by decide +kernel
theorem dX12_newName_83 : decode cX12_newName 83 = .ok (.iconst 4, 1) := by decide +kernel
theorem dX12_newName_84 : decode cX12_newName 84 = .ok (.iload_n 2, 1) := by decide +kernel
theorem dX12_newName_85 : decode cX12_newName 85 = .ok (.invokevirtual 50, 3) := by decide +kernel
theorem dX12_newName_88 : decode cX12_newName 88 = .ok (.goto 37, 3) := by decide +kernel
theorem dX12_newName_91 : decode cX12_newName 91 = .ok (.iload_n 1, 1) := by decide +kernel
theorem dX12_newName_92 : decode cX12_newName 92 = .ok (.iconst 4, 1) := by decide +kernel
theorem dX12_newName_93 : decode cX12_newName 93 = .ok (.if_icmp .gt 9, 3) := by decide +kernel
theorem dX12_newName_96 : decode cX12_newName 96 = .ok (.iload_n 3, 1) := by decide +kernel
theorem dX12_newName_97 : decode cX12_newName 97 = .ok (.bipush 6, 2) := by decide +kernel
theorem dX12_newName_99 : decode cX12_newName 99 = .ok (.if_icmp .le 12, 3) := by decide +kernel
theorem dX12_newName_102 : decode cX12_newName 102 = .ok (.aload_n 0, 1) := by decide +kernel
theorem dX12_newName_103 : decode cX12_newName 103 = .ok (.iconst 5, 1) := by decide +kernel
theorem dX12_newName_104 : decode cX12_newName 104 = .ok (.iload_n 2, 1) := by decide +kernel
theorem dX12_newName_105 : decode cX12_newName 105 = .ok (.invokevirtual 50, 3) := by decide +kernel
theorem dX12_newName_108 : decode cX12_newName 108 = .ok (.goto 17, 3) := by decide +kernel
theorem dX12_newName_111 : decode cX12_newName 111 = .ok (.aload_n 0, 1) := by decide +kernel
theorem dX12_newName_112 : decode cX12_newName 112 = .ok (.getfield 250, 3) := by decide +kernel
theorem dX12_newName_115 : decode cX12_newName 115 = .ok (.iload_n 1, 1) := by decide +kernel
theorem dX12_newName_116 : decode cX12_newName 116 = .ok (.iload_n 2, 1) := by decide +kernel
theorem dX12_newName_117 : decode cX12_newName 117 = .ok (.iastore, 1) := by decide +kernel
theorem dX12_newName_118 : decode cX12_newName 118 = .ok (.aload_n 0, 1) := by decide +kernel
theorem dX12_newName_119 : decode cX12_newName 119 = .ok (.getfield 253, 3) := by decide +kernel
theorem dX12_newName_122 : decode cX12_newName 122 = .ok (.iload_n 1, 1) := by decide +kernel
theorem dX12_newName_123 : decode cX12_newName 123 = .ok (.iload_n 3, 1) := by decide +kernel
theorem dX12_newName_124 : decode cX12_newName 124 = .ok (.iastore, 1) := by decide +kernel
theorem dX12_newName_125 : decode cX12_newName 125 = .ok (.return_, 1) := by decide +kernel
abbrev rm_X12_newName : Room := { frames := 2, cells := 0, slots := 0, locals := 49 }
def wp_X12_newName (a : Nat) (p1 : Int32) (S : PS) (Q : PS → Prop) : Prop :=
  (∀ v1, v1 = fI S 101 a → wp_X12_letters a S (fun (r3 : Int32) (S2 : PS) => 
 wp_X12_nameOf a v1 r3 S2 (fun (r5 : Int32) (S4 : PS) => 
 (∀ K25_8 : Int32 → PS → Prop, (∀ (t6 : Int32) (S7 : PS),
 (∀ P30_9 : Int32 → Int32 → PS → Prop, (∀ (x4_10 : Int32) (x5_11 : Int32) (S12 : PS),
 (if p1 ≤ x5_11 then
 (if x4_10 = 0 then
 (∀ K102_14 : PS → Prop, (∀ (S13 : PS),
 wp_X12_bad a 5 v1 S13 (fun (S15 : PS) => 
 Q S15)
 → K102_14 S13) →
 (if 4 < p1 then
 K102_14 S12
 else
 (if r3 ≤ 6 then
 (∃ b16, fR S12 127 a = some b16 ∧ (vp_in p1 (aN S12 b16) ∧ ∀ S17, S17 = wI S12 59 b16 (p1).toNatClampNeg v1 → (∃ b18, fR S17 128 a = some b18 ∧ (vp_in p1 (aN S17 b18) ∧ ∀ S19, S19 = wI S17 60 b18 (p1).toNatClampNeg r3 → Q S19))))
 else
 K102_14 S12)))
 else
 wp_X12_bad a 4 v1 S12 (fun (S20 : PS) => 
 Q S20))
 else
 (∀ K69_23 : Int32 → PS → Prop, (∀ (t21 : Int32) (S22 : PS),
 (∀ v24, v24 = x5_11 + 1 → P30_9 t21 v24 S22)
 → K69_23 t21 S22) →
 (if x4_10 = 0 then
 (∃ b25, fR S12 127 a = some b25 ∧ (vp_in x5_11 (aN S12 b25) ∧ (∃ b26, fR S12 128 a = some b26 ∧ (vp_in x5_11 (aN S12 b26) ∧ wp_X12_alike a (aI S12 59 b25 (x5_11).toNatClampNeg) (aI S12 60 b26 (x5_11).toNatClampNeg) v1 r3 S12 (fun (r28 : Int32) (S27 : PS) => 
 (if r28 = 0 then
 K69_23 0 S27
 else
 K69_23 1 S27))))))
 else
 K69_23 1 S12)))
 → P30_9 x4_10 x5_11 S12) → P30_9 t6 0 S7)
 → K25_8 t6 S7) →
 (if r5 = (-1) then
 K25_8 0 S4
 else
 K25_8 1 S4)))))
set_option maxRecDepth 100000 in
set_option maxHeartbeats 4000000 in
theorem c_X12_newName {l : Launch} {E : EE} {A : Nat → Prop} {a : Nat} {p1 : Int32} {S : PS} {Q : PS → Prop} (r_a : Rf S a 9) (h : wp_X12_newName a p1 S Q) : MtV l yX12_newName (.code yX12_newName cX12_newName 6 none) rm_X12_newName E A [.ref a, .int p1] S Q := by
  refine MtV.of (by decide) (Nat.le_of_ble_eq_true rfl) (fun X F hQ hN => ?_)
  show VV X (0, 0) S [(0, .ref a), (1, .int p1)] [] 0
  unfold wp_X12_newName at h
  refine v_aload_n F dX12_newName_0 0 rfl rfl ?_
  refine g_X12_29 F r_a dX12_newName_1 ?_
  refine v_topi (fun v1 e_v1 => ?_)
  have h := h v1 e_v1
  refine v_istore_n (lv1 := [(2, .int v1), (0, .ref a), (1, .int p1)]) F dX12_newName_4 rfl (by rw [hN]; decide) rfl ?_
  refine v_aload_n F dX12_newName_5 1 rfl rfl ?_
  refine v_cI0 (v_runV F k_X12_256 rfl (c_X12_letters r_a h) r_a rfl rfl (Nat.le_of_ble_eq_true rfl) (by decide) (by decide) dX12_newName_6) ⟨rfl, rfl⟩ (fun r3 S2 h hE => ?_)
  have r_a := r_a.tr hE
  refine v_istore_n (lv1 := [(3, .int r3), (2, .int v1), (0, .ref a), (1, .int p1)]) F dX12_newName_9 rfl (by rw [hN]; decide) rfl ?_
  refine v_aload_n F dX12_newName_10 2 rfl rfl ?_
  refine v_iload_n F dX12_newName_11 1 rfl rfl ?_
  refine v_iload_n F dX12_newName_12 0 rfl rfl ?_
  refine v_cI0 (v_runV F k_X12_259 rfl (c_X12_nameOf r_a h) r_a rfl rfl (Nat.le_of_ble_eq_true rfl) (by decide) (by decide) dX12_newName_13) ⟨rfl, rfl⟩ (fun r5 S4 h hE => ?_)
  have r_a := r_a.tr hE
  refine v_iconst (v := (-1)) F dX12_newName_16 (by decide) ?_
  have h := h (fun (t6 : Int32) (S7 : PS) => Rf S7 a 9 → VV X (0, 0) S7 [(0, .ref a), (1, .int p1), (2, .int v1), (3, .int r3)] [.int t6] 25) (by
    intro t6 S7 h r_a
    refine v_istore (lv1 := [(4, .int t6), (0, .ref a), (1, .int p1), (2, .int v1), (3, .int r3)]) F dX12_newName_25 (by rw [hN]; decide) rfl ?_
    refine v_iconst (v := 0) F dX12_newName_27 (by decide) ?_
    refine v_istore (lv1 := [(5, .int 0), (4, .int t6), (0, .ref a), (1, .int p1), (2, .int v1), (3, .int r3)]) F dX12_newName_28 (by rw [hN]; decide) rfl ?_
    refine v_sub [2, 3, 4, 5, 1, 0] rfl ?_
    refine h (fun (x4_10 : Int32) (x5_11 : Int32) (S12 : PS) => Rf S12 a 9 → VV X (0, 0) S12 [(0, .ref a), (1, .int p1), (2, .int v1), (3, .int r3), (4, .int x4_10), (5, .int x5_11)] [] 30) (fun x4_10 x5_11 S12 h r_a => ?_) r_a
    refine v_iload F dX12_newName_30 5 rfl ?_
    refine v_iload_n F dX12_newName_32 1 rfl rfl ?_
    refine v_icmp_ge (tgt := 77) F dX12_newName_33 (by decide) h (fun h => ?_) (fun h => ?_)
    · refine v_iload F dX12_newName_77 4 rfl ?_
      refine v_if_eq (tgt := 91) F dX12_newName_79 (by decide) h (fun h => ?_) (fun h => ?_)
      · refine v_iload_n F dX12_newName_91 1 rfl rfl ?_
        refine v_iconst (v := 4) F dX12_newName_92 (by decide) ?_
        have h := h (fun (S13 : PS) => Rf S13 a 9 → VV X (0, 0) S13 [(0, .ref a), (2, .int v1)] [] 102) (by
          intro S13 h r_a
          refine v_aload_n F dX12_newName_102 0 rfl rfl ?_
          refine v_iconst (v := 5) F dX12_newName_103 (by decide) ?_
          refine v_iload_n F dX12_newName_104 1 rfl rfl ?_
          refine v_cV0 (v_runV F k_X12_50 rfl (c_X12_bad r_a h) r_a rfl rfl (Nat.le_of_ble_eq_true rfl) (by decide) (by decide) dX12_newName_105) ⟨rfl, rfl⟩ (fun  S15 h hE => ?_)
          have r_a := r_a.tr hE
          refine v_goto (tgt := 125) F dX12_newName_108 (by decide) ?_
          exact v_vret F hQ h (by decide) dX12_newName_125)
        refine v_icmp_gt (tgt := 102) F dX12_newName_93 (by decide) h (fun h => ?_) (fun h => ?_)
        · exact v_sub [0, 2] rfl (h r_a)
        · refine v_iload_n F dX12_newName_96 3 rfl rfl ?_
          refine v_bipush (v := 6) F dX12_newName_97 (by decide) ?_
          refine v_icmp_le (tgt := 111) F dX12_newName_99 (by decide) h (fun h => ?_) (fun h => ?_)
          · refine v_aload_n F dX12_newName_111 0 rfl rfl ?_
            refine g_X12_250 F r_a h dX12_newName_112 (fun b16 r_b16 h => ?_)
            refine v_iload_n F dX12_newName_115 1 rfl rfl ?_
            refine v_iload_n F dX12_newName_116 2 rfl rfl ?_
            refine v_iast F r_b16 o_59 h dX12_newName_117 (fun S17 h hE => ?_)
            have r_a := r_a.tr hE
            refine v_aload_n F dX12_newName_118 0 rfl rfl ?_
            refine g_X12_253 F r_a h dX12_newName_119 (fun b18 r_b18 h => ?_)
            refine v_iload_n F dX12_newName_122 1 rfl rfl ?_
            refine v_iload_n F dX12_newName_123 3 rfl rfl ?_
            refine v_iast F r_b18 o_60 h dX12_newName_124 (fun S19 h hE => ?_)
            have r_a := r_a.tr hE
            exact v_vret F hQ h (by decide) dX12_newName_125
          · exact v_sub [0, 2] rfl (h r_a)
      · refine v_aload_n F dX12_newName_82 0 rfl rfl ?_
        refine v_iconst (v := 4) F dX12_newName_83 (by decide) ?_
        refine v_iload_n F dX12_newName_84 2 rfl rfl ?_
        refine v_cV0 (v_runV F k_X12_50 rfl (c_X12_bad r_a h) r_a rfl rfl (Nat.le_of_ble_eq_true rfl) (by decide) (by decide) dX12_newName_85) ⟨rfl, rfl⟩ (fun  S20 h hE => ?_)
        have r_a := r_a.tr hE
        refine v_goto (tgt := 125) F dX12_newName_88 (by decide) ?_
        exact v_vret F hQ h (by decide) dX12_newName_125
    · refine v_iload F dX12_newName_36 4 rfl ?_
      have h := h (fun (t21 : Int32) (S22 : PS) => Rf S22 a 9 → VV X (0, 0) S22 [(0, .ref a), (1, .int p1), (2, .int v1), (3, .int r3), (5, .int x5_11)] [.int t21] 69) (by
        intro t21 S22 h r_a
        refine v_istore (lv1 := [(4, .int t21), (0, .ref a), (1, .int p1), (2, .int v1), (3, .int r3), (5, .int x5_11)]) F dX12_newName_69 (by rw [hN]; decide) rfl ?_
        obtain ⟨v24, e_v24⟩ : ∃ y : Int32, y = x5_11 + 1 := ⟨_, rfl⟩
        have h := h v24 e_v24
        refine v_iinc (v := v24) (lv1 := [(5, .int v24), (4, .int t21), (0, .ref a), (1, .int p1), (2, .int v1), (3, .int r3)]) F dX12_newName_71 (q := 5) rfl (by rw [e_v24]; rfl) (by rw [hN]; decide) rfl ?_
        refine v_goto (tgt := 30) F dX12_newName_74 (by decide) ?_
        exact v_sub [2, 3, 4, 5, 1, 0] rfl (h r_a))
      refine v_if_ne (tgt := 64) F dX12_newName_38 (by decide) h (fun h => ?_) (fun h => ?_)
      · refine v_iconst (v := 1) F dX12_newName_64 (by decide) ?_
        refine v_goto (tgt := 69) F dX12_newName_65 (by decide) ?_
        exact v_sub [0, 1, 2, 3, 5] rfl (h r_a)
      · refine v_aload_n F dX12_newName_41 0 rfl rfl ?_
        refine v_aload_n F dX12_newName_42 0 rfl rfl ?_
        refine g_X12_250 F r_a h dX12_newName_43 (fun b25 r_b25 h => ?_)
        refine v_iload F dX12_newName_46 5 rfl ?_
        refine v_iald F r_b25 o_59 h dX12_newName_48 (fun h => ?_)
        refine v_aload_n F dX12_newName_49 0 rfl rfl ?_
        refine g_X12_253 F r_a h dX12_newName_50 (fun b26 r_b26 h => ?_)
        refine v_iload F dX12_newName_53 5 rfl ?_
        refine v_iald F r_b26 o_60 h dX12_newName_55 (fun h => ?_)
        refine v_iload_n F dX12_newName_56 2 rfl rfl ?_
        refine v_iload_n F dX12_newName_57 3 rfl rfl ?_
        refine v_cI0 (v_runV F k_X12_239 rfl (c_X12_alike r_a h) r_a rfl rfl (Nat.le_of_ble_eq_true rfl) (by decide) (by decide) dX12_newName_58) ⟨rfl, rfl⟩ (fun r28 S27 h hE => ?_)
        obtain ⟨nz_r28, h⟩ := h
        have r_a := r_a.tr hE
        refine v_if_eq (tgt := 68) F dX12_newName_61 (by decide) h (fun h => ?_) (fun h => ?_)
        · refine v_iconst (v := 0) F dX12_newName_68 (by decide) ?_
          exact v_sub [0, 1, 2, 3, 5] rfl (h r_a)
        · refine v_iconst (v := 1) F dX12_newName_64 (by decide) ?_
          refine v_goto (tgt := 69) F dX12_newName_65 (by decide) ?_
          exact v_sub [0, 1, 2, 3, 5] rfl (h r_a))
  refine v_icmp_eq (tgt := 24) F dX12_newName_17 (by decide) h (fun h => ?_) (fun h => ?_)
  · refine v_iconst (v := 0) F dX12_newName_24 (by decide) ?_
    exact v_sub [2, 3, 1, 0] rfl (h r_a)
  · refine v_iconst (v := 1) F dX12_newName_20 (by decide) ?_
    refine v_goto (tgt := 25) F dX12_newName_21 (by decide) ?_
    exact v_sub [2, 3, 1, 0] rfl (h r_a)
